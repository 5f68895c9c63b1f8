/-! weights of a port; the scene; who is stuck -/
def wM (M : Nat → Int32) (x u : Nat) : Int := if 1 ≤ x ∧ x ≤ 24 then 1000 + (M (4 + x)).toInt + (if u = 2 then (M 3).toInt else if u = 3 then (M 4).toInt else 0) else 1000
def wC (M : Nat → Int32) (n x u : Nat) : Int := if x ≤ n then wM M x u else 1000
def am (M : Nat → Int32) (i : Nat) : Nat := (M (53 + i)).toNatClampNeg
theorem wM_b {M : Nat → Int32} {n np kind : Nat} (h : PW M n np kind) (x u : Nat) : 1000 ≤ wM M x u ∧ wM M x u ≤ 1018 := by
  obtain ⟨-, -, -, -, -, -, ⟨l, hl, el⟩, ⟨m, hm, em⟩, hc, -, -⟩ := h
  unfold wM
  split
  · rename_i hx
    obtain ⟨c, h1, h2⟩ := hc (x - 1) (by omega)
    rw [show 5 + (x - 1) = 4 + x by omega] at h2
    rw [h2, el, em, I_toInt (by omega) (by omega), I_toInt (by omega) (by omega), I_toInt (by omega) (by omega)]
    split
    · omega
    · split <;> omega
  · omega
theorem wM_WB {M : Nat → Int32} {n np kind : Nat} (h : PW M n np kind) : WB (wM M) := ⟨fun x u => by have := wM_b h x u; omega, fun x u _ _ _ _ => wM_b h x u⟩
theorem wC_0 {M : Nat → Int32} {n np kind : Nat} (h : PW M n np kind) (x u : Nat) : 0 ≤ wC M n x u := by
  have := wM_b h x u
  unfold wC
  split <;> omega
theorem wC_eq {M : Nat → Int32} {n x : Nat} (hx : x ≤ n) (u : Nat) : wC M n x u = wM M x u := if_pos hx
theorem MPr_of {g : Nat → Nat → Int32} {n np kind : Nat} (h : PW (g 84) n np kind) : MPr g (wM (g 84)) := by
  obtain ⟨-, -, -, -, -, -, ⟨l, hl, el⟩, ⟨m, hm, em⟩, hc, -, -⟩ := h
  intro x h1 h2
  obtain ⟨c, q1, q2⟩ := hc (x - 1) (by omega)
  rw [show 5 + (x - 1) = 4 + x by omega] at q2
  unfold wM
  simp only [h1, h2, and_self, if_true, q2, el, em, I_toInt (show -2147483648 ≤ (c : Int) by omega) (by omega), I_toInt (show -2147483648 ≤ (l : Int) by omega) (by omega), I_toInt (show -2147483648 ≤ (m : Int) by omega) (by omega), I_add, Nat.reduceEqDiff, if_false, reduceIte]
  exact ⟨congrArg I (by omega), congrArg I (by omega), congrArg I (by omega)⟩
theorem am_e {M : Nat → Int32} {n np kind i : Nat} (h : PW M n np kind) (hi : i < np) : M (53 + i) = I (am M i) ∧ 1 ≤ am M i ∧ am M i ≤ 99 := by
  obtain ⟨-, -, -, -, -, -, -, -, -, -, ha⟩ := h
  obtain ⟨a, h1, h2⟩ := ha i hi
  unfold am
  rw [h2, I_ix (by omega)]
  exact ⟨rfl, h1⟩
/-- nothing above the numbers -/
def LO (n : Nat) (x : Int32) : Prop := ∀ i, n ≤ i → i < 32 → bt x i = false
theorem LO_and {n : Nat} {x : Int32} (h : LO n x) (y : Int32) : LO n (x &&& y) := fun i h1 h2 => by rw [bt_and, h i h1 h2, Bool.false_and]
theorem LO_or {n : Nat} {x y : Int32} (h : LO n x) (h' : LO n y) : LO n (x ||| y) := fun i h1 h2 => by rw [bt_or, h i h1 h2, h' i h1 h2]; rfl
theorem LO_0 {n : Nat} : LO n 0 := fun i _ _ => bt_0 i
theorem LO_mk {n : Nat} (hn : n ≤ 24) (f : Nat → Bool) : LO n (mk n f) := fun i h1 h2 => by rw [bt_mk (by omega) _ h2, decide_eq_false (by omega), Bool.false_and]
theorem LO_us {wt : Nat → Nat → Int} {kind a n : Nat} {may : Int32} (h : LO n may) : LO n (us (BS wt kind may a)) := fun i h1 h2 => by
  apply Bool.eq_false_iff.mpr
  intro hb
  have := us_may h2 hb
  rw [h i h1 h2] at this
  cases this
theorem LO_24 {n : Nat} {x : Int32} (hn : n ≤ 24) (h : LO n x) : pc 32 x = pc 24 x := pc_32 (fun i h1 h2 => h i (by omega) h2)
theorem spr_congr {wt wt' : Nat → Nat → Int} : ∀ (L : List (Nat × Nat)), (∀ q ∈ L, wt q.1 q.2 = wt' q.1 q.2) → spr wt L = spr wt' L := by
  intro L
  induction L with
  | nil => intro _; rfl
  | cons q L ih =>
    intro h
    show wt q.1 q.2 - 1000 + spr wt L = wt' q.1 q.2 - 1000 + spr wt' L
    rw [h q List.mem_cons_self, ih (fun x hx => h x (List.mem_cons_of_mem _ hx))]
theorem BS_lo {wt : Nat → Nat → Int} {kind a n : Nat} {may : Int32} (h : LO n may) : ∀ q ∈ BS wt kind may a, q.1 ≤ n := by
  intro q hq
  have h1 := BS_rng q hq
  have h2 := BS_may hq
  rcases Nat.lt_or_ge n q.1 with c | c
  · rw [h (q.1 - 1) (by omega) (by omega)] at h2; cases h2
  · exact c
/-- the best saying by a port -/
abbrev BT (M : Nat → Int32) (kind : Nat) (may : Int32) (a : Nat) : List (Nat × Nat) := BS (wM M) kind may a
def stk (M : Nat → Int32) (kind : Nat) (O : Nat → Int32) (A : Nat → Nat) : List Nat → Int32 → Int32 → Int32
  | [], _, s => s
  | i :: l, t, s => stk M kind O A l (t ||| us (BT M kind (O i &&& (t ^^^ (-1))) (A i))) (if BT M kind (O i &&& (t ^^^ (-1))) (A i) = [] then s ||| b1 i else s)
def whl (who : Int32) (i m : Nat) : List Nat := (List.range' i m).filter (fun i => bt who i)
theorem whl_s (who : Int32) (i m : Nat) : whl who i (m + 1) = if bt who i = true then i :: whl who (i + 1) m else whl who (i + 1) m := by
  unfold whl
  rw [List.range'_succ]
  by_cases h : bt who i = true
  · rw [if_pos h, List.filter_cons_of_pos (p := fun i => bt who i) h]
  · rw [if_neg h, List.filter_cons_of_neg (p := fun i => bt who i) h]
theorem whl_6 {who : Int32} {np : Nat} (hn : np ≤ 6) (h : LO np who) : whl who 0 6 = whl who 0 np := by
  unfold whl
  rw [show (6 : Nat) = np + (6 - np) by omega, ← List.range'_append_1, List.filter_append]
  have : (List.range' (0 + np) (6 - np)).filter (fun i => bt who i) = [] := by
    rw [List.filter_eq_nil_iff]
    intro x hx
    have hx := List.mem_range'_1.mp hx
    rw [h x (by omega) (by omega)]
    decide
  rw [this, List.append_nil]
theorem b1_I {k : Nat} (h : k < 1000) : (1 : Int32) <<< (I (k : Int) &&& 31) = b1 k := rfl
def SX (M : Nat → Int32) (n : Nat) (g : Nat → Nat → Int32) : Prop := SAY g (wC M n)
section T
variable {p q w v : Nat} {ds : Nat → Nat}
theorem X_fd {g : Nat → Nat → Int32} {M : Nat → Int32} {n np k0 : Nat} {may : Int32} {kind a : Nat} (hM : PW M n np k0) (hk : kind ≤ 3) (hS : SX M n g) (hm : LO n may) (ha : 1 ≤ a ∧ a ≤ 99) :
    ∃ g', f_X5_find (g, RF p q w v ds) 61 may (I a) (I kind) = some (us (BT M kind may a), (g', RF p q w v ds)) ∧ SX M n g' ∧ Sb SYC g g' ∧ FND g' (wM M) (BT M kind may a) := by
  obtain ⟨g', h1, h2, h3, s, h4, h5, h6⟩ := X_find (p := p) (q := q) (w := w) (v := v) (ds := ds) may (wC_0 hM) hk hS ha
  have e : BS (wC M n) kind may a = BT M kind may a := BS_congr hm (fun x _ hx u => wC_eq hx u)
  rw [e] at h1 h6
  refine ⟨g', h1, h2, h3, s, h4, h5, h6.1, h6.2.1, h6.2.2.1, ?_⟩
  rw [h6.2.2.2, spr_congr _ (fun q hq => wC_eq (BS_lo hm q hq) q.2)]
theorem X_mayUse {g : Nat → Nat → Int32} {i : Nat} (hi : i < 6) (t : Int32) : f_X6_mayUse (g, RF p q w v ds) 75 (I i) t = some ((g 75 3 ||| g 77 i) &&& (t ^^^ (-1)), (g, RF p q w v ds)) := by
  have c1 : ¬ I (i : Int) < 0 := fun z => by have := (I_lt (b := 0) (by omega) (by omega)).mp z; omega
  have c2 : I (i : Int) < 6 := (I_lt (b := 6) (by omega) (by omega)).mpr (by omega)
  unfold f_X6_mayUse
  simp only [r_75_5, r_75_6, r_78_5, r_78_6, r_78_7, r_78_8, r_78_9, k_75, n_75, k_76, n_76, k_77, n_77, k_78, n_78, k_79, n_79, k_80, n_80, k_81, n_81, k_82, n_82, gd, lt, bd_s, if_true, if_false, reduceIte, si_uc, uc_s, uc_n, upd_s, upd_n, Nat.reduceEqDiff, ne_eq, not_false_eq_true, not_true_eq_false, if_neg c1, if_pos c2, I_in (show i < 6 by omega) (by omega), I_ix (show i < 1000000 by omega)]
/-- the scene as far as those who speak go -/
def SC (g : Nat → Nat → Int32) (M : Nat → Int32) (n : Nat) (who : Int32) (kind : Nat) (O : Nat → Int32) (A : Nat → Nat) : Prop := g 75 0 = who ∧ g 75 4 = I kind ∧ kind ≤ 3 ∧ (∀ i, i < 6 → g 75 3 ||| g 77 i = O i ∧ LO n (O i)) ∧ (∀ i, i < 6 → bt who i = true → g 76 i = I (A i) ∧ 1 ≤ A i ∧ A i ≤ 99)
theorem SC.keep {g g' : Nat → Nat → Int32} {M : Nat → Int32} {n : Nat} {who : Int32} {kind : Nat} {O : Nat → Int32} {A : Nat → Nat} (h : SC g M n who kind O A) (e5 : g' 75 = g 75) (e6 : g' 76 = g 76) (e7 : g' 77 = g 77) : SC g' M n who kind O A := by
  unfold SC at h ⊢
  rw [e5, e6, e7]
  exact h
theorem X_stk_lp {M : Nat → Int32} {n np k0 : Nat} {who : Int32} {kind : Nat} {O : Nat → Int32} {A : Nat → Nat} (hM : PW M n np k0) : ∀ (m fu i : Nat) (g : Nat → Nat → Int32) (t s : Int32), m < fu → i + m = 6 → SX M n g → SC g M n who kind O A →
    ∃ g', f_X1_stuckIn_10 fu (g, RF p q w v ds) 78 75 t s (I i) = some (stk M kind O A (whl who i m) t s, (g', RF p q w v ds)) ∧ SX M n g' ∧ Sb SYC g g' := by
  intro m
  induction m with
  | zero =>
    intro fu i g t s hf hi hS hC
    obtain ⟨fu, rfl⟩ : ∃ k, fu = k + 1 := ⟨fu - 1, by omega⟩
    have c1 : (6 : Int32) ≤ I (i : Int) := (I_le (a := 6) (by omega) (by omega)).mpr (by omega)
    refine ⟨g, ?_, hS, Sb.rf⟩
    simp only [f_X1_stuckIn_10, if_pos c1]
    rfl
  | succ m ih =>
    intro fu i g t s hf hi hS hC
    obtain ⟨fu, rfl⟩ : ∃ k, fu = k + 1 := ⟨fu - 1, by omega⟩
    have c1 : ¬ (6 : Int32) ≤ I (i : Int) := fun z => by have := (I_le (a := 6) (by omega) (by omega)).mp z; omega
    simp only [f_X1_stuckIn_10, if_neg c1, hC.1, X_hasBit _ _ (show i < 32 by omega), bd_s, I_s]
    rw [whl_s]
    cases hb : bt who i with
    | false =>
      simp only [Bool.false_eq_true, if_false, if_true, reduceIte]
      exact ih fu (i + 1) g t s (by omega) (by omega) hS hC
    | true =>
      obtain ⟨a1, a2⟩ := hC.2.2.2.2 i (by omega) hb
      obtain ⟨o1, o2⟩ := hC.2.2.2.1 i (by omega)
      obtain ⟨g1, b1', b2, b3, b4⟩ := X_fd (p := p) (q := q) (w := w) (v := v) (ds := ds) (may := O i &&& (t ^^^ (-1))) hM hC.2.2.1 hS (LO_and o2 _) a2
      simp only [if_true, reduceIte]
      rw [if_neg (by decide)]
      simp only [r_75_5, r_75_6, r_78_5, r_78_6, r_78_7, r_78_8, r_78_9, k_75, n_75, k_76, n_76, k_77, n_77, k_78, n_78, k_79, n_79, k_80, n_80, k_81, n_81, k_82, n_82, k_61, gd, lt, bd_s, if_true, if_false, reduceIte, si_uc, uc_s, uc_n, upd_s, upd_n, Nat.reduceEqDiff, ne_eq, not_false_eq_true, not_true_eq_false, X_mayUse (show i < 6 by omega), I_in (show i < 6 by omega) (show 6 < 1000000 by omega), I_ix (show i < 1000000 by omega), a1, hC.2.1, o1, b1', b1_I (show i < 1000 by omega)]
      have hC1 : SC g1 M n who kind O A := hC.keep (b3 75 (by decide)) (b3 76 (by decide)) (b3 77 (by decide))
      show ∃ g', _ = some (stk M kind O A (whl who (i + 1) m) _ (if BT M kind (O i &&& (t ^^^ (-1))) (A i) = [] then s ||| b1 i else s), _) ∧ _
      by_cases he : BT M kind (O i &&& (t ^^^ (-1))) (A i) = []
      · rw [if_pos (us_0.mpr he), if_pos he]
        obtain ⟨g', d1, d2, d3⟩ := ih fu (i + 1) g1 (t ||| us (BT M kind (O i &&& (t ^^^ (-1))) (A i))) (s ||| b1 i) (by omega) (by omega) b2 hC1
        exact ⟨g', d1, d2, Sb.tr b3 d3⟩
      · rw [if_neg (fun z => he (us_0.mp z)), if_neg he, or_z]
        obtain ⟨g', d1, d2, d3⟩ := ih fu (i + 1) g1 (t ||| us (BT M kind (O i &&& (t ^^^ (-1))) (A i))) s (by omega) (by omega) b2 hC1
        exact ⟨g', d1, d2, Sb.tr b3 d3⟩
theorem X_stk {g : Nat → Nat → Int32} {M : Nat → Int32} {n np k0 : Nat} {who : Int32} {kind : Nat} {O : Nat → Int32} {A : Nat → Nat} (hM : PW M n np k0) (hS : SX M n g) (hC : SC g M n who kind O A) :
    ∃ g', f_X1_stuckIn (g, RF p q w v ds) 78 75 = some (stk M kind O A (whl who 0 6) (g 75 2) 0, (g', RF p q w v ds)) ∧ SX M n g' ∧ Sb SYC g g' := by
  obtain ⟨g', h1, h2⟩ := X_stk_lp (p := p) (q := q) (w := w) (v := v) (ds := ds) hM 6 FU 0 g (g 75 2) 0 (FU_lt (by omega)) (by omega) hS hC
  refine ⟨g', ?_, h2⟩
  unfold f_X1_stuckIn
  simp only [r_75_5, r_75_6, r_78_5, r_78_6, r_78_7, r_78_8, r_78_9, k_75, n_75, k_76, n_76, k_77, n_77, k_78, n_78, k_79, n_79, k_80, n_80, k_81, n_81, k_82, n_82, gd, lt, bd_s, if_true, if_false, reduceIte, si_uc, uc_s, uc_n, upd_s, upd_n, Nat.reduceEqDiff, ne_eq, not_false_eq_true, not_true_eq_false]
  exact h1
/-- what the reference's search for a best saying may change -/
def MF (g g' : Nat → Nat → Int32) : Prop := (∀ j, j < 16 ∨ 18 < j → g' 83 j = g 83 j) ∧ Sb [83, 92] g g'
theorem MF.rf {g : Nat → Nat → Int32} : MF g g := ⟨fun _ _ => rfl, Sb.rf⟩
theorem MF.tr {g g' g'' : Nat → Nat → Int32} (h : MF g g') (h' : MF g' g'') : MF g g'' := ⟨fun j hj => (h'.1 j hj).trans (h.1 j hj), Sb.tr h.2 h'.2⟩
theorem OUT.mf {g g' : Nat → Nat → Int32} {L : List (Nat × Nat)} (h : OUT g g' L) : MF g g' := ⟨h.2.2.2.1, h.2.2.2.2⟩
theorem M_bo {g : Nat → Nat → Int32} {may : Int32} {kind a n np k0 : Nat} (hM : PW (g 84) n np k0) (hk : kind ≤ 3) (hm : LO n may) (ha : 1 ≤ a ∧ a ≤ 99) :
    ∃ g', f_X12_bestOf (g, RF p q w v ds) 83 may (I a) (I kind) = some (RES (wM (g 84)) (BT (g 84) kind may a), (g', RF p q w v ds)) ∧ OUT g g' (BT (g 84) kind may a) := M_best may hk (wM_WB hM) hM.2.1.2 (MPr_of hM) hM.1 hm ha
theorem M_hasBest {g : Nat → Nat → Int32} {n np k0 kind fr i : Nat} (t : Int32) (hM : PW (g 84) n np k0) (hk : kind ≤ 3) (hfr : g 83 12 = I fr) (hf : fr ≤ 24) (hi : i < np) :
    ∃ g', f_X12_hasBest (g, RF p q w v ds) 83 (I i) t (I kind) = some (if BT (g 84) kind (owM n (g 84) (g 86) fr i &&& (t ^^^ (-1))) (am (g 84) i) = [] then 0 else 1, (g', RF p q w v ds)) ∧ OUT g g' (BT (g 84) kind (owM n (g 84) (g 86) fr i &&& (t ^^^ (-1))) (am (g 84) i)) := by
  obtain ⟨a1, a2⟩ := am_e hM hi
  have hnp := hM.2.2.2.1
  obtain ⟨g', h1, h2⟩ := M_bo (p := p) (q := q) (w := w) (v := v) (ds := ds) (may := owM n (g 84) (g 86) fr i &&& (t ^^^ (-1))) hM hk (LO_and (LO_mk hM.2.1.2 _) _) a2
  refine ⟨g', ?_, h2⟩
  have e1 : (53 : Int32) + I (i : Int) = I ((53 + i : Nat) : Int) := by show I ((53 : Nat) : Int) + _ = _; rw [I_k]
  unfold f_X12_hasBest
  simp only [r_83_1, r_83_2, r_83_3, r_83_4, r_83_6, r_83_8, r_83_11, r_83_13, r_83_15, r_83_19, r_83_20, r_83_21, r_83_22, r_83_24, r_83_25, r_83_26, r_83_28, r_83_29, k_83, n_83, k_84, n_84, k_85, n_85, k_86, n_86, k_87, n_87, k_88, n_88, k_89, n_89, k_90, n_90, k_91, n_91, k_92, n_92, k_93, n_93, k_94, n_94, k_95, n_95, k_96, n_96, k_97, n_97, k_98, n_98, k_99, n_99, k_100, n_100, k_101, n_101, gd, lt, bd_s, if_true, if_false, reduceIte, si_uc, uc_s, uc_n, upd_s, upd_n, Nat.reduceEqDiff, ne_eq, not_false_eq_true, not_true_eq_false, M_ofOne hM.2.1.2 hf hM.1 hfr, e1, I_in (show 53 + i < 59 by omega) (by omega), I_ix (show 53 + i < 1000000 by omega), a1, h1, RES_4 (wM_WB hM)]
  by_cases he : BT (g 84) kind (owM n (g 84) (g 86) fr i &&& (t ^^^ (-1))) (am (g 84) i) = []
  · rw [if_pos he, if_pos he]
  · rw [if_neg he, if_neg he]
theorem M_usedSet {g : Nat → Nat → Int32} : f_X12_usedSet (g, RF p q w v ds) 83 = some (g 83 16 ||| g 83 17 ||| g 83 18, (g, RF p q w v ds)) := by
  unfold f_X12_usedSet
  simp only [r_83_1, r_83_2, r_83_3, r_83_4, r_83_6, r_83_8, r_83_11, r_83_13, r_83_15, r_83_19, r_83_20, r_83_21, r_83_22, r_83_24, r_83_25, r_83_26, r_83_28, r_83_29, k_83, n_83, k_84, n_84, k_85, n_85, k_86, n_86, k_87, n_87, k_88, n_88, k_89, n_89, k_90, n_90, k_91, n_91, k_92, n_92, k_93, n_93, k_94, n_94, k_95, n_95, k_96, n_96, k_97, n_97, k_98, n_98, k_99, n_99, k_100, n_100, k_101, n_101, gd, lt, bd_s, if_true, if_false, reduceIte, si_uc, uc_s, uc_n, upd_s, upd_n, Nat.reduceEqDiff, ne_eq, not_false_eq_true, not_true_eq_false]
theorem M_stk_lp {n np k0 kind fr : Nat} {who : Int32} {M T : Nat → Int32} (hM : PW M n np k0) (hk : kind ≤ 3) (hf0 : fr ≤ 24) : ∀ (m fu i : Nat) (g : Nat → Nat → Int32) (t s : Int32), m < fu → i + m = np → g 84 = M → g 86 = T → g 83 12 = I fr →
    ∃ g', f_X12_stuckOf_9 fu (g, RF p q w v ds) 83 who (I kind) t s (I i) = some (stk M kind (owM n M T fr) (am M) (whl who i m) t s, (g', RF p q w v ds)) ∧ MF g g' := by
  have hnp := hM.2.2.2.1
  intro m
  induction m with
  | zero =>
    intro fu i g t s hf hi e84 e86 hfr
    obtain ⟨fu, rfl⟩ : ∃ k, fu = k + 1 := ⟨fu - 1, by omega⟩
    have c1 : I (np : Int) ≤ I (i : Int) := (I_le (by omega) (by omega)).mpr (by omega)
    refine ⟨g, ?_, MF.rf⟩
    simp only [f_X12_stuckOf_9, r_83_1, r_83_2, r_83_3, r_83_4, r_83_6, r_83_8, r_83_11, r_83_13, r_83_15, r_83_19, r_83_20, r_83_21, r_83_22, r_83_24, r_83_25, r_83_26, r_83_28, r_83_29, k_83, n_83, k_84, n_84, k_85, n_85, k_86, n_86, k_87, n_87, k_88, n_88, k_89, n_89, k_90, n_90, k_91, n_91, k_92, n_92, k_93, n_93, k_94, n_94, k_95, n_95, k_96, n_96, k_97, n_97, k_98, n_98, k_99, n_99, k_100, n_100, k_101, n_101, gd, lt, bd_s, if_true, if_false, reduceIte, si_uc, uc_s, uc_n, upd_s, upd_n, Nat.reduceEqDiff, ne_eq, not_false_eq_true, not_true_eq_false, ci_0, ci_1, ci_2, ci_3, ci_4, ii_0, ii_1, ii_2, ii_3, ii_4, id_0, id_1, id_2, e84, hM.2.2.1, if_pos c1]
    rfl
  | succ m ih =>
    intro fu i g t s hf hi e84 e86 hfr
    obtain ⟨fu, rfl⟩ : ∃ k, fu = k + 1 := ⟨fu - 1, by omega⟩
    have c1 : ¬ I (np : Int) ≤ I (i : Int) := fun z => by have := (I_le (by omega) (by omega)).mp z; omega
    simp only [f_X12_stuckOf_9, r_83_1, r_83_2, r_83_3, r_83_4, r_83_6, r_83_8, r_83_11, r_83_13, r_83_15, r_83_19, r_83_20, r_83_21, r_83_22, r_83_24, r_83_25, r_83_26, r_83_28, r_83_29, k_83, n_83, k_84, n_84, k_85, n_85, k_86, n_86, k_87, n_87, k_88, n_88, k_89, n_89, k_90, n_90, k_91, n_91, k_92, n_92, k_93, n_93, k_94, n_94, k_95, n_95, k_96, n_96, k_97, n_97, k_98, n_98, k_99, n_99, k_100, n_100, k_101, n_101, gd, lt, bd_s, if_true, if_false, reduceIte, si_uc, uc_s, uc_n, upd_s, upd_n, Nat.reduceEqDiff, ne_eq, not_false_eq_true, not_true_eq_false, ci_0, ci_1, ci_2, ci_3, ci_4, ii_0, ii_1, ii_2, ii_3, ii_4, id_0, id_1, id_2, e84, hM.2.2.1, if_neg c1, M_has _ _ (show i < 32 by omega), I_s]
    rw [whl_s]
    cases hb : bt who i with
    | false =>
      simp only [Bool.false_eq_true, if_false, if_true, reduceIte]
      exact ih fu (i + 1) g t s (by omega) (by omega) e84 e86 hfr
    | true =>
      obtain ⟨g1, b1', b2⟩ := M_hasBest (p := p) (q := q) (w := w) (v := v) (ds := ds) (i := i) t (by rw [e84]; exact hM) hk hfr hf0 (by omega)
      rw [e84, e86] at b1' b2
      have hmf := b2.mf
      have f84 : g1 84 = M := by rw [hmf.2 84 (by decide)]; exact e84
      have f86 : g1 86 = T := by rw [hmf.2 86 (by decide)]; exact e86
      have ffr : g1 83 12 = I fr := by rw [hmf.1 12 (by omega)]; exact hfr
      simp only [if_true, reduceIte]
      rw [if_neg (by decide)]
      simp only [b1', bd_s]
      show ∃ g', _ = some (stk M kind (owM n M T fr) (am M) (whl who (i + 1) m) _ (if BT M kind (owM n M T fr i &&& (t ^^^ (-1))) (am M i) = [] then s ||| b1 i else s), _) ∧ _
      by_cases he : BT M kind (owM n M T fr i &&& (t ^^^ (-1))) (am M i) = []
      · simp only [if_pos he, if_true, reduceIte, f_X12_stuckOf_55, b1_I (show i < 1000 by omega), I_s]
        obtain ⟨g', d1, d2⟩ := ih fu (i + 1) g1 (t ||| us (BT M kind (owM n M T fr i &&& (t ^^^ (-1))) (am M i))) (s ||| b1 i) (by omega) (by omega) f84 f86 ffr
        rw [us_0.mpr he] at d1 ⊢
        exact ⟨g', d1, hmf.tr d2⟩
      · have hu : g1 83 16 ||| g1 83 17 ||| g1 83 18 = us (BT M kind (owM n M T fr i &&& (t ^^^ (-1))) (am M i)) := by rw [b2.1, b2.2.1, b2.2.2.1]; rfl
        have z1 : ((1 : Int32) = 0) = False := eq_false (by decide)
        simp only [if_neg he, z1, if_false, M_usedSet, bd_s, f_X12_stuckOf_55, or_z, hu, I_s]
        obtain ⟨g', d1, d2⟩ := ih fu (i + 1) g1 (t ||| us (BT M kind (owM n M T fr i &&& (t ^^^ (-1))) (am M i))) s (by omega) (by omega) f84 f86 ffr
        exact ⟨g', d1, hmf.tr d2⟩
theorem M_stk {g : Nat → Nat → Int32} {n np k0 kind fr : Nat} (who t : Int32) (hM : PW (g 84) n np k0) (hk : kind ≤ 3) (hf0 : fr ≤ 24) (hfr : g 83 12 = I fr) :
    ∃ g', f_X12_stuckOf (g, RF p q w v ds) 83 who t (I kind) = some (stk (g 84) kind (owM n (g 84) (g 86) fr) (am (g 84)) (whl who 0 np) t 0, (g', RF p q w v ds)) ∧ MF g g' := by
  obtain ⟨g', h1, h2⟩ := M_stk_lp (p := p) (q := q) (w := w) (v := v) (ds := ds) (who := who) hM hk hf0 np FU 0 g t 0 (FU_lt (by have := hM.2.2.2.1; omega)) (by omega) rfl rfl hfr
  refine ⟨g', ?_, h2⟩
  unfold f_X12_stuckOf
  simp only [r_83_1, r_83_2, r_83_3, r_83_4, r_83_6, r_83_8, r_83_11, r_83_13, r_83_15, r_83_19, r_83_20, r_83_21, r_83_22, r_83_24, r_83_25, r_83_26, r_83_28, r_83_29, k_83, n_83, k_84, n_84, k_85, n_85, k_86, n_86, k_87, n_87, k_88, n_88, k_89, n_89, k_90, n_90, k_91, n_91, k_92, n_92, k_93, n_93, k_94, n_94, k_95, n_95, k_96, n_96, k_97, n_97, k_98, n_98, k_99, n_99, k_100, n_100, k_101, n_101, gd, lt, bd_s, if_true, if_false, reduceIte, si_uc, uc_s, uc_n, upd_s, upd_n, Nat.reduceEqDiff, ne_eq, not_false_eq_true, not_true_eq_false]
  exact h1
end T
