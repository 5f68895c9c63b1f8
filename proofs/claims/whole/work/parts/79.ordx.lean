/-! the class's search for an order -/
def uo (M : Nat → Int32) (kind : Nat) (O : Nat → Int32) (A : Nat → Nat) (i : Nat) (T : Int32) : Int32 := us (BT M kind (O i &&& (T ^^^ (-1))) (A i))
theorem uo_mono {M : Nat → Int32} {n np k0 kind : Nat} {O : Nat → Int32} {A : Nat → Nat} (hM : PW M n np k0) : ∀ i T x, uo M kind O A i T = 0 → uo M kind O A i (T ||| x) = 0 := by
  intro i T x h
  unfold uo at *
  apply us_0.mpr
  refine BS_mono (m0 := O i &&& (T ^^^ (-1))) (fun x u => (wM_WB hM).1 x u) ?_ (us_0.mp h)
  apply bt_ext
  intro j hj
  rw [bt_0, bt_and, bt_and, bt_not hj, bt_not hj, bt_and, bt_not hj, bt_or]
  cases bt (O i) j <;> cases bt T j <;> cases bt x j <;> rfl
/-- the best row so far, as the class keeps it -/
def ROX (g : Nat → Nat → Int32) (st : Int × List Nat) : Prop := g 78 4 = I st.1 ∧ (-1 ≤ st.1 ∧ st.1 ≤ 6) ∧ st.2.length ≤ 6 ∧ ∀ j, j < st.2.length → g 79 j = I ((st.2.getD j 0 : Nat) : Int)
def SRC : List Nat := [61, 62, 63, 64, 65, 66, 68, 69, 70, 71, 72, 73, 74, 78, 79, 81, 82]
section T
variable {p q w v : Nat} {ds : Nat → Nat}
theorem X_ab {M : Nat → Int32} {n np k0 : Nat} {who : Int32} {kind : Nat} {O : Nat → Int32} {A : Nat → Nat} (hM : PW M n np k0) {left T : Int32} {k : Nat} (hk : k < 6) (hlw : ∀ i, i < 6 → bt left i = true → bt who i = true) : ∀ (r fu i : Nat) (g : Nat → Nat → Int32), r < fu → i + r = 6 → SX M n g → SC g M n who kind O A → (∀ j, j < i → bt left j = true → g 82 (6 * k + j) = uo M kind O A j T) →
    ∃ g', f_X1_ableAt_6 fu (g, RF p q w v ds) 78 75 (I k) T left (mk i (abl (uo M kind O A) left T)) (I i) = some (mk 6 (abl (uo M kind O A) left T), (g', RF p q w v ds)) ∧ SX M n g' ∧ Sb [61, 62, 63, 64, 65, 66, 68, 69, 70, 71, 72, 73, 74, 82] g g' ∧ (∀ j, j < 6 * k → g' 82 j = g 82 j) ∧ (∀ j, j < 6 → bt left j = true → g' 82 (6 * k + j) = uo M kind O A j T) := by
  intro r
  induction r with
  | zero =>
    intro fu i g hf hi hS hC h82
    obtain ⟨fu, rfl⟩ : ∃ k, fu = k + 1 := ⟨fu - 1, by omega⟩
    have : i = 6 := by omega
    subst this
    refine ⟨g, ?_, hS, Sb.rf, fun _ _ => rfl, h82⟩
    rw [f_X1_ableAt_6]
    exact if_pos (by decide)
  | succ r ih =>
    intro fu i g hf hi hS hC h82
    obtain ⟨fu, rfl⟩ : ∃ k, fu = k + 1 := ⟨fu - 1, by omega⟩
    have c1 : ¬ (6 : Int32) ≤ I (i : Int) := fun z => by have := (I_le (a := 6) (by omega) (by omega)).mp z; omega
    by_cases hb : bt left i = true
    · obtain ⟨a1, a2⟩ := hC.2.2.2.2 i (by omega) (hlw i (by omega) hb)
      obtain ⟨o1, o2⟩ := hC.2.2.2.1 i (by omega)
      obtain ⟨g1, b1', b2, b3, b4⟩ := X_fd (p := p) (q := q) (w := w) (v := v) (ds := ds) (may := O i &&& (T ^^^ (-1))) hM hC.2.2.1 hS (LO_and o2 _) a2
      obtain ⟨U, hU⟩ : ∃ U, U = uo M kind O A i T := ⟨_, rfl⟩
      have b1' : f_X5_find (g, RF p q w v ds) 61 (O i &&& (T ^^^ (-1))) (I (A i : Nat)) (I kind) = some (U, (g1, RF p q w v ds)) := by rw [hU]; exact b1'
      obtain ⟨g2, hg2⟩ : ∃ g2, g2 = uc g1 82 (upd (g1 82) (6 * k + i) U) := ⟨_, rfl⟩
      have s2 : Sb [61, 62, 63, 64, 65, 66, 68, 69, 70, 71, 72, 73, 74, 82] g g2 := by rw [hg2]; exact (b3.mono (by decide)).uc (by decide)
      have hSX2 : SX M n g2 := b2.same (fun a h1 h2 => by rw [hg2, uc_n (by omega)])
      have hC2 : SC g2 M n who kind O A := hC.keep (s2 75 (by decide)) (s2 76 (by decide)) (s2 77 (by decide))
      obtain ⟨g', e, d1, d2, d3, d4⟩ := ih fu (i + 1) g2 (by omega) (by omega) hSX2 hC2 (fun j hj hbj => by
        rw [hg2, uc_s]
        by_cases c : j = i
        · subst c; rw [upd_s]; exact hU
        · rw [upd_n (by omega), b3 82 (by decide)]; exact h82 j (by omega) hbj)
      refine ⟨g', ?_, d1, Sb.tr s2 d2, fun j hj => by rw [d3 j hj, hg2, uc_s, upd_n (by omega), b3 82 (by decide)], d4⟩
      rw [← e]
      have e6 : I (k : Int) * 6 + I (i : Int) = I ((6 * k + i : Nat) : Int) := by
        rw [show (6 : Int32) = I 6 from rfl, I_mul, I_add]; congr 1; omega
      have em : mk (i + 1) (abl (uo M kind O A) left T) = if U = 0 then mk i (abl (uo M kind O A) left T) ||| 0 else mk i (abl (uo M kind O A) left T) ||| b1 i := by
        rw [mk_s]
        unfold abl
        rw [hb, Bool.true_and, ← hU]
        by_cases z : U = 0
        · rw [if_pos z, if_neg (by rw [decide_eq_true_eq]; exact fun y => y z)]
        · rw [if_neg z, if_pos (decide_eq_true z)]
      rw [em]
      generalize mk i (abl (uo M kind O A) left T) = acc
      simp only [f_X1_ableAt_6]
      revert b1'
      generalize f_X5_find = ff
      intro b1'
      rw [if_neg c1, X_hasBit _ _ (show i < 32 by omega), bd_w, hb, if_neg (by decide)]
      simp only [r_75_5, r_75_6, r_78_5, r_78_6, r_78_7, r_78_8, r_78_9, k_75, n_75, k_76, n_76, k_77, n_77, k_78, n_78, k_79, n_79, k_80, n_80, k_81, n_81, k_82, n_82, k_61, gd, if_true, reduceIte, X_mayUse (show i < 6 by omega), bd_w, o1, I_in (show i < 6 by omega) (show 6 < 1000000 by decide), I_ix (show i < 1000000 by omega), a1, hC.2.1, b1', e6, I_in (show 6 * k + i < 36 by omega) (show 36 < 1000000 by decide), I_ix (show 6 * k + i < 1000000 by omega), lt_w, I_s, b1_I (show i < 1000 by omega)]
      rw [hg2]
      by_cases z : U = 0
      · rw [if_pos z, if_pos z]
      · rw [if_neg z, if_neg z]
    · obtain ⟨g', e, d1, d2, d3, d4⟩ := ih fu (i + 1) g (by omega) (by omega) hS hC (fun j hj hbj => by
        by_cases c : j = i
        · subst c; exact absurd hbj hb
        · exact h82 j (by omega) hbj)
      refine ⟨g', ?_, d1, d2, d3, d4⟩
      have em : mk (i + 1) (abl (uo M kind O A) left T) = mk i (abl (uo M kind O A) left T) := by
        rw [mk_s]
        unfold abl
        rw [Bool.eq_false_iff.mpr hb, Bool.false_and, if_neg (by decide), or_z]
      rw [em] at e
      rw [← e]
      simp only [f_X1_ableAt_6]
      rw [if_neg c1, X_hasBit _ _ (show i < 32 by omega), bd_w, Bool.eq_false_iff.mpr hb, if_pos (by decide), I_s]
theorem X_rc47 {left : Int32} : ∀ (r fu i e : Nat) (g : Nat → Nat → Int32), r < fu → i + r = 6 → e + (whl left i r).length ≤ 6 →
    ∃ g', f_X1_record_47 fu (g, RF p q w v ds) 78 left (I e) (I i) = some ((), (g', RF p q w v ds)) ∧ Sb [79] g g' ∧ (∀ j, j < e → g' 79 j = g 79 j) ∧ ∀ t, t < (whl left i r).length → g' 79 (e + t) = I (((whl left i r).getD t 0 : Nat) : Int) := by
  intro r
  induction r with
  | zero =>
    intro fu i e g hf hi he
    obtain ⟨fu, rfl⟩ : ∃ k, fu = k + 1 := ⟨fu - 1, by omega⟩
    have : i = 6 := by omega
    subst this
    refine ⟨g, ?_, Sb.rf, fun _ _ => rfl, fun t ht => absurd (show t < 0 from ht) (by omega)⟩
    rw [f_X1_record_47]
    exact if_pos (by decide)
  | succ r ih =>
    intro fu i e g hf hi he
    obtain ⟨fu, rfl⟩ : ∃ k, fu = k + 1 := ⟨fu - 1, by omega⟩
    have c1 : ¬ (6 : Int32) ≤ I (i : Int) := fun z => by have := (I_le (a := 6) (by omega) (by omega)).mp z; omega
    rw [whl_s] at he ⊢
    by_cases hb : bt left i = true
    · rw [if_pos hb, List.length_cons] at he
      have c2 : ¬ (6 : Int32) ≤ I (e : Int) := fun z => by have := (I_le (a := 6) (by omega) (by omega)).mp z; omega
      obtain ⟨g', e1, s', d1, d2⟩ := ih fu (i + 1) (e + 1) (uc g 79 (upd (g 79) e (I i))) (by omega) (by omega) (by omega)
      refine ⟨g', ?_, fun b hb => by rw [s' b hb, uc_n (fun z => hb (by rw [z]; decide))], fun j hj => by rw [d1 j (by omega), uc_s, upd_n (by omega)], fun t ht => ?_⟩
      · rw [← e1]
        simp only [f_X1_record_47]
        rw [if_neg c1, X_hasBit _ _ (show i < 32 by omega), bd_w, hb, if_neg (by decide), if_neg c2]
        simp only [r_75_5, r_75_6, r_78_5, r_78_6, r_78_7, r_78_8, r_78_9, k_75, n_75, k_76, n_76, k_77, n_77, k_78, n_78, k_79, n_79, k_80, n_80, k_81, n_81, k_82, n_82, gd, if_true, reduceIte, I_in (show e < 6 by omega) (show 6 < 1000000 by decide), I_ix (show e < 1000000 by omega), lt_w, I_s]
      · rw [if_pos hb] at ht ⊢
        rw [List.length_cons] at ht
        cases t with
        | zero => rw [Nat.add_zero, d1 e (by omega), uc_s, upd_s]; rfl
        | succ t => rw [show e + (t + 1) = e + 1 + t by omega, d2 t (by omega)]; rfl
    · rw [if_neg hb] at he ⊢
      obtain ⟨g', e1, s', d1, d2⟩ := ih fu (i + 1) e g (by omega) (by omega) he
      refine ⟨g', ?_, s', d1, d2⟩
      rw [← e1]
      simp only [f_X1_record_47]
      rw [if_neg c1, X_hasBit _ _ (show i < 32 by omega), bd_w, Bool.eq_false_iff.mpr hb, if_pos (by decide), I_s]
theorem X_rc8 {left : Int32} {k : Nat} (hk : k ≤ 6) : ∀ (r fu i : Nat) (g : Nat → Nat → Int32), r < fu → i + r = k → (∀ j, j < i → g 79 j = g 81 j) →
    ∃ g', f_X1_record_8 fu (g, RF p q w v ds) 78 (I k) left (I i) = f_X1_record_47 FU (g', RF p q w v ds) 78 left (I k) 0 ∧ Sb [79] g g' ∧ ∀ j, j < k → g' 79 j = g 81 j := by
  intro r
  induction r with
  | zero =>
    intro fu i g hf hi hI
    obtain ⟨fu, rfl⟩ : ∃ k, fu = k + 1 := ⟨fu - 1, by omega⟩
    have : i = k := by omega
    subst this
    refine ⟨g, ?_, Sb.rf, hI⟩
    rw [f_X1_record_8]
    exact if_pos ((I_le (by omega) (by omega)).mpr (by omega))
  | succ r ih =>
    intro fu i g hf hi hI
    obtain ⟨fu, rfl⟩ : ∃ k, fu = k + 1 := ⟨fu - 1, by omega⟩
    have c1 : ¬ I (k : Int) ≤ I (i : Int) := fun z => by have := (I_le (by omega) (by omega)).mp z; omega
    have c2 : ¬ (6 : Int32) ≤ I (i : Int) := fun z => by have := (I_le (a := 6) (by omega) (by omega)).mp z; omega
    obtain ⟨g', e1, s', d1⟩ := ih fu (i + 1) (uc g 79 (upd (g 79) i (g 81 i))) (by omega) (by omega) (fun j hj => by
      rw [uc_s, uc_n (by decide)]
      by_cases c : j = i
      · subst c; rw [upd_s]
      · rw [upd_n c]; exact hI j (by omega))
    refine ⟨g', ?_, fun b hb => by rw [s' b hb, uc_n (fun z => hb (by rw [z]; decide))], fun j hj => by rw [d1 j hj, uc_n (by decide)]⟩
    rw [← e1]
    simp only [f_X1_record_8]
    rw [if_neg c1, if_neg c2]
    simp only [r_75_5, r_75_6, r_78_5, r_78_6, r_78_7, r_78_8, r_78_9, k_75, n_75, k_76, n_76, k_77, n_77, k_78, n_78, k_79, n_79, k_80, n_80, k_81, n_81, k_82, n_82, gd, if_true, reduceIte, I_in (show i < 6 by omega) (show 6 < 1000000 by decide), I_ix (show i < 1000000 by omega), lt_w, I_s]
theorem X_rec {left : Int32} {k can : Nat} {pre : List Nat} (hk : k ≤ 6) (hpre : pre.length = k) (hlen : k + (whl left 0 6).length ≤ 6) (hcan : can ≤ 6) {g : Nat → Nat → Int32} (h81 : ∀ j, j < k → g 81 j = I ((pre.getD j 0 : Nat) : Int)) :
    ∃ g', f_X1_record (g, RF p q w v ds) 78 (I k) left (I can) = some ((), (g', RF p q w v ds)) ∧ Sb [78, 79] g g' ∧ ROX g' ((can : Int), pre ++ whl left 0 6) := by
  obtain ⟨g1, hg1⟩ : ∃ g1, g1 = uc g 78 (upd (g 78) 4 (I can)) := ⟨_, rfl⟩
  obtain ⟨g2, e2, s2, d2⟩ := X_rc8 (p := p) (q := q) (w := w) (v := v) (ds := ds) (left := left) hk k FU 0 g1 (FU_lt (by omega)) (by omega) (fun j hj => absurd hj (by omega))
  obtain ⟨g3, e3, s3, d3, d4⟩ := X_rc47 (p := p) (q := q) (w := w) (v := v) (ds := ds) (left := left) 6 FU 0 k g2 (FU_lt (by omega)) (by omega) hlen
  refine ⟨g3, ?_, ?_, ?_, ?_, ?_, ?_⟩
  · unfold f_X1_record
    rw [gd_t (show kd 78 = 1 from rfl), lt_w, ← hg1]
    exact e2.trans e3
  · rw [hg1] at s2
    exact Sb.tr (Sb.tr (Sb.rf.uc (by decide)) (s2.mono (by decide))) (s3.mono (by decide))
  · rw [s3 78 (by decide), s2 78 (by decide), hg1, uc_s, upd_s]
  · show -1 ≤ (can : Int) ∧ (can : Int) ≤ 6; omega
  · show (pre ++ whl left 0 6).length ≤ 6; rw [List.length_append]; omega
  · intro j hj
    have hj : j < (pre ++ whl left 0 6).length := hj
    rw [List.length_append, hpre] at hj
    show _ = I (((pre ++ whl left 0 6).getD j 0 : Nat) : Int)
    by_cases c : j < k
    · rw [d3 j c, d2 j c, hg1, uc_n (by decide), h81 j c, List.getD_eq_getElem?_getD, List.getD_eq_getElem?_getD, List.getElem?_append_left (by omega)]
    · have := d4 (j - k) (by omega)
      rw [show k + (j - k) = j by omega] at this
      rw [this, List.getD_eq_getElem?_getD, List.getD_eq_getElem?_getD, List.getElem?_append_right (by omega), hpre]
theorem X_sr55 {M : Nat → Int32} {n np k0 : Nat} {who : Int32} {kind : Nat} {O : Nat → Int32} {A : Nat → Nat} (hM : PW M n np k0) {left T : Int32} {k d can : Nat} {pre : List Nat} (hk : k + (d + 1) ≤ 6) (hd : pc 6 left = d + 1) (hlw : ∀ i, i < 6 → bt left i = true → bt who i = true) (hpre : pre.length = k) (hcan : can ≤ k) (rec : Hp → Nat → Nat → Int32 → Int32 → Int32 → Int32 → Option (Unit × Hp))
    (hrec : ∀ (left T : Int32) (can : Nat) (pre : List Nat) (g : Nat → Nat → Int32) (st : Int × List Nat), pc 6 left = d → (∀ i, i < 6 → bt left i = true → bt who i = true) → pre.length = k + 1 → can ≤ k + 1 → (∀ j, j < k + 1 → g 81 j = I ((pre.getD j 0 : Nat) : Int)) → ROX g st → SX M n g → SC g M n who kind O A → ∃ g', rec (g, RF p q w v ds) 78 75 (I ((k + 1 : Nat) : Int)) T left (I can) = some ((), (g', RF p q w v ds)) ∧ SX M n g' ∧ Sb SRC g g' ∧ (∀ j, j < k + 1 → g' 81 j = g 81 j) ∧ (∀ j, j < 6 * (k + 1) → g' 82 j = g 82 j) ∧ ROX g' (VV (uo M kind O A) d left T can pre st)) :
    ∀ (r fu i : Nat) (g : Nat → Nat → Int32) (st : Int × List Nat), r < fu → i + r = 6 → (∀ j, j < k → g 81 j = I ((pre.getD j 0 : Nat) : Int)) → (∀ j, j < 6 → bt left j = true → g 82 (6 * k + j) = uo M kind O A j T) → ROX g st → SX M n g → SC g M n who kind O A →
    ∃ g', f_X1_search_55 rec fu (g, RF p q w v ds) 78 75 (I k) T left (I can) (mk 6 (abl (uo M kind O A) left T)) (I i) = some ((), (g', RF p q w v ds)) ∧ SX M n g' ∧ Sb SRC g g' ∧ (∀ j, j < k → g' 81 j = g 81 j) ∧ (∀ j, j < 6 * k → g' 82 j = g 82 j) ∧ ROX g' ((List.range' i r).foldl (vf (uo M kind O A) d left T can pre) st) := by
  intro r
  induction r with
  | zero =>
    intro fu i g st hf hi h81 h82 hR hS hC
    obtain ⟨fu, rfl⟩ : ∃ k, fu = k + 1 := ⟨fu - 1, by omega⟩
    have : i = 6 := by omega
    subst this
    refine ⟨g, ?_, hS, Sb.rf, fun _ _ => rfl, fun _ _ => rfl, hR⟩
    rw [f_X1_search_55]
    exact if_pos (by decide)
  | succ r ih =>
    intro fu i g st hf hi h81 h82 hR hS hC
    obtain ⟨fu, rfl⟩ : ∃ k, fu = k + 1 := ⟨fu - 1, by omega⟩
    have c1 : ¬ (6 : Int32) ≤ I (i : Int) := fun z => by have := (I_le (a := 6) (by omega) (by omega)).mp z; omega
    rw [List.range'_succ, List.foldl_cons]
    by_cases hb : bt left i = true
    · obtain ⟨U, hU⟩ : ∃ U, U = uo M kind O A i T := ⟨_, rfl⟩
      have hpc := pc_cl (x := left) (show i < 32 by omega) hb 6 (by decide)
      rw [if_pos (show i < 6 by omega)] at hpc
      have h01 : (if U = 0 then 0 else 1) ≤ 1 := by split <;> omega
      obtain ⟨g1, hg1⟩ : ∃ g1, g1 = uc g 81 (upd (g 81) k (I i)) := ⟨_, rfl⟩
      have s1 : Sb [81] g g1 := by rw [hg1]; exact Sb.rf.uc (by decide)
      have pl : ∀ j, j < k + 1 → g1 81 j = I (((pre ++ [i]).getD j 0 : Nat) : Int) := fun j hj => by
        rw [hg1, uc_s, List.getD_eq_getElem?_getD]
        by_cases c : j = k
        · subst c
          rw [upd_s, List.getElem?_append_right (by omega), hpre, Nat.sub_self]; rfl
        · rw [upd_n c, List.getElem?_append_left (by omega), h81 j (by omega), List.getD_eq_getElem?_getD]
      have hR1 : ROX g1 st := ⟨by rw [s1 78 (by decide)]; exact hR.1, hR.2.1, hR.2.2.1, by rw [s1 79 (by decide)]; exact hR.2.2.2⟩
      obtain ⟨g2, e2, a1, a2, a3, a4, a5⟩ := hrec (left &&& (b1 i ^^^ (-1))) (T ||| U) (can + (if U = 0 then 0 else 1)) (pre ++ [i]) g1 st (by omega) (fun j hj hbj => by
        rw [bt_clr (by omega) (by omega), Bool.and_eq_true] at hbj
        exact hlw j hj hbj.1) (by rw [List.length_append, hpre]; rfl) (by omega) pl hR1 (hS.sc (s1.mono (by decide))) (hC.keep (s1 75 (by decide)) (s1 76 (by decide)) (s1 77 (by decide)))
      have evf : vf (uo M kind O A) d left T can pre st i = VV (uo M kind O A) d (left &&& (b1 i ^^^ (-1))) (T ||| U) (can + (if U = 0 then 0 else 1)) (pre ++ [i]) st := by rw [hU]; exact if_pos hb
      rw [← evf] at a5
      have f81 : ∀ j, j < k → g2 81 j = g 81 j := fun j hj => by rw [a3 j (by omega), hg1, uc_s, upd_n (by omega)]
      have f82 : ∀ j, j < 6 * (k + 1) → g2 82 j = g 82 j := fun j hj => by rw [a4 j hj, s1 82 (by decide)]
      obtain ⟨g', e, d1, d2, d3, d4, d5⟩ := ih fu (i + 1) g2 _ (by omega) (by omega) (fun j hj => by rw [f81 j hj]; exact h81 j hj) (fun j hj hbj => by rw [f82 _ (by omega)]; exact h82 j hj hbj) a5 a1 (hC.keep (by rw [a2 75 (by decide), s1 75 (by decide)]) (by rw [a2 76 (by decide), s1 76 (by decide)]) (by rw [a2 77 (by decide), s1 77 (by decide)]))
      refine ⟨g', ?_, d1, Sb.tr (Sb.tr (s1.mono (by decide)) a2) d2, fun j hj => by rw [d3 j hj, f81 j hj], fun j hj => by rw [d4 j hj, f82 j (by omega)], d5⟩
      rw [← e]
      have e6 : I (k : Int) * 6 + I (i : Int) = I ((6 * k + i : Nat) : Int) := by
        rw [show (6 : Int32) = I 6 from rfl, I_mul, I_add]; congr 1; omega
      have eb : ((mk 6 (abl (uo M kind O A) left T)) >>> (I (i : Int) &&& 31)) &&& 1 = I ((if U = 0 then 0 else 1 : Nat) : Int) := by
        rw [sshr_bit _ i (by omega), bt_mk (by decide) _ (by omega), decide_eq_true (show i < 6 by omega), Bool.true_and]
        unfold abl
        rw [hb, Bool.true_and, ← hU]
        by_cases z : U = 0
        · rw [if_pos z, if_neg (by rw [decide_eq_true_eq]; exact fun y => y z)]; rfl
        · rw [if_neg z, if_pos (decide_eq_true z)]; rfl
      have h82' : g 82 (6 * k + i) = U := by rw [hU]; exact h82 i (by omega) hb
      generalize mk 6 (abl (uo M kind O A) left T) = ab at eb e ⊢
      simp only [f_X1_search_55]
      rw [if_neg c1, X_hasBit _ _ (show i < 32 by omega), bd_w, hb, if_neg (by decide), eb, I_k]
      simp only [r_75_5, r_75_6, r_78_5, r_78_6, r_78_7, r_78_8, r_78_9, k_75, n_75, k_76, n_76, k_77, n_77, k_78, n_78, k_79, n_79, k_80, n_80, k_81, n_81, k_82, n_82, gd, if_true, reduceIte, I_in (show k < 6 by omega) (show 6 < 1000000 by decide), I_ix (show k < 1000000 by omega), lt_w, e6, I_in (show 6 * k + i < 36 by omega) (show 36 < 1000000 by decide), I_ix (show 6 * k + i < 1000000 by omega), uc_n (show 82 ≠ 81 by decide), h82', b1_I (show i < 1000 by omega), I_s]
      rw [← hg1, e2, bd_w]
    · have evf : vf (uo M kind O A) d left T can pre st i = st := if_neg hb
      rw [evf]
      obtain ⟨g', e, d1, d2, d3, d4, d5⟩ := ih fu (i + 1) g st (by omega) (by omega) h81 h82 hR hS hC
      refine ⟨g', ?_, d1, d2, d3, d4, d5⟩
      rw [← e]
      simp only [f_X1_search_55]
      rw [if_neg c1, X_hasBit _ _ (show i < 32 by omega), bd_w, Bool.eq_false_iff.mpr hb, if_pos (by decide), I_s]
theorem X_sr {M : Nat → Int32} {n np k0 : Nat} {who : Int32} {kind : Nat} {O : Nat → Int32} {A : Nat → Nat} (hM : PW M n np k0) : ∀ (d dd k : Nat) (left T : Int32) (can : Nat) (pre : List Nat) (g : Nat → Nat → Int32) (st : Int × List Nat), d < dd → k + d ≤ 6 → pc 6 left = d → (∀ i, i < 6 → bt left i = true → bt who i = true) → pre.length = k → can ≤ k → (∀ j, j < k → g 81 j = I ((pre.getD j 0 : Nat) : Int)) → ROX g st → SX M n g → SC g M n who kind O A →
    ∃ g', f_X1_search dd (g, RF p q w v ds) 78 75 (I k) T left (I can) = some ((), (g', RF p q w v ds)) ∧ SX M n g' ∧ Sb SRC g g' ∧ (∀ j, j < k → g' 81 j = g 81 j) ∧ (∀ j, j < 6 * k → g' 82 j = g 82 j) ∧ ROX g' (VV (uo M kind O A) d left T can pre st) := by
  have hu := uo_mono (kind := kind) (O := O) (A := A) hM
  intro d
  induction d with
  | zero =>
    intro dd k left T can pre g st hd hk hp hlw hpre hcan h81 hR hS hC
    obtain ⟨dd, rfl⟩ : ∃ k, dd = k + 1 := ⟨dd - 1, by omega⟩
    have hac : ac (uo M kind O A) left T = 0 := by have := ac_le (u := uo M kind O A) (left := left) (T := T); omega
    have hab := (ac_0 _ _ _).mp hac
    have hbl : ∀ j, j < 6 → bt left j = false := by
      intro j hj
      apply Bool.eq_false_iff.mpr
      intro z
      have := pc_cl (x := left) (show j < 32 by omega) z 6 (by decide)
      rw [if_pos hj] at this
      omega
    have tail : ∀ g1 : Nat → Nat → Int32, Sb [61, 62, 63, 64, 65, 66, 68, 69, 70, 71, 72, 73, 74, 82] g g1 → SX M n g1 → (∀ j, j < 6 * k → g1 82 j = g 82 j) → ∃ g', f_X1_search_19 (f_X1_search dd) (g1, RF p q w v ds) 78 75 (I k) T left (I can) 0 = some ((), (g', RF p q w v ds)) ∧ SX M n g' ∧ Sb SRC g g' ∧ (∀ j, j < k → g' 81 j = g 81 j) ∧ (∀ j, j < 6 * k → g' 82 j = g 82 j) ∧ ROX g' (VV (uo M kind O A) 0 left T can pre st) := fun g1 s1 hS1 f82 => by
      have hR1 : ROX g1 st := ⟨by rw [s1 78 (by decide)]; exact hR.1, hR.2.1, hR.2.2.1, by rw [s1 79 (by decide)]; exact hR.2.2.2⟩
      have ec : I (can : Int) + I ((pc 32 (0 : Int32) : Nat) : Int) = I (can : Int) := by rw [show pc 32 (0 : Int32) = 0 by decide, I_k]; rfl
      unfold f_X1_search_19
      rw [Xbc, bd_w, show (g1, RF p q w v ds).1 78 4 = I st.1 from hR1.1, ec]
      by_cases hs : st.1 < (can : Int)
      · have hz : whl left 0 6 = [] := whl_nil (fun j _ hj => hbl j (by omega))
        obtain ⟨g', e, s', hR'⟩ := X_rec (p := p) (q := q) (w := w) (v := v) (ds := ds) (left := left) (k := k) (can := can) (pre := pre) (g := g1) (by omega) hpre (by rw [hz]; show k + 0 ≤ 6; omega) (by omega) (fun j hj => by rw [s1 81 (by decide)]; exact h81 j hj)
        rw [hz, List.append_nil] at hR'
        refine ⟨g', ?_, hS1.sc (s'.mono (by decide)), Sb.tr (s1.mono (by decide)) (s'.mono (by decide)), fun j _ => by rw [s' 81 (by decide), s1 81 (by decide)], fun j hj => by rw [s' 82 (by decide)]; exact f82 j hj, ?_⟩
        · rw [if_pos ((I_lt (by have := hR.2.1; omega) (by omega)).mpr hs), if_pos rfl, e, bd_w]
        · show ROX g' (if st.1 < (can : Int) then ((can : Int), pre) else st)
          rw [if_pos hs]; exact hR'
      · refine ⟨g1, ?_, hS1, s1.mono (by decide), fun j _ => by rw [s1 81 (by decide)], f82, ?_⟩
        · rw [if_neg (fun z => hs ((I_lt (by have := hR.2.1; omega) (by omega)).mp z))]
        · show ROX g1 (if st.1 < (can : Int) then ((can : Int), pre) else st)
          rw [if_neg hs]; exact hR1
    show ∃ g', f_X1_search_body (f_X1_search dd) _ _ _ _ _ _ _ = _ ∧ _
    unfold f_X1_search_body
    rw [gd_t (show kd 78 = 1 from rfl), gd_t (show kd 75 = 6 from rfl)]
    by_cases h6 : k = 6
    · rw [if_pos (show (6 : Int32) ≤ I (k : Int) from (I_le (a := 6) (by omega) (by omega)).mpr (by omega))]
      exact tail g Sb.rf hS (fun _ _ => rfl)
    · obtain ⟨g1, e1, a1, a2, a3, a4⟩ := X_ab (p := p) (q := q) (w := w) (v := v) (ds := ds) (who := who) (kind := kind) (O := O) (A := A) (T := T) hM (show k < 6 by omega) hlw 6 FU 0 g (FU_lt (by omega)) (by omega) hS hC (fun j hj => absurd hj (by omega))
      rw [hab] at e1
      have e1 : f_X1_ableAt (g, RF p q w v ds) 78 75 (I k) T left = some (0, (g1, RF p q w v ds)) := by
        unfold f_X1_ableAt
        rw [gd_t (show kd 78 = 1 from rfl), gd_t (show kd 75 = 6 from rfl)]
        exact e1
      rw [if_neg (fun z => by have := (I_le (a := 6) (by omega) (by omega)).mp z; omega), e1, bd_w]
      exact tail g1 a2 a1 a3
  | succ d ih =>
    intro dd k left T can pre g st hd hk hp hlw hpre hcan h81 hR hS hC
    obtain ⟨dd, rfl⟩ : ∃ k, dd = k + 1 := ⟨dd - 1, by omega⟩
    obtain ⟨g1, e1, a1, a2, a3, a4⟩ := X_ab (p := p) (q := q) (w := w) (v := v) (ds := ds) (who := who) (kind := kind) (O := O) (A := A) (T := T) hM (show k < 6 by omega) hlw 6 FU 0 g (FU_lt (by omega)) (by omega) hS hC (fun j hj => absurd hj (by omega))
    have e1 : f_X1_ableAt (g, RF p q w v ds) 78 75 (I k) T left = some (mk 6 (abl (uo M kind O A) left T), (g1, RF p q w v ds)) := by
      unfold f_X1_ableAt
      rw [gd_t (show kd 78 = 1 from rfl), gd_t (show kd 75 = 6 from rfl)]
      exact e1
    have hR1 : ROX g1 st := ⟨by rw [a2 78 (by decide)]; exact hR.1, hR.2.1, hR.2.2.1, by rw [a2 79 (by decide)]; exact hR.2.2.2⟩
    have hC1 : SC g1 M n who kind O A := hC.keep (a2 75 (by decide)) (a2 76 (by decide)) (a2 77 (by decide))
    have h81' : ∀ j, j < k → g1 81 j = I ((pre.getD j 0 : Nat) : Int) := fun j hj => by rw [a2 81 (by decide)]; exact h81 j hj
    have hacl := ac_le (u := uo M kind O A) (left := left) (T := T)
    show ∃ g', f_X1_search_body (f_X1_search dd) _ _ _ _ _ _ _ = _ ∧ _
    unfold f_X1_search_body
    rw [gd_t (show kd 78 = 1 from rfl), gd_t (show kd 75 = 6 from rfl), if_neg (fun z => by have := (I_le (a := 6) (by omega) (by omega)).mp z; omega), e1, bd_w]
    unfold f_X1_search_19
    rw [Xbc, bd_w, show (g1, RF p q w v ds).1 78 4 = I st.1 from hR1.1, pc_abl, I_k]
    by_cases hs : st.1 < ((can + ac (uo M kind O A) left T : Nat) : Int)
    · rw [if_pos ((I_lt (by have := hR.2.1; omega) (by omega)).mpr hs)]
      by_cases hz : ac (uo M kind O A) left T = 0
      · have hs : st.1 < (can : Int) := by rw [hz] at hs; exact hs
        have hwl := whl_6l left
        obtain ⟨g', e, s', hR'⟩ := X_rec (p := p) (q := q) (w := w) (v := v) (ds := ds) (left := left) (k := k) (can := can) (pre := pre) (g := g1) (by omega) hpre (by omega) (by omega) h81'
        refine ⟨g', ?_, a1.sc (s'.mono (by decide)), Sb.tr (a2.mono (by decide)) (s'.mono (by decide)), fun j _ => by rw [s' 81 (by decide), a2 81 (by decide)], fun j hj => by rw [s' 82 (by decide)]; exact a3 j hj, ?_⟩
        · rw [if_pos ((ac_0 _ _ _).mp hz), e, bd_w]
        · rw [VV_0 hu (d + 1) left T can pre st hz hp, if_pos hs]; exact hR'
      · rw [if_neg (fun z => hz ((ac_0 _ _ _).mpr z))]
        obtain ⟨g', e, d1, d2, d3, d4, d5⟩ := X_sr55 (p := p) (q := q) (w := w) (v := v) (ds := ds) (who := who) (kind := kind) (O := O) (A := A) (T := T) hM (k := k) (d := d) (can := can) (pre := pre) (by omega) hp hlw hpre hcan (f_X1_search dd) (fun left T can pre g st q1 q2 q3 q4 q5 q6 q7 q8 => ih dd (k + 1) left T can pre g st (by omega) (by omega) q1 q2 q3 q4 q5 q6 q7 q8) 6 FU 0 g1 st (FU_lt (by omega)) (by omega) h81' a4 hR1 a1 hC1
        exact ⟨g', e, d1, Sb.tr (a2.mono (by decide)) d2, fun j hj => by rw [d3 j hj, a2 81 (by decide)], fun j hj => by rw [d4 j hj]; exact a3 j hj, d5⟩
    · refine ⟨g1, ?_, a1, a2.mono (by decide), fun j _ => by rw [a2 81 (by decide)], a3, ?_⟩
      · rw [if_neg (fun z => hs ((I_lt (by have := hR.2.1; omega) (by omega)).mp z))]
      · rw [VV_bd hu (d + 1) left T can pre st (by omega)]; exact hR1
end T
