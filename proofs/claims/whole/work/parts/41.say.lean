/-! the best saying, found and kept -/
def one (a : Nat) : Int32 := if a ≤ 24 then b1 (a - 1) else 0
def bm (kind : Nat) (may : Int32) (a : Nat) : Int32 := if kind = 0 then may &&& one a else may
def BS (wt : Nat → Nat → Int) (kind : Nat) (may : Int32) (a : Nat) : List (Nat × Nat) := PKo wt (lastU kind) (nums (bm kind may a)) a
def us (L : List (Nat × Nat)) : Int32 := su 1 L ||| su 2 L ||| su 3 L
theorem su_bt {u i : Nat} {L : List (Nat × Nat)} (hL : ∀ q ∈ L, 1 ≤ q.1 ∧ q.1 ≤ 24) (hi : i < 32) : bt (su u L) i = true ↔ ∃ q ∈ L, q.2 = u ∧ q.1 = i + 1 := by
  induction L with
  | nil => simp [su, bt_0]
  | cons q L ih =>
    have h0 := hL q List.mem_cons_self
    have ih := ih (fun q hq => hL q (List.mem_cons_of_mem _ hq))
    show bt ((if q.2 = u then b1 (q.1 - 1) else 0) ||| su u L) i = true ↔ _
    rw [bt_or, Bool.or_eq_true, ih]
    constructor
    · rintro (h | ⟨q', h1, h2⟩)
      · by_cases e : q.2 = u
        · rw [if_pos e, bt_b1 (by omega) hi, decide_eq_true_eq] at h
          exact ⟨q, List.mem_cons_self, e, by omega⟩
        · rw [if_neg e, bt_0] at h; cases h
      · exact ⟨q', List.mem_cons_of_mem _ h1, h2⟩
    · rintro ⟨q', h1, h2, h3⟩
      rcases List.mem_cons.mp h1 with rfl | h1
      · left; rw [if_pos h2, bt_b1 (by omega) hi, decide_eq_true_eq]; omega
      · right; exact ⟨q', h1, h2, h3⟩
theorem BS_mem {wt : Nat → Nat → Int} {kind : Nat} {may : Int32} {a : Nat} {q : Nat × Nat} (h : q ∈ BS wt kind may a) : q.1 ∈ nums (bm kind may a) ∧ q.2 ∈ uses (lastU kind) q.1 := by
  unfold BS PKo at h
  split at h
  · exact PK_mem h
  · cases h
theorem BS_rng {wt : Nat → Nat → Int} {kind : Nat} {may : Int32} {a : Nat} : ∀ q ∈ BS wt kind may a, 1 ≤ q.1 ∧ q.1 ≤ 24 := fun q h => nums_b _ (BS_mem h).1
theorem us_bt {wt : Nat → Nat → Int} {kind : Nat} {may : Int32} {a i : Nat} (hi : i < 32) : bt (us (BS wt kind may a)) i = true ↔ ∃ q ∈ BS wt kind may a, q.1 = i + 1 := by
  unfold us
  rw [bt_or, bt_or, Bool.or_eq_true, Bool.or_eq_true, su_bt BS_rng hi, su_bt BS_rng hi, su_bt BS_rng hi]
  constructor
  · rintro ((⟨q, h1, -, h2⟩ | ⟨q, h1, -, h2⟩) | ⟨q, h1, -, h2⟩) <;> exact ⟨q, h1, h2⟩
  · rintro ⟨q, h1, h2⟩
    have hm := uses_mem (BS_mem h1).2
    have : q.2 = 1 ∨ q.2 = 2 ∨ q.2 = 3 := by omega
    rcases this with e | e | e
    · exact Or.inl (Or.inl ⟨q, h1, e, h2⟩)
    · exact Or.inl (Or.inr ⟨q, h1, e, h2⟩)
    · exact Or.inr ⟨q, h1, e, h2⟩
theorem sub_bt {x y : Int32} (h : x &&& (y ^^^ (-1)) = 0) {i : Nat} (hi : i < 32) (hx : bt x i = true) : bt y i = true := by
  have e : bt (x &&& (y ^^^ (-1))) i = false := by rw [h, bt_0]
  rw [bt_and, bt_not hi, hx] at e
  simpa using e
theorem bm_bt {kind a i : Nat} {may : Int32} : bt (bm kind may a) i = (bt may i && (if kind = 0 then bt (one a) i else true)) := by
  unfold bm
  split
  · rw [bt_and]
  · rw [Bool.and_true]
theorem nums_sub {kind a : Nat} {may m0 : Int32} (h : may &&& (m0 ^^^ (-1)) = 0) : nums (bm kind may a) = (nums (bm kind m0 a)).filter (fun x => bt may (x - 1)) := by
  unfold nums
  rw [List.filter_filter]
  apply List.filter_congr
  intro x hx
  have hx := List.mem_range'_1.mp hx
  rw [bm_bt, bm_bt]
  cases hb : bt may (x - 1) with
  | false => simp
  | true =>
    rw [sub_bt h (by omega) hb]
    simp
theorem BS_hit {wt : Nat → Nat → Int} {kind a : Nat} {may m0 : Int32} (hw : ∀ x u, 0 ≤ wt x u) (h : may &&& (m0 ^^^ (-1)) = 0) (h2 : us (BS wt kind m0 a) &&& (may ^^^ (-1)) = 0) : BS wt kind m0 a = BS wt kind may a := by
  have hq : ∀ q ∈ BS wt kind m0 a, bt may (q.1 - 1) = true := by
    intro q hq
    have hr := BS_rng q hq
    exact sub_bt h2 (by omega) ((us_bt (by omega)).mpr ⟨q, hq, by omega⟩)
  unfold BS at hq ⊢
  rw [nums_sub h]
  unfold PKo at hq ⊢
  by_cases hlt : DD wt (lastU kind) (nums (bm kind m0 a)) a < INF
  · rw [if_pos hlt] at hq ⊢
    have hf := PK_filter hw (fun x => bt may (x - 1)) _ _ hlt hq
    rw [hf.1, hf.2, if_pos hlt]
  · rw [if_neg hlt]
    have := DD_filter (wt := wt) (last := lastU kind) (fun x => bt may (x - 1)) (nums (bm kind m0 a)) a
    rw [if_neg (by omega)]
def ENT (g : Nat → Nat → Int32) (wt : Nat → Nat → Int) (s : Nat) (L : List (Nat × Nat)) : Prop := g 70 s = su 1 L ∧ g 71 s = su 2 L ∧ g 72 s = su 3 L ∧ g 73 s = I (spr wt L)
def SLT (g : Nat → Nat → Int32) (wt : Nat → Nat → Int) (a s : Nat) : Prop := g 69 s = I (-4) ∨ ∃ kind : Nat, kind ≤ 3 ∧ g 69 s = I kind ∧ ENT g wt s (BS wt kind (g 68 s) a)
def SAY (g : Nat → Nat → Int32) (wt : Nat → Nat → Int) : Prop := PrOK g wt ∧ TOK g wt ∧ (∀ a s, 1 ≤ a → a ≤ 99 → 8 * a ≤ s → s < 8 * a + 8 → SLT g wt a s) ∧ ∀ a, 1 ≤ a → a ≤ 99 → ∃ t : Nat, t < 8 ∧ g 74 a = I t
def FND (g : Nat → Nat → Int32) (wt : Nat → Nat → Int) (L : List (Nat × Nat)) : Prop := ∃ s : Nat, s < 800 ∧ g 61 8 = I s ∧ ENT g wt s L
def SYC : List Nat := [61, 62, 63, 64, 65, 66, 68, 69, 70, 71, 72, 73, 74]
theorem TBL.same {g g' : Nat → Nat → Int32} {wt : Nat → Nat → Int} {may : Int32} {kind : Nat} (h : TBL g wt may kind) (e2 : g' 62 = g 62) (e3 : g' 63 = g 63) (e4 : g' 64 = g 64) (e5 : g' 65 = g 65) (e6 : g' 66 = g 66) : TBL g' wt may kind := by
  obtain ⟨h1, h2, h3, h5, h6⟩ := h
  exact ⟨by rw [e2]; exact h1, by rw [e2]; exact h2, ⟨by rw [e2]; exact h3.1, fun k hk => by rw [e6]; exact h3.2 k hk⟩, fun k hk => by rw [e4, e5]; exact h5 k hk, fun k a b => (h6 k a b).kept (fun s _ _ => by rw [e3])⟩
theorem TOK.same {g g' : Nat → Nat → Int32} {wt : Nat → Nat → Int} (h : TOK g wt) (e2 : g' 62 = g 62) (e3 : g' 63 = g 63) (e4 : g' 64 = g 64) (e5 : g' 65 = g 65) (e6 : g' 66 = g 66) : TOK g' wt := by
  rcases h with h | ⟨kind, h1, h2⟩
  · left; rw [e2]; exact h
  · right; exact ⟨kind, h1, by rw [e2]; exact h2.same e2 e3 e4 e5 e6⟩
theorem SAY.keep {g g' : Nat → Nat → Int32} {wt : Nat → Nat → Int} (h : SAY g wt) (hS : Sb [61] g g') : SAY g' wt := by
  obtain ⟨h1, h2, h3, h4⟩ := h
  refine ⟨fun x u a b c d => by rw [hS 67 (by decide)]; exact h1 x u a b c d, ?_, fun a s x1 x2 x3 x4 => ?_, fun a x1 x2 => by rw [hS 74 (by decide)]; exact h4 a x1 x2⟩
  · exact h2.same (hS 62 (by decide)) (hS 63 (by decide)) (hS 64 (by decide)) (hS 65 (by decide)) (hS 66 (by decide))
  · have := h3 a s x1 x2 x3 x4
    unfold SLT ENT at *
    simp only [hS 68 (by decide), hS 69 (by decide), hS 70 (by decide), hS 71 (by decide), hS 72 (by decide), hS 73 (by decide)]
    exact this
section T
variable {p q w v : Nat} {ds : Nat → Nat} {wt : Nat → Nat → Int}
theorem X_used (g : Nat → Nat → Int32) {s : Nat} (hs : s < 800) : f_X5_used (g, RF p q w v ds) 61 (I s) = some (g 70 s ||| g 71 s ||| g 72 s, (g, RF p q w v ds)) := by
  have i1 : inr (I (s : Int)) 800 = true := I_inr (by omega) (by omega) (by omega)
  have e1 : (I (s : Int)).toNatClampNeg = s := by rw [I_cl (by omega) (by omega)]; omega
  unfold f_X5_used
  simp only [r_61_0, r_61_1, r_61_2, r_61_3, r_61_4, r_61_5, r_61_6, r_61_7, r_62_4, r_62_5, r_62_6, r_62_7, r_62_8, k_61, n_61, k_62, n_62, k_63, n_63, k_64, n_64, k_65, n_65, k_66, n_66, k_67, n_67, k_68, n_68, k_69, n_69, k_70, n_70, k_71, n_71, k_72, n_72, k_73, n_73, k_74, n_74, gd, lt, bd_s, if_true, if_false, reduceIte, si_uc, uc_s, uc_n, upd_s, upd_n, Nat.reduceEqDiff, ne_eq, not_false_eq_true, not_true_eq_false, i1, e1]
theorem X_oneOf (h : Hp) {a : Nat} (h1 : 1 ≤ a) (h2 : a ≤ 99) : f_X5_oneOf h (I a) = some (one a, h) := by
  unfold f_X5_oneOf one
  by_cases c : a ≤ 24
  · rw [if_pos (by rw [I_lit]; exact (I_le (by omega) (by omega)).mpr (by omega)), if_pos c, b1_eq h1]
  · rw [if_neg (by rw [I_lit]; exact fun z => by have := (I_le (by omega) (by omega)).mp z; omega), if_neg c]
theorem X_find_new {g : Nat → Nat → Int32} {may : Int32} {kind a f : Nat} (hw : ∀ x u, 0 ≤ wt x u) (hk : kind ≤ 3) (hS : SAY g wt) (ha : 1 ≤ a ∧ a ≤ 99) (hf : 8 * a ≤ f ∧ f < 8 * a + 8) (hg : g 61 8 = I f) :
    ∃ g', f_X5_find_143 (g, RF p q w v ds) 61 may (I a) (I kind) 62 (bm kind may a) = some (us (BS wt kind may a), (g', RF p q w v ds)) ∧ SAY g' wt ∧ Sb SYC g g' ∧ FND g' wt (BS wt kind may a) := by
  obtain ⟨h1, h2, h3, h4⟩ := hS
  obtain ⟨g2, a1, a2, a3⟩ := X_build (p := p) (q := q) (w := w) (v := v) (ds := ds) hw h1 h2 (bm kind may a) hk
  have hP2 : PrOK g2 wt := fun x u a b c d => by rw [a3 67 (by decide)]; exact h1 x u a b c d
  obtain ⟨g6, b1', b2, b3, b4, b5, b6, b7⟩ := X_pick (p := p) (q := q) (w := w) (v := v) (ds := ds) (a := (a : Int)) hw hk hP2 a2 (by omega)
  have hs6 : Sb [62, 63, 64, 65, 66] g g6 := Sb.tr a3 (b2.mono (by decide))
  have i1 : inr (I (f : Int)) 800 = true := I_inr (by omega) (by omega) (by omega)
  have e1 : (I (f : Int)).toNatClampNeg = f := by rw [I_cl (by omega) (by omega)]; omega
  have hg6 : g6 61 8 = I f := by rw [hs6 61 (by decide)]; exact hg
  obtain ⟨g', hg'⟩ : ∃ g', g' = uc (uc (uc (uc (uc (uc g6 68 (upd (g6 68) f may)) 69 (upd (g6 69) f (I kind))) 70 (upd (g6 70) f (g6 62 0))) 71 (upd (g6 71) f (g6 62 1))) 72 (upd (g6 72) f (g6 62 2))) 73 (upd (g6 73) f (g6 62 3)) := ⟨_, rfl⟩
  have c68 : g' 68 = upd (g6 68) f may := by rw [hg']; simp only [gd, lt, bd_s, if_true, if_false, reduceIte, si_uc, uc_s, uc_n, upd_s, upd_n, Nat.reduceEqDiff, ne_eq, not_false_eq_true, not_true_eq_false]
  have c69 : g' 69 = upd (g6 69) f (I kind) := by rw [hg']; simp only [gd, lt, bd_s, if_true, if_false, reduceIte, si_uc, uc_s, uc_n, upd_s, upd_n, Nat.reduceEqDiff, ne_eq, not_false_eq_true, not_true_eq_false]
  have c70 : g' 70 = upd (g6 70) f (g6 62 0) := by rw [hg']; simp only [gd, lt, bd_s, if_true, if_false, reduceIte, si_uc, uc_s, uc_n, upd_s, upd_n, Nat.reduceEqDiff, ne_eq, not_false_eq_true, not_true_eq_false]
  have c71 : g' 71 = upd (g6 71) f (g6 62 1) := by rw [hg']; simp only [gd, lt, bd_s, if_true, if_false, reduceIte, si_uc, uc_s, uc_n, upd_s, upd_n, Nat.reduceEqDiff, ne_eq, not_false_eq_true, not_true_eq_false]
  have c72 : g' 72 = upd (g6 72) f (g6 62 2) := by rw [hg']; simp only [gd, lt, bd_s, if_true, if_false, reduceIte, si_uc, uc_s, uc_n, upd_s, upd_n, Nat.reduceEqDiff, ne_eq, not_false_eq_true, not_true_eq_false]
  have c73 : g' 73 = upd (g6 73) f (g6 62 3) := by rw [hg']; simp only [gd, lt, bd_s, if_true, if_false, reduceIte, si_uc, uc_s, uc_n, upd_s, upd_n, Nat.reduceEqDiff, ne_eq, not_false_eq_true, not_true_eq_false]
  have cS : Sb [68, 69, 70, 71, 72, 73] g6 g' := by rw [hg']; exact (((((Sb.rf.uc (by decide)).uc (by decide)).uc (by decide)).uc (by decide)).uc (by decide)).uc (by decide)
  have hE : ENT g' wt f (BS wt kind may a) := ⟨by rw [c70, upd_s]; exact b4, by rw [c71, upd_s]; exact b5, by rw [c72, upd_s]; exact b6, by rw [c73, upd_s]; exact b7⟩
  refine ⟨g', ?_, ⟨?_, ?_, ?_, ?_⟩, ?_, ⟨f, by omega, by rw [cS 61 (by decide)]; exact hg6, hE⟩⟩
  · unfold f_X5_find_143
    rw [a1]
    simp only [bd_s, r_61_0, r_61_1, r_61_2, r_61_3, r_61_4, r_61_5, r_61_6, r_61_7, r_62_4, r_62_5, r_62_6, r_62_7, r_62_8, k_61, n_61, k_62, n_62, k_63, n_63, k_64, n_64, k_65, n_65, k_66, n_66, k_67, n_67, k_68, n_68, k_69, n_69, k_70, n_70, k_71, n_71, k_72, n_72, k_73, n_73, k_74, n_74, gd, if_true, reduceIte]
    rw [b1']
    simp only [bd_s]
    simp only [r_61_0, r_61_1, r_61_2, r_61_3, r_61_4, r_61_5, r_61_6, r_61_7, r_62_4, r_62_5, r_62_6, r_62_7, r_62_8, k_61, n_61, k_62, n_62, k_63, n_63, k_64, n_64, k_65, n_65, k_66, n_66, k_67, n_67, k_68, n_68, k_69, n_69, k_70, n_70, k_71, n_71, k_72, n_72, k_73, n_73, k_74, n_74, gd, lt, bd_s, if_true, if_false, reduceIte, si_uc, uc_s, uc_n, upd_s, upd_n, Nat.reduceEqDiff, ne_eq, not_false_eq_true, not_true_eq_false, hg6, i1, e1]
    rw [← hg', X_used g' (by omega)]
    simp only [bd_s]
    rw [hE.1, hE.2.1, hE.2.2.1]
    rfl
  · intro x u x1 x2 x3 x4
    rw [cS 67 (by decide), b2 67 (by decide)]
    exact hP2 x u x1 x2 x3 x4
  · right
    refine ⟨kind, hk, ?_⟩
    have e10 : g' 62 10 = bm kind may a := by rw [cS 62 (by decide)]; exact b3.1
    rw [e10]
    exact b3.same (cS 62 (by decide)) (cS 63 (by decide)) (cS 64 (by decide)) (cS 65 (by decide)) (cS 66 (by decide))
  · intro a' s x1 x2 x3 x4
    by_cases e : s = f
    · subst e
      have : a' = a := by omega
      subst this
      right
      exact ⟨kind, hk, by rw [c69, upd_s], by rw [c68, upd_s]; exact hE⟩
    · have := h3 a' s x1 x2 x3 x4
      unfold SLT ENT at *
      simp only [c68, c69, c70, c71, c72, c73, upd_n e, hs6 68 (by decide), hs6 69 (by decide), hs6 70 (by decide), hs6 71 (by decide), hs6 72 (by decide), hs6 73 (by decide)]
      exact this
  · intro a' x1 x2
    rw [cS 74 (by decide), hs6 74 (by decide)]
    exact h4 a' x1 x2
  · exact Sb.tr (hs6.mono (by decide)) (cS.mono (by decide))
theorem X_find_miss {g : Nat → Nat → Int32} {may : Int32} {kind a fu : Nat} (hw : ∀ x u, 0 ≤ wt x u) (hk : kind ≤ 3) (hS : SAY g wt) (ha : 1 ≤ a ∧ a ≤ 99) :
    ∃ g', f_X5_find_28 (fu + 1) (g, RF p q w v ds) 61 may (I a) (I kind) (I (8 * a : Nat)) (I (8 * a + 8 : Nat)) = some (us (BS wt kind may a), (g', RF p q w v ds)) ∧ SAY g' wt ∧ Sb SYC g g' ∧ FND g' wt (BS wt kind may a) := by
  obtain ⟨t, ht, et⟩ := hS.2.2.2 a ha.1 ha.2
  have i1 : inr (I (a : Int)) 100 = true := I_inr (by omega) (by omega) (by omega)
  have e1 : (I (a : Int)).toNatClampNeg = a := by rw [I_cl (by omega) (by omega)]; omega
  have c1 : I ((8 * a : Nat) : Int) + I 8 ≤ I ((8 * a + 8 : Nat) : Int) := by rw [I_add]; exact (I_le (by omega) (by omega)).mpr (by omega)
  obtain ⟨g9, hg9⟩ : ∃ g9, g9 = uc (uc g 61 (upd (g 61) 8 (I (8 * a + t : Nat)))) 74 (upd (g 74) a (I ((t + 1) % 8 : Nat))) := ⟨_, rfl⟩
  have d61 : g9 61 8 = I (8 * a + t : Nat) := by rw [hg9, uc_n (by decide), uc_s, upd_s]
  have d74 : g9 74 = upd (g 74) a (I ((t + 1) % 8 : Nat)) := by rw [hg9, uc_s]
  have dS : Sb [61, 74] g g9 := by rw [hg9]; exact (Sb.rf.uc (by decide)).uc (by decide)
  have hS9 : SAY g9 wt := by
    obtain ⟨h1, h2, h3, h4⟩ := hS
    refine ⟨fun x u a b c d => by rw [dS 67 (by decide)]; exact h1 x u a b c d, ?_, fun a' s x1 x2 x3 x4 => ?_, fun a' x1 x2 => ?_⟩
    · exact h2.same (dS 62 (by decide)) (dS 63 (by decide)) (dS 64 (by decide)) (dS 65 (by decide)) (dS 66 (by decide))
    · have := h3 a' s x1 x2 x3 x4
      unfold SLT ENT at *
      simp only [dS 68 (by decide), dS 69 (by decide), dS 70 (by decide), dS 71 (by decide), dS 72 (by decide), dS 73 (by decide)]
      exact this
    · rw [d74]
      by_cases e : a' = a
      · subst e; exact ⟨(t + 1) % 8, by omega, by rw [upd_s]⟩
      · rw [upd_n e]; exact h4 a' x1 x2
  have emod : I (t : Int) + I 1 - (I (t : Int) + I 1) / I 8 * I 8 = I ((t + 1) % 8 : Nat) := by
    rw [I_add, I_divn (by omega) (by omega) (by omega) (by omega), I_mul, I_sub]
    congr 1
    omega
  have esum : I ((8 * a : Nat) : Int) + I (t : Int) = I ((8 * a + t : Nat) : Int) := by rw [I_add]; congr 1
  obtain ⟨g', x1, x2, x3, x4⟩ := X_find_new (p := p) (q := q) (w := w) (v := v) (ds := ds) (may := may) (f := 8 * a + t) hw hk hS9 ha (by omega) d61
  refine ⟨g', ?_, x2, Sb.tr (dS.mono (by decide)) x3, x4⟩
  have hk0 : (I (kind : Int) = 0) = (kind = 0) := propext ⟨fun z => by have := (I_inj (b := 0) (by omega) (by omega)).mp z; omega, fun z => by rw [z]; rfl⟩
  simp only [f_X5_find_28, I_lit, if_pos c1]
  simp only [r_61_0, r_61_1, r_61_2, r_61_3, r_61_4, r_61_5, r_61_6, r_61_7, r_62_4, r_62_5, r_62_6, r_62_7, r_62_8, k_61, n_61, k_62, n_62, k_63, n_63, k_64, n_64, k_65, n_65, k_66, n_66, k_67, n_67, k_68, n_68, k_69, n_69, k_70, n_70, k_71, n_71, k_72, n_72, k_73, n_73, k_74, n_74, gd, lt, bd_s, if_true, if_false, reduceIte, si_uc, uc_s, uc_n, upd_s, upd_n, Nat.reduceEqDiff, ne_eq, not_false_eq_true, not_true_eq_false, i1, e1, et, esum, emod]
  rw [← hg9]
  by_cases z : kind = 0
  · rw [if_pos (show I (kind : Int) = I 0 by show (I (kind : Int) = 0); rw [hk0]; exact z), X_oneOf _ ha.1 ha.2]
    simp only [bd_s]
    have eb : bm kind may a = may &&& one a := by unfold bm; rw [if_pos z]
    rw [eb] at x1
    exact x1
  · rw [if_neg (show ¬ I (kind : Int) = I 0 by show ¬ (I (kind : Int) = 0); rw [hk0]; exact z)]
    have eb : bm kind may a = may := by unfold bm; rw [if_neg z]
    rw [eb] at x1
    exact x1
theorem X_find_lp {may : Int32} {kind a : Nat} (hw : ∀ x u, 0 ≤ wt x u) (hk : kind ≤ 3) (ha : 1 ≤ a ∧ a ≤ 99) : ∀ (m fu s : Nat) (g : Nat → Nat → Int32), m < fu → s + m = 8 * a + 8 → 8 * a ≤ s → SAY g wt →
    ∃ g', f_X5_find_28 fu (g, RF p q w v ds) 61 may (I a) (I kind) (I (8 * a : Nat)) (I s) = some (us (BS wt kind may a), (g', RF p q w v ds)) ∧ SAY g' wt ∧ Sb SYC g g' ∧ FND g' wt (BS wt kind may a) := by
  intro m
  induction m with
  | zero =>
    intro fu s g hf hs _ hS
    obtain ⟨fu, rfl⟩ : ∃ k, fu = k + 1 := ⟨fu - 1, by omega⟩
    rw [show s = 8 * a + 8 by omega]
    exact X_find_miss hw hk hS ha
  | succ m ih =>
    intro fu s g hf hs h8 hS
    obtain ⟨fu, rfl⟩ : ∃ k, fu = k + 1 := ⟨fu - 1, by omega⟩
    have nxt := ih fu (s + 1) g (by omega) (by omega) (by omega) hS
    have es : I (s : Int) + (1 : Int32) = I ((s + 1 : Nat) : Int) := by rw [I_lit, I_add]; congr 1
    have i1 : inr (I (s : Int)) 800 = true := I_inr (by omega) (by omega) (by omega)
    have e1 : (I (s : Int)).toNatClampNeg = s := by rw [I_cl (by omega) (by omega)]; omega
    have c1 : ¬ I ((8 * a : Nat) : Int) + (8 : Int32) ≤ I (s : Int) := by rw [I_lit, I_add]; exact fun z => by have := (I_le (by omega) (by omega)).mp z; omega
    simp only [f_X5_find_28, if_neg c1]
    simp only [r_61_0, r_61_1, r_61_2, r_61_3, r_61_4, r_61_5, r_61_6, r_61_7, r_62_4, r_62_5, r_62_6, r_62_7, r_62_8, k_61, n_61, k_62, n_62, k_63, n_63, k_64, n_64, k_65, n_65, k_66, n_66, k_67, n_67, k_68, n_68, k_69, n_69, k_70, n_70, k_71, n_71, k_72, n_72, k_73, n_73, k_74, n_74, gd, lt, bd_s, if_true, if_false, reduceIte, si_uc, uc_s, uc_n, upd_s, upd_n, Nat.reduceEqDiff, ne_eq, not_false_eq_true, not_true_eq_false, i1, e1, es]
    by_cases c2 : g 69 s = I kind
    · rw [if_pos c2]
      by_cases c3 : may &&& (g 68 s ^^^ -1) = 0
      · rw [if_pos c3, X_used g (by omega)]
        simp only [bd_s]
        rcases hS.2.2.1 a s ha.1 ha.2 h8 (by omega) with z | ⟨k', z1, z2, z3⟩
        · rw [z] at c2; exact absurd ((I_inj (by omega) (by omega)).mp c2) (by omega)
        · have : k' = kind := by
            rw [z2] at c2
            have := (I_inj (by omega) (by omega)).mp c2
            omega
          subst this
          have eu : g 70 s ||| g 71 s ||| g 72 s = us (BS wt k' (g 68 s) a) := by rw [z3.1, z3.2.1, z3.2.2.1]; rfl
          rw [eu]
          by_cases c4 : us (BS wt k' (g 68 s) a) &&& (may ^^^ -1) = 0
          · rw [if_pos c4, si_uc, X_used (s := s) _ (by omega)]
            simp only [bd_s, uc_n (show 70 ≠ 61 by decide), uc_n (show 71 ≠ 61 by decide), uc_n (show 72 ≠ 61 by decide)]
            rw [eu]
            have eh := BS_hit hw c3 c4
            rw [← eh]
            refine ⟨_, rfl, hS.keep (Sb.rf.uc (by decide)), Sb.rf.uc (by decide), s, by omega, by rw [uc_s, upd_s], ?_⟩
            unfold ENT
            simp only [uc_n (show 70 ≠ 61 by decide), uc_n (show 71 ≠ 61 by decide), uc_n (show 72 ≠ 61 by decide), uc_n (show 73 ≠ 61 by decide)]
            exact z3
          · rw [if_neg c4]; exact nxt
      · rw [if_neg c3]; exact nxt
    · rw [if_neg c2]; exact nxt
theorem X_find {g : Nat → Nat → Int32} (may : Int32) {kind a : Nat} (hw : ∀ x u, 0 ≤ wt x u) (hk : kind ≤ 3) (hS : SAY g wt) (ha : 1 ≤ a ∧ a ≤ 99) :
    ∃ g', f_X5_find (g, RF p q w v ds) 61 may (I a) (I kind) = some (us (BS wt kind may a), (g', RF p q w v ds)) ∧ SAY g' wt ∧ Sb SYC g g' ∧ FND g' wt (BS wt kind may a) := by
  have c1 : ¬ I (a : Int) < I 1 := fun z => by have := (I_lt (by omega) (by omega)).mp z; omega
  have c2 : I (a : Int) ≤ I 99 := (I_le (by omega) (by omega)).mpr (by omega)
  have em : I (a : Int) * I 8 = I ((8 * a : Nat) : Int) := by rw [I_mul]; congr 1; omega
  obtain ⟨g', x1, x2, x3, x4⟩ := X_find_lp (p := p) (q := q) (w := w) (v := v) (ds := ds) (may := may) hw hk ha 8 FU (8 * a) (uc g 61 (upd (g 61) 8 (I 0))) (FU_lt (by omega)) (by omega) (Nat.le_refl _) (hS.keep (Sb.rf.uc (by decide)))
  refine ⟨g', ?_, x2, Sb.tr (Sb.rf.uc (by decide)) x3, x4⟩
  unfold f_X5_find
  simp only [r_61_0, r_61_1, r_61_2, r_61_3, r_61_4, r_61_5, r_61_6, r_61_7, r_62_4, r_62_5, r_62_6, r_62_7, r_62_8, k_61, n_61, k_62, n_62, k_63, n_63, k_64, n_64, k_65, n_65, k_66, n_66, k_67, n_67, k_68, n_68, k_69, n_69, k_70, n_70, k_71, n_71, k_72, n_72, k_73, n_73, k_74, n_74, gd, lt, bd_s, if_true, if_false, reduceIte, si_uc, uc_s, uc_n, upd_s, upd_n, Nat.reduceEqDiff, ne_eq, not_false_eq_true, not_true_eq_false, I_lit, if_neg c1, if_pos c2, em]
  exact x1
end T
