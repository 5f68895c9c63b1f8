/-! what stands between two calls -/
def PW (M : Nat → Int32) (n np kind : Nat) : Prop := M 0 = I n ∧ (1 ≤ n ∧ n ≤ 24) ∧ M 1 = I np ∧ np ≤ 6 ∧ M 2 = I kind ∧ kind ≤ 3 ∧ (∃ l : Nat, l ≤ 9 ∧ M 3 = I l) ∧ (∃ l : Nat, l ≤ 9 ∧ M 4 = I l) ∧ (∀ j, j < 24 → ∃ c : Nat, c ≤ 9 ∧ M (5 + j) = I c) ∧ (∀ j, j < 24 → M (29 + j) = I (-4) ∨ (j < n ∧ ∃ i : Nat, i < np ∧ M (29 + j) = I i)) ∧ (∀ i, i < np → ∃ a : Nat, (1 ≤ a ∧ a ≤ 99) ∧ M (53 + i) = I a)
def PR (c0 c1 c2 c3 M : Nat → Int32) : Prop := (∀ k, k < 5 → c0 k = M k) ∧ (∀ j, j < 24 → c1 (j + 1) = M (5 + j)) ∧ (∀ i, i < 6 → ∀ j, j < 32 → bt (c2 i) j = (decide (j < 24) && decide (M (29 + j) = I i))) ∧ (∀ i, i < 6 → c3 i = M (53 + i))
def DW (T : Nat → Int32) (n np : Nat) : Prop := (∀ j, np ≤ j → j < 32 → bt (T 2) j = false) ∧ (∃ b : Nat, b ≤ n ∧ T 0 = I b) ∧ (T 1 = 0 ∨ T 1 = 1) ∧ (∀ j, j < 24 → T (3 + j) = I (-4) ∨ (j < n ∧ ∃ i : Nat, i < 8 ∧ T (3 + j) = I i)) ∧ (∀ j, j < 24 → T (27 + j) = I (-4) ∨ (j < n ∧ ∃ i : Nat, i < 6 ∧ T (27 + j) = I i))
def DR (d0 d1 d2 T : Nat → Int32) : Prop := (d0 2 = T 2 ∧ d0 3 = T 0 ∧ d0 4 = T 1) ∧ (∀ i, i < 8 → ∀ j, j < 32 → bt (d1 i) j = (decide (j < 24) && decide (T (3 + j) = I i))) ∧ (∀ i, i < 6 → ∀ j, j < 32 → bt (d2 i) j = (decide (j < 24) && decide (T (27 + j) = I i)))
def tkM (n : Nat) (T : Nat → Int32) : Int32 := mk n (fun j => decide (T (3 + j) ≠ I (-4)))
def owM (n : Nat) (M T : Nat → Int32) (fr i : Nat) : Int32 := mk n (fun j => decide (M (29 + j) = I (-4) ∨ M (29 + j) = I i ∨ T (27 + j) = I i ∨ j + 1 = fr))
def orr : Nat → (Nat → Int32) → Int32
  | 0, _ => 0
  | k + 1, f => orr k f ||| f k
theorem bt_orr (f : Nat → Int32) (i : Nat) : ∀ n, bt (orr n f) i = true ↔ ∃ k, k < n ∧ bt (f k) i = true := by
  intro n
  induction n with
  | zero => show bt 0 i = true ↔ _; rw [bt_0]; simp
  | succ n ih =>
    show bt (orr n f ||| f n) i = true ↔ _
    rw [bt_or, Bool.or_eq_true, ih]
    constructor
    · rintro (⟨k, h1, h2⟩ | h)
      · exact ⟨k, by omega, h2⟩
      · exact ⟨n, by omega, h⟩
    · rintro ⟨k, h1, h2⟩
      by_cases e : k = n
      · subst e; exact Or.inr h2
      · exact Or.inl ⟨k, by omega, h2⟩
def allM (n : Nat) : Int32 := ((1 : Int32) <<< (I n &&& 31)) - 1
theorem bt_all {n i : Nat} (hn : n ≤ 24) (hi : i < 32) : bt (allM n) i = decide (i < n) := by
  have : ∀ n : Nat, n < 25 → ∀ i : Nat, i < 32 → bt (allM n) i = decide (i < n) := by decide +kernel
  exact this n (by omega) i hi
theorem tkM_bt {n : Nat} {T : Nat → Int32} (hn : n ≤ 24) {i : Nat} (hi : i < 32) : bt (tkM n T) i = (decide (i < n) && decide (T (3 + i) ≠ I (-4))) := bt_mk (by omega) _ hi
theorem owM_bt {n fr k : Nat} {M T : Nat → Int32} (hn : n ≤ 24) {i : Nat} (hi : i < 32) : bt (owM n M T fr k) i = (decide (i < n) && decide (M (29 + i) = I (-4) ∨ M (29 + i) = I k ∨ T (27 + i) = I k ∨ i + 1 = fr)) := bt_mk (by omega) _ hi
theorem I_ne4 {k : Nat} (h : k < 1000) : ¬ I (k : Int) = I (-4) := fun z => by have := (I_inj (by omega) (by omega)).mp z; omega
theorem tk_eq {d0 d1 d2 T : Nat → Int32} {n np : Nat} (hn : n ≤ 24) (hR : DR d0 d1 d2 T) (hW : DW T n np) : orr 8 d1 = tkM n T := by
  apply bt_ext
  intro i hi
  apply Bool.eq_iff_iff.mpr
  rw [bt_orr, tkM_bt hn hi, Bool.and_eq_true, decide_eq_true_eq, decide_eq_true_eq]
  constructor
  · rintro ⟨k, hk, hb⟩
    rw [hR.2.1 k hk i hi, Bool.and_eq_true, decide_eq_true_eq, decide_eq_true_eq] at hb
    have h4 := I_ne4 (k := k) (by omega)
    rcases hW.2.2.2.1 i hb.1 with e | e
    · rw [hb.2] at e; exact absurd e h4
    · exact ⟨e.1, by rw [hb.2]; exact h4⟩
  · rintro ⟨h1, h2⟩
    rcases hW.2.2.2.1 i (by omega) with e | ⟨-, k, hk, e⟩
    · exact absurd e h2
    · refine ⟨k, hk, ?_⟩
      rw [hR.2.1 k hk i hi, Bool.and_eq_true, decide_eq_true_eq, decide_eq_true_eq]
      exact ⟨by omega, e⟩
def ltM (n : Nat) (T : Nat → Int32) : Int32 := mk n (fun j => decide (T (27 + j) ≠ I (-4)))
theorem lt_eq {d0 d1 d2 T : Nat → Int32} {n np : Nat} (hn : n ≤ 24) (hR : DR d0 d1 d2 T) (hW : DW T n np) : orr 6 d2 = ltM n T := by
  apply bt_ext
  intro i hi
  apply Bool.eq_iff_iff.mpr
  unfold ltM
  rw [bt_orr, bt_mk (by omega) _ hi, Bool.and_eq_true, decide_eq_true_eq, decide_eq_true_eq]
  constructor
  · rintro ⟨k, hk, hb⟩
    rw [hR.2.2 k hk i hi, Bool.and_eq_true, decide_eq_true_eq, decide_eq_true_eq] at hb
    have h4 := I_ne4 (k := k) (by omega)
    rcases hW.2.2.2.2 i hb.1 with e | e
    · rw [hb.2] at e; exact absurd e h4
    · exact ⟨e.1, by rw [hb.2]; exact h4⟩
  · rintro ⟨h1, h2⟩
    rcases hW.2.2.2.2 i (by omega) with e | ⟨-, k, hk, e⟩
    · exact absurd e h2
    · refine ⟨k, hk, ?_⟩
      rw [hR.2.2 k hk i hi, Bool.and_eq_true, decide_eq_true_eq, decide_eq_true_eq]
      exact ⟨by omega, e⟩
/-- whose numbers one may use, by the scene's rows -/
theorem ow_eq {c0 c1 c2 c3 M d0 d1 d2 T : Nat → Int32} {n np kind : Nat} (hP : PR c0 c1 c2 c3 M) (hM : PW M n np kind) (hR : DR d0 d1 d2 T) (hW : DW T n np) {i : Nat} (h6 : i < 6) : (allM n &&& (orr 6 c2 ^^^ (-1))) ||| (c2 i ||| d2 i) = owM n M T 0 i := by
  obtain ⟨-, hn, -, hnp, -, -, -, -, -, ho, -⟩ := hM
  apply bt_ext
  intro j hj
  apply Bool.eq_iff_iff.mpr
  rw [owM_bt hn.2 hj, bt_or, bt_and, bt_or, bt_not hj, bt_all hn.2 hj, hP.2.2.1 i h6 j hj, hR.2.2 i h6 j hj]
  simp only [Bool.or_eq_true, Bool.and_eq_true, decide_eq_true_eq, Bool.not_eq_true']
  constructor
  · rintro (⟨h1, h2⟩ | ⟨h1, h2⟩ | ⟨h1, h2⟩)
    · refine ⟨h1, Or.inl ?_⟩
      rcases ho j (by omega) with e | ⟨-, k, hk, e⟩
      · exact e
      · have : bt (orr 6 c2) j = true := (bt_orr _ _ _).mpr ⟨k, by omega, by rw [hP.2.2.1 k (by omega) j hj, Bool.and_eq_true, decide_eq_true_eq, decide_eq_true_eq]; exact ⟨by omega, e⟩⟩
        rw [h2] at this; cases this
    · rcases ho j h1 with e | e
      · rw [h2] at e; exact absurd e (I_ne4 (by omega))
      · exact ⟨e.1, Or.inr (Or.inl h2)⟩
    · rcases hW.2.2.2.2 j h1 with e | e
      · rw [h2] at e; exact absurd e (I_ne4 (by omega))
      · exact ⟨e.1, Or.inr (Or.inr (Or.inl h2))⟩
  · rintro ⟨h1, h2 | h2 | h2 | h2⟩
    · left
      refine ⟨h1, ?_⟩
      apply Bool.eq_false_iff.mpr
      intro hb
      obtain ⟨k, hk, hb⟩ := (bt_orr _ _ _).mp hb
      rw [hP.2.2.1 k hk j hj, Bool.and_eq_true, decide_eq_true_eq, decide_eq_true_eq] at hb
      rw [h2] at hb
      exact I_ne4 (by omega) hb.2.symm
    · right; left; exact ⟨by omega, h2⟩
    · right; right; exact ⟨by omega, h2⟩
    · exact absurd h2 (by omega)
/-- with one number free for all -/
theorem ow_fr {n : Nat} {M T : Nat → Int32} (hn : n ≤ 24) {i x : Nat} (hx : 1 ≤ x ∧ x ≤ n) : owM n M T 0 i ||| b1 (x - 1) = owM n M T x i := by
  apply bt_ext
  intro j hj
  apply Bool.eq_iff_iff.mpr
  rw [bt_or, owM_bt hn hj, owM_bt hn hj, bt_b1 (by omega) hj]
  simp only [Bool.or_eq_true, Bool.and_eq_true, decide_eq_true_eq]
  constructor
  · rintro (⟨h1, h2 | h2 | h2 | h2⟩ | h)
    · exact ⟨h1, Or.inl h2⟩
    · exact ⟨h1, Or.inr (Or.inl h2)⟩
    · exact ⟨h1, Or.inr (Or.inr (Or.inl h2))⟩
    · exact absurd h2 (by omega)
    · exact ⟨by omega, Or.inr (Or.inr (Or.inr (by omega)))⟩
  · rintro ⟨h1, h2 | h2 | h2 | h2⟩
    · exact Or.inl ⟨h1, Or.inl h2⟩
    · exact Or.inl ⟨h1, Or.inr (Or.inl h2)⟩
    · exact Or.inl ⟨h1, Or.inr (Or.inr (Or.inl h2))⟩
    · exact Or.inr (by omega)
theorem ci_0 : (0 : Int32).toNatClampNeg = 0 := by decide
theorem ci_1 : (1 : Int32).toNatClampNeg = 1 := by decide
theorem ci_2 : (2 : Int32).toNatClampNeg = 2 := by decide
theorem ci_3 : (3 : Int32).toNatClampNeg = 3 := by decide
theorem ci_4 : (4 : Int32).toNatClampNeg = 4 := by decide
theorem ii_0 : inr (0 : Int32) 59 = true := by decide
theorem ii_1 : inr (1 : Int32) 59 = true := by decide
theorem ii_2 : inr (2 : Int32) 59 = true := by decide
theorem ii_3 : inr (3 : Int32) 59 = true := by decide
theorem ii_4 : inr (4 : Int32) 59 = true := by decide
theorem id_0 : inr (0 : Int32) 51 = true := by decide
theorem id_1 : inr (1 : Int32) 51 = true := by decide
theorem id_2 : inr (2 : Int32) 51 = true := by decide
theorem I_k (a k : Nat) : I (a : Int) + I (k : Int) = I ((a + k : Nat) : Int) := by rw [I_add]; rfl
theorem orx0 (x : Int32) : x ||| 0 = x := or_z x
section T
variable {p q w v : Nat} {ds : Nat → Nat} {g : Nat → Nat → Int32}
theorem M_tk_lp {n : Nat} (hn : n ≤ 24) (h0 : g 84 0 = I n) : ∀ (m fu k : Nat), m < fu → k + m = n → f_X12_taken_4 fu (g, RF p q w v ds) 83 (mk k (fun j => decide (g 86 (3 + j) ≠ I (-4)))) (I ((k + 1 : Nat) : Int)) = some (tkM n (g 86), (g, RF p q w v ds)) := by
  intro m
  induction m with
  | zero =>
    intro fu k hf hk
    obtain ⟨fu, rfl⟩ : ∃ k, fu = k + 1 := ⟨fu - 1, by omega⟩
    have c1 : I (n : Int) < I ((k + 1 : Nat) : Int) := by rw [I_ltn (by omega) (by omega)]; omega
    simp only [f_X12_taken_4, r_83_1, r_83_2, r_83_3, r_83_4, r_83_6, r_83_8, r_83_11, r_83_13, r_83_15, r_83_19, r_83_20, r_83_21, r_83_22, r_83_24, r_83_25, r_83_26, r_83_28, r_83_29, k_83, n_83, k_84, n_84, k_85, n_85, k_86, n_86, k_87, n_87, k_88, n_88, k_89, n_89, k_90, n_90, k_91, n_91, k_92, n_92, k_93, n_93, k_94, n_94, k_95, n_95, k_96, n_96, k_97, n_97, k_98, n_98, k_99, n_99, k_100, n_100, k_101, n_101, gd, lt, bd_s, if_true, if_false, reduceIte, si_uc, uc_s, uc_n, upd_s, upd_n, Nat.reduceEqDiff, ne_eq, not_false_eq_true, not_true_eq_false, ci_0, ci_1, ci_2, ci_3, ci_4, ii_0, ii_1, ii_2, ii_3, ii_4, id_0, id_1, id_2, h0, if_pos c1]
    rw [show k = n by omega]
    rfl
  | succ m ih =>
    intro fu k hf hk
    obtain ⟨fu, rfl⟩ : ∃ k, fu = k + 1 := ⟨fu - 1, by omega⟩
    have c1 : ¬ I (n : Int) < I ((k + 1 : Nat) : Int) := by rw [I_ltn (by omega) (by omega)]; omega
    have e1 : (2 : Int32) + I ((k + 1 : Nat) : Int) = I ((3 + k : Nat) : Int) := by show I ((2 : Nat) : Int) + _ = _; rw [I_k]; congr 2; omega
    have nx := ih fu (k + 1) (by omega) (by omega)
    simp only [f_X12_taken_4, r_83_1, r_83_2, r_83_3, r_83_4, r_83_6, r_83_8, r_83_11, r_83_13, r_83_15, r_83_19, r_83_20, r_83_21, r_83_22, r_83_24, r_83_25, r_83_26, r_83_28, r_83_29, k_83, n_83, k_84, n_84, k_85, n_85, k_86, n_86, k_87, n_87, k_88, n_88, k_89, n_89, k_90, n_90, k_91, n_91, k_92, n_92, k_93, n_93, k_94, n_94, k_95, n_95, k_96, n_96, k_97, n_97, k_98, n_98, k_99, n_99, k_100, n_100, k_101, n_101, gd, lt, bd_s, if_true, if_false, reduceIte, si_uc, uc_s, uc_n, upd_s, upd_n, Nat.reduceEqDiff, ne_eq, not_false_eq_true, not_true_eq_false, ci_0, ci_1, ci_2, ci_3, ci_4, ii_0, ii_1, ii_2, ii_3, ii_4, id_0, id_1, id_2, h0, if_neg c1, e1, I_in (show 3 + k < 51 by omega) (by omega), I_ix (show 3 + k < 1000000 by omega), I_s, b1_eq (show 1 ≤ k + 1 by omega), Nat.add_sub_cancel]
    by_cases c : g 86 (3 + k) = I (-4)
    · rw [if_pos (show g 86 (3 + k) = (-4 : Int32) from c)]
      have e : mk (k + 1) (fun j => decide (g 86 (3 + j) ≠ I (-4))) = mk k (fun j => decide (g 86 (3 + j) ≠ I (-4))) ||| 0 := by
        show _ ||| (if decide (g 86 (3 + k) ≠ I (-4)) then b1 k else 0) = _
        rw [decide_eq_false (fun z => z c)]; rfl
      rw [← e]; exact nx
    · rw [if_neg (show ¬ g 86 (3 + k) = (-4 : Int32) from c)]
      have e : mk (k + 1) (fun j => decide (g 86 (3 + j) ≠ I (-4))) = mk k (fun j => decide (g 86 (3 + j) ≠ I (-4))) ||| b1 k := by
        show _ ||| (if decide (g 86 (3 + k) ≠ I (-4)) then b1 k else 0) = _
        rw [decide_eq_true c]; rfl
      rw [← e]; exact nx
theorem M_taken {n : Nat} (hn : n ≤ 24) (h0 : g 84 0 = I n) : f_X12_taken (g, RF p q w v ds) 83 = some (tkM n (g 86), (g, RF p q w v ds)) := by
  have := M_tk_lp (p := p) (q := q) (w := w) (v := v) (ds := ds) hn h0 n FU 0 (FU_lt (by omega)) (by omega)
  unfold f_X12_taken
  simp only [r_83_1, r_83_2, r_83_3, r_83_4, r_83_6, r_83_8, r_83_11, r_83_13, r_83_15, r_83_19, r_83_20, r_83_21, r_83_22, r_83_24, r_83_25, r_83_26, r_83_28, r_83_29, k_83, n_83, k_84, n_84, k_85, n_85, k_86, n_86, k_87, n_87, k_88, n_88, k_89, n_89, k_90, n_90, k_91, n_91, k_92, n_92, k_93, n_93, k_94, n_94, k_95, n_95, k_96, n_96, k_97, n_97, k_98, n_98, k_99, n_99, k_100, n_100, k_101, n_101, gd, lt, bd_s, if_true, if_false, reduceIte, si_uc, uc_s, uc_n, upd_s, upd_n, Nat.reduceEqDiff, ne_eq, not_false_eq_true, not_true_eq_false]
  exact this
theorem M_of_lp {n fr i : Nat} (hn : n ≤ 24) (hf0 : fr ≤ 24) (h0 : g 84 0 = I n) (hfr : g 83 12 = I fr) : ∀ (m fu k : Nat), m < fu → k + m = n → f_X12_ofOne_4 fu (g, RF p q w v ds) 83 (I i) (mk k (fun j => decide (g 84 (29 + j) = I (-4) ∨ g 84 (29 + j) = I i ∨ g 86 (27 + j) = I i ∨ j + 1 = fr))) (I ((k + 1 : Nat) : Int)) = some (owM n (g 84) (g 86) fr i, (g, RF p q w v ds)) := by
  intro m
  induction m with
  | zero =>
    intro fu k hf hk
    obtain ⟨fu, rfl⟩ : ∃ k, fu = k + 1 := ⟨fu - 1, by omega⟩
    have c1 : I (n : Int) < I ((k + 1 : Nat) : Int) := by rw [I_ltn (by omega) (by omega)]; omega
    simp only [f_X12_ofOne_4, r_83_1, r_83_2, r_83_3, r_83_4, r_83_6, r_83_8, r_83_11, r_83_13, r_83_15, r_83_19, r_83_20, r_83_21, r_83_22, r_83_24, r_83_25, r_83_26, r_83_28, r_83_29, k_83, n_83, k_84, n_84, k_85, n_85, k_86, n_86, k_87, n_87, k_88, n_88, k_89, n_89, k_90, n_90, k_91, n_91, k_92, n_92, k_93, n_93, k_94, n_94, k_95, n_95, k_96, n_96, k_97, n_97, k_98, n_98, k_99, n_99, k_100, n_100, k_101, n_101, gd, lt, bd_s, if_true, if_false, reduceIte, si_uc, uc_s, uc_n, upd_s, upd_n, Nat.reduceEqDiff, ne_eq, not_false_eq_true, not_true_eq_false, ci_0, ci_1, ci_2, ci_3, ci_4, ii_0, ii_1, ii_2, ii_3, ii_4, id_0, id_1, id_2, h0, if_pos c1]
    rw [show k = n by omega]
    rfl
  | succ m ih =>
    intro fu k hf hk
    obtain ⟨fu, rfl⟩ : ∃ k, fu = k + 1 := ⟨fu - 1, by omega⟩
    have c1 : ¬ I (n : Int) < I ((k + 1 : Nat) : Int) := by rw [I_ltn (by omega) (by omega)]; omega
    have e1 : (28 : Int32) + I ((k + 1 : Nat) : Int) = I ((29 + k : Nat) : Int) := by show I ((28 : Nat) : Int) + _ = _; rw [I_k]; congr 2; omega
    have e2 : (26 : Int32) + I ((k + 1 : Nat) : Int) = I ((27 + k : Nat) : Int) := by show I ((26 : Nat) : Int) + _ = _; rw [I_k]; congr 2; omega
    have nx := ih fu (k + 1) (by omega) (by omega)
    have ye : ∀ (hc : g 84 (29 + k) = I (-4) ∨ g 84 (29 + k) = I i ∨ g 86 (27 + k) = I i ∨ k + 1 = fr), f_X12_ofOne_62 (f_X12_ofOne_4 fu) (g, RF p q w v ds) 83 (I i) (mk k (fun j => decide (g 84 (29 + j) = I (-4) ∨ g 84 (29 + j) = I i ∨ g 86 (27 + j) = I i ∨ j + 1 = fr))) (I ((k + 1 : Nat) : Int)) = some (owM n (g 84) (g 86) fr i, (g, RF p q w v ds)) := by
      intro hc
      unfold f_X12_ofOne_62 f_X12_ofOne_67
      rw [if_neg (by decide), b1_eq (show 1 ≤ k + 1 by omega), Nat.add_sub_cancel, I_s]
      have e : mk (k + 1) (fun j => decide (g 84 (29 + j) = I (-4) ∨ g 84 (29 + j) = I i ∨ g 86 (27 + j) = I i ∨ j + 1 = fr)) = mk k (fun j => decide (g 84 (29 + j) = I (-4) ∨ g 84 (29 + j) = I i ∨ g 86 (27 + j) = I i ∨ j + 1 = fr)) ||| b1 k := by
        show _ ||| (if decide (g 84 (29 + k) = I (-4) ∨ g 84 (29 + k) = I i ∨ g 86 (27 + k) = I i ∨ k + 1 = fr) then b1 k else 0) = _
        rw [decide_eq_true hc]; rfl
      rw [← e]; exact nx
    simp only [f_X12_ofOne_4, r_83_1, r_83_2, r_83_3, r_83_4, r_83_6, r_83_8, r_83_11, r_83_13, r_83_15, r_83_19, r_83_20, r_83_21, r_83_22, r_83_24, r_83_25, r_83_26, r_83_28, r_83_29, k_83, n_83, k_84, n_84, k_85, n_85, k_86, n_86, k_87, n_87, k_88, n_88, k_89, n_89, k_90, n_90, k_91, n_91, k_92, n_92, k_93, n_93, k_94, n_94, k_95, n_95, k_96, n_96, k_97, n_97, k_98, n_98, k_99, n_99, k_100, n_100, k_101, n_101, gd, lt, bd_s, if_true, if_false, reduceIte, si_uc, uc_s, uc_n, upd_s, upd_n, Nat.reduceEqDiff, ne_eq, not_false_eq_true, not_true_eq_false, ci_0, ci_1, ci_2, ci_3, ci_4, ii_0, ii_1, ii_2, ii_3, ii_4, id_0, id_1, id_2, h0, if_neg c1, e1, e2, I_in (show 29 + k < 59 by omega) (by omega), I_ix (show 29 + k < 1000000 by omega), I_in (show 27 + k < 51 by omega) (by omega), I_ix (show 27 + k < 1000000 by omega), hfr, I_eqn (show k + 1 < 1000000 by omega) (show fr < 1000000 by omega)]
    by_cases c : g 84 (29 + k) = I (-4)
    · rw [if_pos (show g 84 (29 + k) = (-4 : Int32) from c)]; exact ye (Or.inl c)
    · rw [if_neg (show ¬ g 84 (29 + k) = (-4 : Int32) from c)]
      by_cases d : g 84 (29 + k) = I i
      · rw [if_pos d]; exact ye (Or.inr (Or.inl d))
      · rw [if_neg d]
        by_cases f : g 86 (27 + k) = I i
        · rw [if_pos f]; exact ye (Or.inr (Or.inr (Or.inl f)))
        · rw [if_neg f]
          by_cases s : k + 1 = fr
          · rw [if_pos s]; exact ye (Or.inr (Or.inr (Or.inr s)))
          · rw [if_neg s]
            unfold f_X12_ofOne_67
            rw [if_pos rfl, I_s]
            have e : mk (k + 1) (fun j => decide (g 84 (29 + j) = I (-4) ∨ g 84 (29 + j) = I i ∨ g 86 (27 + j) = I i ∨ j + 1 = fr)) = mk k (fun j => decide (g 84 (29 + j) = I (-4) ∨ g 84 (29 + j) = I i ∨ g 86 (27 + j) = I i ∨ j + 1 = fr)) ||| 0 := by
              show _ ||| (if decide (g 84 (29 + k) = I (-4) ∨ g 84 (29 + k) = I i ∨ g 86 (27 + k) = I i ∨ k + 1 = fr) then b1 k else 0) = _
              rw [decide_eq_false (by rintro (z | z | z | z) <;> contradiction)]; rfl
            rw [← e]; exact nx
theorem M_ofOne {n fr i : Nat} (hn : n ≤ 24) (hf0 : fr ≤ 24) (h0 : g 84 0 = I n) (hfr : g 83 12 = I fr) : f_X12_ofOne (g, RF p q w v ds) 83 (I i) = some (owM n (g 84) (g 86) fr i, (g, RF p q w v ds)) := by
  have := M_of_lp (p := p) (q := q) (w := w) (v := v) (ds := ds) (i := i) hn hf0 h0 hfr n FU 0 (FU_lt (by omega)) (by omega)
  unfold f_X12_ofOne
  simp only [r_83_1, r_83_2, r_83_3, r_83_4, r_83_6, r_83_8, r_83_11, r_83_13, r_83_15, r_83_19, r_83_20, r_83_21, r_83_22, r_83_24, r_83_25, r_83_26, r_83_28, r_83_29, k_83, n_83, k_84, n_84, k_85, n_85, k_86, n_86, k_87, n_87, k_88, n_88, k_89, n_89, k_90, n_90, k_91, n_91, k_92, n_92, k_93, n_93, k_94, n_94, k_95, n_95, k_96, n_96, k_97, n_97, k_98, n_98, k_99, n_99, k_100, n_100, k_101, n_101, gd, lt, bd_s, if_true, if_false, reduceIte, si_uc, uc_s, uc_n, upd_s, upd_n, Nat.reduceEqDiff, ne_eq, not_false_eq_true, not_true_eq_false]
  exact this
theorem M_mayOf {n fr i : Nat} (hn : n ≤ 24) (hf0 : fr ≤ 24) (h0 : g 84 0 = I n) (hfr : g 83 12 = I fr) : f_X12_mayOf (g, RF p q w v ds) 83 (I i) = some (owM n (g 84) (g 86) fr i &&& (tkM n (g 86) ^^^ (-1)), (g, RF p q w v ds)) := by
  unfold f_X12_mayOf
  simp only [r_83_1, r_83_2, r_83_3, r_83_4, r_83_6, r_83_8, r_83_11, r_83_13, r_83_15, r_83_19, r_83_20, r_83_21, r_83_22, r_83_24, r_83_25, r_83_26, r_83_28, r_83_29, k_83, n_83, k_84, n_84, k_85, n_85, k_86, n_86, k_87, n_87, k_88, n_88, k_89, n_89, k_90, n_90, k_91, n_91, k_92, n_92, k_93, n_93, k_94, n_94, k_95, n_95, k_96, n_96, k_97, n_97, k_98, n_98, k_99, n_99, k_100, n_100, k_101, n_101, gd, lt, bd_s, if_true, if_false, reduceIte, si_uc, uc_s, uc_n, upd_s, upd_n, Nat.reduceEqDiff, ne_eq, not_false_eq_true, not_true_eq_false, M_ofOne hn hf0 h0 hfr, M_taken hn h0]
theorem M_noNumber {n : Nat} (h0 : g 84 0 = I n) (hn : n ≤ 24) (x : Int32) : f_X12_noNumber (g, RF p q w v ds) 83 x = some (if 1 ≤ x.toInt ∧ x.toInt ≤ n then 0 else 1, (g, RF p q w v ds)) := by
  unfold f_X12_noNumber
  simp only [r_83_1, r_83_2, r_83_3, r_83_4, r_83_6, r_83_8, r_83_11, r_83_13, r_83_15, r_83_19, r_83_20, r_83_21, r_83_22, r_83_24, r_83_25, r_83_26, r_83_28, r_83_29, k_83, n_83, k_84, n_84, k_85, n_85, k_86, n_86, k_87, n_87, k_88, n_88, k_89, n_89, k_90, n_90, k_91, n_91, k_92, n_92, k_93, n_93, k_94, n_94, k_95, n_95, k_96, n_96, k_97, n_97, k_98, n_98, k_99, n_99, k_100, n_100, k_101, n_101, gd, lt, bd_s, if_true, if_false, reduceIte, si_uc, uc_s, uc_n, upd_s, upd_n, Nat.reduceEqDiff, ne_eq, not_false_eq_true, not_true_eq_false, ci_0, ci_1, ci_2, ci_3, ci_4, ii_0, ii_1, ii_2, ii_3, ii_4, id_0, id_1, id_2, h0, M_in, I_64 (z := (n : Int)) (by omega) (by omega), Int32.toInt_toInt64, show (1 : Int64).toInt = 1 by decide]
  by_cases c : 1 ≤ x.toInt ∧ x.toInt ≤ n
  · simp only [if_pos c]; rfl
  · simp only [if_neg c]; rfl
theorem M_noOne {np : Nat} (h0 : g 84 1 = I np) (hn : np ≤ 6) (x : Int32) : f_X12_noOne (g, RF p q w v ds) 83 x = some (if 0 ≤ x.toInt ∧ x.toInt < np then 0 else 1, (g, RF p q w v ds)) := by
  have e1 : I (np : Int) - 1 = I ((np : Int) - 1) := by show _ - I 1 = _; rw [I_sub]
  unfold f_X12_noOne
  simp only [r_83_1, r_83_2, r_83_3, r_83_4, r_83_6, r_83_8, r_83_11, r_83_13, r_83_15, r_83_19, r_83_20, r_83_21, r_83_22, r_83_24, r_83_25, r_83_26, r_83_28, r_83_29, k_83, n_83, k_84, n_84, k_85, n_85, k_86, n_86, k_87, n_87, k_88, n_88, k_89, n_89, k_90, n_90, k_91, n_91, k_92, n_92, k_93, n_93, k_94, n_94, k_95, n_95, k_96, n_96, k_97, n_97, k_98, n_98, k_99, n_99, k_100, n_100, k_101, n_101, gd, lt, bd_s, if_true, if_false, reduceIte, si_uc, uc_s, uc_n, upd_s, upd_n, Nat.reduceEqDiff, ne_eq, not_false_eq_true, not_true_eq_false, ci_0, ci_1, ci_2, ci_3, ci_4, ii_0, ii_1, ii_2, ii_3, ii_4, id_0, id_1, id_2, h0, M_in, e1, I_64 (z := (np : Int) - 1) (by omega) (by omega), Int32.toInt_toInt64, show (0 : Int64).toInt = 0 by decide]
  by_cases c : 0 ≤ x.toInt ∧ x.toInt < np
  · simp only [if_pos c, if_pos (show 0 ≤ x.toInt ∧ x.toInt ≤ (np : Int) - 1 by omega)]; rfl
  · simp only [if_neg c, if_neg (show ¬ (0 ≤ x.toInt ∧ x.toInt ≤ (np : Int) - 1) by omega)]; rfl
theorem X_isNumber {c M : Nat → Int32} {a n : Nat} (hk : kd a = 4) (h0 : g a 0 = I n) (hn : n ≤ 24) (x : Int32) : f_X4_isNumber (g, RF p q w v ds) a x = some (if 1 ≤ x.toInt ∧ x.toInt ≤ n then 1 else 0, (g, RF p q w v ds)) := by
  have b := I_bd x
  unfold f_X4_isNumber
  simp only [hk, gd, lt, bd_s, if_true, if_false, reduceIte, si_uc, uc_s, uc_n, upd_s, upd_n, Nat.reduceEqDiff, ne_eq, not_false_eq_true, not_true_eq_false, h0]
  rw [I_of x]
  have e1 : (I x.toInt < (1 : Int32)) = (x.toInt < 1) := propext (I_lt (b := 1) (by omega) (by omega))
  have e2 : (I (n : Int) < I x.toInt) = ((n : Int) < x.toInt) := propext (I_lt (by omega) (by omega))
  rw [I_toInt b.1 b.2]
  simp only [e1, e2]
  by_cases c1 : x.toInt < 1
  · rw [if_pos c1, if_neg (by omega)]
  · rw [if_neg c1]
    by_cases c2 : (n : Int) < x.toInt
    · rw [if_pos c2, if_neg (by omega)]
    · rw [if_neg c2, if_pos (by omega)]
theorem X_isPerson {a np : Nat} (hk : kd a = 4) (h0 : g a 1 = I np) (hn : np ≤ 6) (x : Int32) : f_X4_isPerson (g, RF p q w v ds) a x = some (if 0 ≤ x.toInt ∧ x.toInt < np then 1 else 0, (g, RF p q w v ds)) := by
  have b := I_bd x
  unfold f_X4_isPerson
  simp only [hk, gd, lt, bd_s, if_true, if_false, reduceIte, si_uc, uc_s, uc_n, upd_s, upd_n, Nat.reduceEqDiff, ne_eq, not_false_eq_true, not_true_eq_false, h0]
  rw [I_of x]
  have e1 : (I x.toInt < (0 : Int32)) = (x.toInt < 0) := propext (I_lt (b := 0) (by omega) (by omega))
  have e2 : (I (np : Int) ≤ I x.toInt) = ((np : Int) ≤ x.toInt) := propext (I_le (by omega) (by omega))
  rw [I_toInt b.1 b.2]
  simp only [e1, e2]
  by_cases c1 : x.toInt < 0
  · rw [if_pos c1, if_neg (by omega)]
  · rw [if_neg c1]
    by_cases c2 : (np : Int) ≤ x.toInt
    · rw [if_pos c2, if_neg (by omega)]
    · rw [if_neg c2, if_pos (by omega)]
theorem X_together {a m : Nat} (hk : kd a = 13) (hl : ln a = m) (hm : m < 1000) : f_X11_together (g, RF p q w v ds) a = some (orr m (g a), (g, RF p q w v ds)) := by
  have lp : ∀ (r fu k : Nat), r < fu → k + r = m → f_X11_together_10 fu (g, RF p q w v ds) (orr k (g a)) a (I (m : Int)) (I (k : Int)) = some (orr m (g a), (g, RF p q w v ds)) := by
    intro r
    induction r with
    | zero =>
      intro fu k hf hk'
      obtain ⟨fu, rfl⟩ : ∃ k, fu = k + 1 := ⟨fu - 1, by omega⟩
      have c1 : I (m : Int) ≤ I (k : Int) := by rw [I_len (by omega) (by omega)]; omega
      simp only [f_X11_together_10, if_pos c1]
      rw [show k = m by omega]
    | succ r ih =>
      intro fu k hf hk'
      obtain ⟨fu, rfl⟩ : ∃ k, fu = k + 1 := ⟨fu - 1, by omega⟩
      have c1 : ¬ I (m : Int) ≤ I (k : Int) := by rw [I_len (by omega) (by omega)]; omega
      simp only [f_X11_together_10, if_neg c1, hl, I_in (show k < m by omega) (by omega), I_ix (show k < 1000000 by omega), I_s, gd, if_true, reduceIte]
      exact ih fu (k + 1) (by omega) (by omega)
  unfold f_X11_together
  simp only [hk, gd, if_true, reduceIte, hl, I_nI]
  exact lp m FU 0 (FU_lt (by omega)) (by omega)
end T
