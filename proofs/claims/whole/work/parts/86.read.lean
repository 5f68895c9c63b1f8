/-! the whole text, read by both -/
def M00 : Nat → Int32 := fun j => if j = 0 then 12 else if j = 1 then 0 else if j = 2 then 1 else if j = 3 then 1 else if j = 4 then 2 else if j < 29 then 1 else if j < 53 then -4 else 0
theorem M00_c {j : Nat} (h : j < 24) : M00 (5 + j) = 1 := by unfold M00; rw [if_neg (by omega), if_neg (by omega), if_neg (by omega), if_neg (by omega), if_neg (by omega), if_pos (by omega)]
theorem M00_o {j : Nat} (h : j < 24) : M00 (29 + j) = -4 := by unfold M00; rw [if_neg (by omega), if_neg (by omega), if_neg (by omega), if_neg (by omega), if_neg (by omega), if_neg (by omega), if_pos (by omega)]
theorem M00_a {j : Nat} (h : j < 6) : M00 (53 + j) = 0 := by unfold M00; rw [if_neg (by omega), if_neg (by omega), if_neg (by omega), if_neg (by omega), if_neg (by omega), if_neg (by omega), if_neg (by omega)]
theorem M00_pw : PWo M00 true := ⟨12, 0, 1, ⟨rfl, by decide, rfl, by decide, rfl, by decide, ⟨1, by decide, rfl⟩, ⟨2, by decide, rfl⟩, fun j hj => ⟨1, by decide, M00_c hj⟩, fun j hj => Or.inl (M00_o hj), fun i hi => absurd hi (by omega)⟩, fun _ j hj => M00_o hj⟩
section T
variable {p q w v : Nat} {ds : Nat → Nat}
theorem X_cl42 {a : Nat} (ha : a = 5 ∨ a = 9) : ∀ (r fu i : Nat) (g : Nat → Nat → Int32), r < fu → i + r = 6 → (∀ j, j < i → g (a + 2) j = 0 ∧ g (a + 3) j = 0) →
    ∃ g', f_X4_clear_42 fu (g, RF p q w v ds) a (I i) = some ((), (g', RF p q w v ds)) ∧ Sb [a + 2, a + 3] g g' ∧ ∀ j, j < 6 → g' (a + 2) j = 0 ∧ g' (a + 3) j = 0 := by
  obtain ⟨ka, k1, k2, k3, z1, z2, z3⟩ := Pk ha
  obtain ⟨r5, r6, r7⟩ := Prx ha p q w v ds
  intro r
  induction r with
  | zero =>
    intro fu i g hf hi hI
    obtain ⟨fu, rfl⟩ : ∃ k, fu = k + 1 := ⟨fu - 1, by omega⟩
    have : i = 6 := by omega
    subst this
    refine ⟨g, ?_, Sb.rf, hI⟩
    rw [f_X4_clear_42]
    exact if_pos (by decide)
  | succ r ih =>
    intro fu i g hf hi hI
    obtain ⟨fu, rfl⟩ : ∃ k, fu = k + 1 := ⟨fu - 1, by omega⟩
    have na : a + 3 ≠ a + 2 := by omega
    obtain ⟨g', e, s', h'⟩ := ih fu (i + 1) (uc (uc g (a + 2) (upd (g (a + 2)) i 0)) (a + 3) (upd (g (a + 3)) i 0)) (by omega) (by omega) (fun j hj => by
      rw [uc_n (by omega), uc_s, uc_s]
      by_cases c : j = i
      · subst c; rw [upd_s, upd_s]; exact ⟨rfl, rfl⟩
      · rw [upd_n c, upd_n c]; exact hI j (by omega))
    refine ⟨g', ?_, Sb.tr ((Sb.rf.uc (by simp)).uc (by simp)) s', h'⟩
    rw [← e]
    simp only [f_X4_clear_42]
    rw [if_neg (fun z => by have := (I_le (a := 6) (by omega) (by omega)).mp z; omega)]
    simp only [r6, r7, k2, k3, z2, z3, gd, if_true, reduceIte, I_in (show i < 6 by omega) (show 6 < 1000000 by decide), I_ix (show i < 1000000 by omega), lt_w, uc_n na, I_s]
theorem X_cl21 {a : Nat} (ha : a = 5 ∨ a = 9) : ∀ (r fu i : Nat) (g : Nat → Nat → Int32), r < fu → i + r = 25 → (∀ j, j < i → g (a + 1) j = 1) →
    ∃ g', f_X4_clear_21 fu (g, RF p q w v ds) a (I i) = f_X4_clear_42 FU (g', RF p q w v ds) a 0 ∧ Sb [a + 1] g g' ∧ ∀ j, j < 25 → g' (a + 1) j = 1 := by
  obtain ⟨ka, k1, k2, k3, z1, z2, z3⟩ := Pk ha
  obtain ⟨r5, r6, r7⟩ := Prx ha p q w v ds
  intro r
  induction r with
  | zero =>
    intro fu i g hf hi hI
    obtain ⟨fu, rfl⟩ : ∃ k, fu = k + 1 := ⟨fu - 1, by omega⟩
    have : i = 25 := by omega
    subst this
    refine ⟨g, ?_, Sb.rf, hI⟩
    rw [f_X4_clear_21]
    exact if_pos (by decide)
  | succ r ih =>
    intro fu i g hf hi hI
    obtain ⟨fu, rfl⟩ : ∃ k, fu = k + 1 := ⟨fu - 1, by omega⟩
    obtain ⟨g', e, s', h'⟩ := ih fu (i + 1) (uc g (a + 1) (upd (g (a + 1)) i 1)) (by omega) (by omega) (fun j hj => by
      rw [uc_s]
      by_cases c : j = i
      · subst c; rw [upd_s]
      · rw [upd_n c]; exact hI j (by omega))
    refine ⟨g', ?_, fun b hb => by rw [s' b hb, uc_n (fun z => hb (by rw [z]; simp))], h'⟩
    rw [← e]
    simp only [f_X4_clear_21]
    generalize f_X4_clear_42 FU = lf
    rw [if_neg (fun z => by have := (I_lt (a := 24) (by omega) (by omega)).mp z; omega)]
    simp only [r5, k1, z1, gd, if_true, reduceIte, I_in (show i < 25 by omega) (show 25 < 1000000 by decide), I_ix (show i < 1000000 by omega), lt_w, I_s]
theorem X_clear {a : Nat} (ha : a = 5 ∨ a = 9) (g : Nat → Nat → Int32) : ∃ g', f_X4_clear (g, RF p q w v ds) a = some ((), (g', RF p q w v ds)) ∧ Sb [a, a + 1, a + 2, a + 3] g g' ∧ PRg g' a M00 := by
  obtain ⟨ka, k1, k2, k3, z1, z2, z3⟩ := Pk ha
  obtain ⟨g1, hg1⟩ : ∃ g1, g1 = uc g a (upd (upd (upd (upd (upd (g a) 0 12) 1 0) 2 1) 3 1) 4 2) := ⟨_, rfl⟩
  obtain ⟨g2, e2, s2, h2⟩ := X_cl21 (p := p) (q := q) (w := w) (v := v) (ds := ds) ha 25 FU 0 g1 (FU_lt (by omega)) (by omega) (fun j hj => absurd hj (by omega))
  obtain ⟨g3, e3, s3, h3⟩ := X_cl42 (p := p) (q := q) (w := w) (v := v) (ds := ds) ha 6 FU 0 g2 (FU_lt (by omega)) (by omega) (fun j hj => absurd hj (by omega))
  have e23 : f_X4_clear_21 FU (g1, RF p q w v ds) a 0 = some ((), (g3, RF p q w v ds)) := e2.trans e3
  have s1 : Sb [a, a + 1, a + 2, a + 3] g g1 := by rw [hg1]; exact Sb.rf.uc (by simp)
  refine ⟨g3, ?_, Sb.tr (Sb.tr s1 (s2.mono (by simp))) (s3.mono (by simp)), fun k hk => ?_, fun j hj => ?_, fun i hi j hj => ?_, fun i hi => ?_⟩
  · unfold f_X4_clear f_X4_setLaw
    revert e23
    generalize f_X4_clear_21 FU = lf
    intro e23
    rw [gd_t ka, lt_w, lt_w, gd_t ka, if_neg (by decide), if_neg (by decide), if_pos (by decide), lt_w, lt_w, lt_w, bd_w]
    simp only [uc_s, uc_uc]
    rw [← hg1]
    exact e23
  · rw [s3 a (by simp), s2 a (by simp), hg1, uc_s]
    have : k = 0 ∨ k = 1 ∨ k = 2 ∨ k = 3 ∨ k = 4 := by omega
    rcases this with rfl | rfl | rfl | rfl | rfl <;> rfl
  · rw [s3 (a + 1) (by simp), h2 (j + 1) (by omega), M00_c hj]
  · rw [(h3 i hi).1, bt_0]
    symm
    by_cases f : j < 24
    · rw [M00_o f, decide_eq_false (show ¬ (-4 : Int32) = I (i : Int) from fun z => I_ne4 (show i < 1000 by omega) z.symm), Bool.and_false]
    · rw [decide_eq_false f, Bool.false_and]
  · rw [(h3 i hi).2, M00_a hi]
theorem M_bg52 : ∀ (r fu i : Nat) (g : Nat → Nat → Int32), r < fu → i + r = 24 →
    ∃ g', f_X12_begin_52 fu (g, RF p q w v ds) 83 (I ((i + 1 : Nat) : Int)) = some ((), (g', RF p q w v ds)) ∧ Sb [85] g g' ∧ ∀ j, g' 85 j = if 5 + i ≤ j ∧ j < 29 then 1 else if 29 + i ≤ j ∧ j < 53 then -4 else g 85 j := by
  intro r
  induction r with
  | zero =>
    intro fu i g hf hi
    obtain ⟨fu, rfl⟩ : ∃ k, fu = k + 1 := ⟨fu - 1, by omega⟩
    have : i = 24 := by omega
    subst this
    refine ⟨g, ?_, Sb.rf, fun j => by rw [if_neg (by omega), if_neg (by omega)]⟩
    rw [f_X12_begin_52]
    exact if_pos (by decide)
  | succ r ih =>
    intro fu i g hf hi
    obtain ⟨fu, rfl⟩ : ∃ k, fu = k + 1 := ⟨fu - 1, by omega⟩
    obtain ⟨g', e, s', h'⟩ := ih fu (i + 1) (uc g 85 (upd (upd (g 85) (5 + i) 1) (29 + i) (-4))) (by omega) (by omega)
    refine ⟨g', ?_, fun b hb => by rw [s' b hb, uc_n (fun z => hb (by rw [z]; decide))], fun j => ?_⟩
    · rw [← e]
      have e4 : (4 : Int32) + I ((i + 1 : Nat) : Int) = I ((5 + i : Nat) : Int) := by rw [show (4 : Int32) = I ((4 : Nat) : Int) from rfl, I_k]; congr 2; omega
      have e28 : (28 : Int32) + I ((i + 1 : Nat) : Int) = I ((29 + i : Nat) : Int) := by rw [show (28 : Int32) = I ((28 : Nat) : Int) from rfl, I_k]; congr 2; omega
      simp only [f_X12_begin_52]
      rw [if_neg (fun z => by have := (I_lt (a := 24) (by omega) (by omega)).mp z; omega)]
      simp only [r_83_1, r_83_2, r_83_3, r_83_4, r_83_6, r_83_8, r_83_11, r_83_13, r_83_15, r_83_19, r_83_20, r_83_21, r_83_22, r_83_24, r_83_25, r_83_26, r_83_28, r_83_29, k_83, n_83, k_84, n_84, k_85, n_85, k_86, n_86, k_87, n_87, k_88, n_88, k_89, n_89, k_90, n_90, k_91, n_91, k_92, n_92, k_93, n_93, k_94, n_94, k_95, n_95, k_96, n_96, k_97, n_97, k_98, n_98, k_99, n_99, k_100, n_100, k_101, n_101, gd, if_true, reduceIte, e4, e28, I_in (show 5 + i < 59 by omega) (show 59 < 1000000 by decide), I_ix (show 5 + i < 1000000 by omega), I_in (show 29 + i < 59 by omega) (show 59 < 1000000 by decide), I_ix (show 29 + i < 1000000 by omega), lt_w, uc_s, uc_uc, I_s]
    · rw [h' j, uc_s]
      by_cases c1 : j = 5 + i
      · subst c1; rw [if_neg (by omega), if_neg (by omega), upd_n (by omega), upd_s, if_pos (by omega)]
      · by_cases c2 : j = 29 + i
        · subst c2; rw [if_neg (by omega), if_neg (by omega), upd_s, if_neg (by omega), if_pos (by omega)]
        · rw [upd_n c2, upd_n c1]
          by_cases d1 : 5 + i ≤ j ∧ j < 29
          · rw [if_pos (show 5 + (i + 1) ≤ j ∧ j < 29 by omega), if_pos d1]
          · rw [if_neg (show ¬ (5 + (i + 1) ≤ j ∧ j < 29) by omega), if_neg d1]
            by_cases d2 : 29 + i ≤ j ∧ j < 53
            · rw [if_pos (show 29 + (i + 1) ≤ j ∧ j < 53 by omega), if_pos d2]
            · rw [if_neg (show ¬ (29 + (i + 1) ≤ j ∧ j < 53) by omega), if_neg d2]
theorem M_bg2 : ∀ (r fu i : Nat) (g : Nat → Nat → Int32), r < fu → i + r = 59 → (∀ j, j < i → g 85 j = 0) →
    ∃ g', f_X12_begin_2 fu (g, RF p q w v ds) 83 (I i) = some ((), (g', RF p q w v ds)) ∧ Sb [85] g g' ∧ FM g' M00 := by
  intro r
  induction r with
  | zero =>
    intro fu i g hf hi hI
    obtain ⟨fu, rfl⟩ : ∃ k, fu = k + 1 := ⟨fu - 1, by omega⟩
    have : i = 59 := by omega
    subst this
    obtain ⟨g1, hg1⟩ : ∃ g1, g1 = uc g 85 (upd (upd (upd (upd (g 85) 0 12) 2 1) 3 1) 4 2) := ⟨_, rfl⟩
    obtain ⟨g', e, s', h'⟩ := M_bg52 (p := p) (q := q) (w := w) (v := v) (ds := ds) 24 FU 0 g1 (FU_lt (by omega)) (by omega)
    have e : f_X12_begin_52 FU (g1, RF p q w v ds) 83 1 = _ := e
    refine ⟨g', ?_, Sb.tr (by rw [hg1]; exact Sb.rf.uc (by decide)) s', fun j hj => ?_⟩
    · simp only [f_X12_begin_2]
      revert e
      generalize f_X12_begin_52 FU = lf
      intro e
      rw [if_pos (show (59 : Int32) ≤ I ((59 : Nat) : Int) by decide)]
      simp only [r_83_1, r_83_2, r_83_3, r_83_4, r_83_6, r_83_8, r_83_11, r_83_13, r_83_15, r_83_19, r_83_20, r_83_21, r_83_22, r_83_24, r_83_25, r_83_26, r_83_28, r_83_29, k_83, n_83, k_84, n_84, k_85, n_85, k_86, n_86, k_87, n_87, k_88, n_88, k_89, n_89, k_90, n_90, k_91, n_91, k_92, n_92, k_93, n_93, k_94, n_94, k_95, n_95, k_96, n_96, k_97, n_97, k_98, n_98, k_99, n_99, k_100, n_100, k_101, n_101, ci_0, ci_1, ci_2, ci_3, ci_4, ii_0, ii_1, ii_2, ii_3, ii_4, id_0, id_1, id_2, gd, if_true, reduceIte]
      rw [lt_w]
      simp only [r_83_1, r_83_2, r_83_3, r_83_4, r_83_6, r_83_8, r_83_11, r_83_13, r_83_15, r_83_19, r_83_20, r_83_21, r_83_22, r_83_24, r_83_25, r_83_26, r_83_28, r_83_29, k_83, n_83, k_84, n_84, k_85, n_85, k_86, n_86, k_87, n_87, k_88, n_88, k_89, n_89, k_90, n_90, k_91, n_91, k_92, n_92, k_93, n_93, k_94, n_94, k_95, n_95, k_96, n_96, k_97, n_97, k_98, n_98, k_99, n_99, k_100, n_100, k_101, n_101, ci_0, ci_1, ci_2, ci_3, ci_4, ii_0, ii_1, ii_2, ii_3, ii_4, id_0, id_1, id_2, if_true, reduceIte]
      rw [lt_w]
      simp only [r_83_1, r_83_2, r_83_3, r_83_4, r_83_6, r_83_8, r_83_11, r_83_13, r_83_15, r_83_19, r_83_20, r_83_21, r_83_22, r_83_24, r_83_25, r_83_26, r_83_28, r_83_29, k_83, n_83, k_84, n_84, k_85, n_85, k_86, n_86, k_87, n_87, k_88, n_88, k_89, n_89, k_90, n_90, k_91, n_91, k_92, n_92, k_93, n_93, k_94, n_94, k_95, n_95, k_96, n_96, k_97, n_97, k_98, n_98, k_99, n_99, k_100, n_100, k_101, n_101, ci_0, ci_1, ci_2, ci_3, ci_4, ii_0, ii_1, ii_2, ii_3, ii_4, id_0, id_1, id_2, if_true, reduceIte]
      rw [lt_w]
      simp only [r_83_1, r_83_2, r_83_3, r_83_4, r_83_6, r_83_8, r_83_11, r_83_13, r_83_15, r_83_19, r_83_20, r_83_21, r_83_22, r_83_24, r_83_25, r_83_26, r_83_28, r_83_29, k_83, n_83, k_84, n_84, k_85, n_85, k_86, n_86, k_87, n_87, k_88, n_88, k_89, n_89, k_90, n_90, k_91, n_91, k_92, n_92, k_93, n_93, k_94, n_94, k_95, n_95, k_96, n_96, k_97, n_97, k_98, n_98, k_99, n_99, k_100, n_100, k_101, n_101, ci_0, ci_1, ci_2, ci_3, ci_4, ii_0, ii_1, ii_2, ii_3, ii_4, id_0, id_1, id_2, if_true, reduceIte]
      rw [lt_w, uc_s, uc_uc, uc_s, uc_uc, uc_s, uc_uc, ← hg1]
      exact e
    · rw [h' j, hg1, uc_s]
      unfold M00
      by_cases d1 : 5 + 0 ≤ j ∧ j < 29
      · rw [if_pos d1, if_neg (by omega), if_neg (by omega), if_neg (by omega), if_neg (by omega), if_neg (by omega), if_pos (by omega)]
      · rw [if_neg d1]
        by_cases d2 : 29 + 0 ≤ j ∧ j < 53
        · rw [if_pos d2, if_neg (by omega), if_neg (by omega), if_neg (by omega), if_neg (by omega), if_neg (by omega), if_neg (by omega), if_pos (by omega)]
        · rw [if_neg d2]
          by_cases f0 : j = 0
          · subst f0; rfl
          · by_cases f2 : j = 2
            · subst f2; rfl
            · by_cases f3 : j = 3
              · subst f3; rfl
              · by_cases f4 : j = 4
                · subst f4; rfl
                · rw [upd_n f4, upd_n f3, upd_n f2, upd_n f0, hI j (by omega), if_neg f0]
                  by_cases f1 : j = 1
                  · rw [if_pos f1]
                  · rw [if_neg f1, if_neg f2, if_neg f3, if_neg f4, if_neg (by omega), if_neg (by omega)]
  | succ r ih =>
    intro fu i g hf hi hI
    obtain ⟨fu, rfl⟩ : ∃ k, fu = k + 1 := ⟨fu - 1, by omega⟩
    obtain ⟨g', e, s', h'⟩ := ih fu (i + 1) (uc g 85 (upd (g 85) i 0)) (by omega) (by omega) (fun j hj => by
      rw [uc_s]
      by_cases c : j = i
      · subst c; rw [upd_s]
      · rw [upd_n c]; exact hI j (by omega))
    refine ⟨g', ?_, fun b hb => by rw [s' b hb, uc_n (fun z => hb (by rw [z]; decide))], h'⟩
    rw [← e]
    simp only [f_X12_begin_2]
    generalize f_X12_begin_52 FU = lf
    rw [if_neg (fun z => by have := (I_le (a := 59) (by omega) (by omega)).mp z; omega)]
    simp only [r_83_1, r_83_2, r_83_3, r_83_4, r_83_6, r_83_8, r_83_11, r_83_13, r_83_15, r_83_19, r_83_20, r_83_21, r_83_22, r_83_24, r_83_25, r_83_26, r_83_28, r_83_29, k_83, n_83, k_84, n_84, k_85, n_85, k_86, n_86, k_87, n_87, k_88, n_88, k_89, n_89, k_90, n_90, k_91, n_91, k_92, n_92, k_93, n_93, k_94, n_94, k_95, n_95, k_96, n_96, k_97, n_97, k_98, n_98, k_99, n_99, k_100, n_100, k_101, n_101, gd, if_true, reduceIte, I_in (show i < 59 by omega) (show 59 < 1000000 by decide), I_ix (show i < 1000000 by omega), lt_w, I_s]
theorem itm_b {c : Nat → Nat} {len a e : Nat} {on : Bool} {M M' : Nat → Int32} (hP : PWo M on) (h : itm c len a on M = some (e, M')) : a < e ∧ e ≤ len ∧ PWo M' (on && decide (c a = 110)) := by
  unfold itm at h
  by_cases h0 : nbh (c a) = 0
  · rw [if_pos h0] at h; cases h
  · rw [if_neg h0] at h
    cases hq : ags c len (nbh (c a)) (a + 1) with
    | none => rw [hq] at h; cases h
    | some y =>
      obtain ⟨L, e'⟩ := y
      rw [hq] at h
      have hb := ags_b _ _ _ _ hq
      have h : (acc (c a) (L.getD 0 0) (L.getD 1 0) (L.getD 2 0) on M).map (fun M' => (e', M')) = some (e, M') := h
      cases hac : acc (c a) (L.getD 0 0) (L.getD 1 0) (L.getD 2 0) on M with
      | none => rw [hac] at h; cases h
      | some M'' =>
        rw [hac] at h
        have hz := Option.some.inj h
        have w1 := congrArg Prod.fst hz
        have w2 := congrArg Prod.snd hz
        simp only at w1 w2
        subst w1 w2
        have := hb.2.2.1 h0
        exact ⟨by omega, this, acc_pw hP (getD_le hb.1 0) hac⟩
theorem M_ra {c : Nat → Nat} {len : Nat} : ∀ (r fu a : Nat) (on : Bool) (M : Nat → Int32) (g : Nat → Nat → Int32), r < fu → len ≤ a + r → a ≤ 200 → TM g c len → g 83 10 = I a → FM g M → PWo M on →
    ∃ g', f_X12_readAll_11 fu (g, RF p q w v ds) 83 (if on then 1 else 0) = some (rsv (prs c len r a on M), (g', RF p q w v ds)) ∧ MI g g' ∧ ∀ M', prs c len r a on M = Sum.inr M' → FM g' M' := by
  intro r
  induction r with
  | zero =>
    intro fu a on M g hf hr ha2 hT ha hF hP
    obtain ⟨fu, rfl⟩ : ∃ k, fu = k + 1 := ⟨fu - 1, by omega⟩
    have hl := hT.2.1
    refine ⟨g, ?_, MT.rf.mi, fun M' hz => by have := Sum.inr.inj hz; rw [← this]; exact hF⟩
    simp only [f_X12_readAll_11, hT.1, ha]
    rw [if_pos (show I (len : Int) ≤ I (a : Int) from (I_le (by omega) (by omega)).mpr (by omega))]
    rfl
  | succ r ih =>
    intro fu a on M g hf hr ha2 hT ha hF hP
    obtain ⟨fu, rfl⟩ : ∃ k, fu = k + 1 := ⟨fu - 1, by omega⟩
    have hl := hT.2.1
    by_cases hla : len ≤ a
    · have ep : prs c len (r + 1) a on M = Sum.inr M := if_pos hla
      rw [ep]
      refine ⟨g, ?_, MT.rf.mi, fun M' hz => by have := Sum.inr.inj hz; rw [← this]; exact hF⟩
      simp only [f_X12_readAll_11, hT.1, ha]
      rw [if_pos (show I (len : Int) ≤ I (a : Int) from (I_le (by omega) (by omega)).mpr (by omega))]
      rfl
    · have hal : a < len := by omega
      obtain ⟨n, np, kind, hM, -⟩ := id hP
      have hc := hT.2.2 a hal
      obtain ⟨g1, hg1⟩ : ∃ g1, g1 = uc g 83 (upd (g 83) 10 (I ((a + 1 : Nat) : Int))) := ⟨_, rfl⟩
      have m1 : MI g g1 := by rw [hg1]; exact MT.at.mi
      obtain ⟨b, g2, r1, r2, r3, r4⟩ := M_item (p := p) (q := q) (w := w) (v := v) (ds := ds) (on := on) hM (show FM g1 M from fun j hj => by rw [hg1, uc_n (by decide)]; exact hF j hj) (hT.i m1) (show g1 83 10 = I ((a + 1 : Nat) : Int) by rw [hg1, uc_s, upd_s]) (by omega) rfl hc.2
      have e0 : f_X12_readAll_11 (fu + 1) (g, RF p q w v ds) 83 (if on then 1 else 0) = if b = 0 then some (I (a : Int), (g2, RF p q w v ds)) else f_X12_readAll_11 fu (g2, RF p q w v ds) 83 (if on && decide (c a = 110) then 1 else 0) := by
        simp only [f_X12_readAll_11, hT.1, ha]
        generalize f_X12_readAll_11 fu = lf
        rw [if_neg (show ¬ I (len : Int) ≤ I (a : Int) from fun z => by have := (I_le (by omega) (by omega)).mp z; omega)]
        simp only [r_83_1, r_83_2, r_83_3, r_83_4, r_83_6, r_83_8, r_83_11, r_83_13, r_83_15, r_83_19, r_83_20, r_83_21, r_83_22, r_83_24, r_83_25, r_83_26, r_83_28, r_83_29, k_83, n_83, k_84, n_84, k_85, n_85, k_86, n_86, k_87, n_87, k_88, n_88, k_89, n_89, k_90, n_90, k_91, n_91, k_92, n_92, k_93, n_93, k_94, n_94, k_95, n_95, k_96, n_96, k_97, n_97, k_98, n_98, k_99, n_99, k_100, n_100, k_101, n_101, gd, if_true, reduceIte, I_in (show a < 200 by omega) (show 200 < 1000000 by decide), I_ix (show a < 1000000 by omega), hc.1, I_s]
        rw [lt_w, ← hg1, r1, bd_w]
        by_cases hb : b = 0
        · rw [if_pos hb, if_pos hb]
        · rw [if_neg hb, if_neg hb]
          cases on with
          | false => rfl
          | true =>
            rw [if_neg (by decide)]
            by_cases h1 : c a = 110
            · rw [if_pos (show I (c a : Nat) = (110 : Int32) by rw [h1]; rfl), decide_eq_true h1]; rfl
            · rw [if_neg (show ¬ I (c a : Nat) = (110 : Int32) from fun z => h1 (by have := (I_inj (b := 110) (by omega) (by omega)).mp z; omega)), decide_eq_false h1]; rfl
      rw [e0]
      cases hi : itm c len a on M with
      | none =>
        have ep : prs c len (r + 1) a on M = Sum.inl a := by simp only [prs, if_neg hla, hi]
        rw [ep, r3 hi, if_pos rfl]
        exact ⟨g2, rfl, m1.tr r2, fun M' hz => by cases hz⟩
      | some y =>
        obtain ⟨e, M'⟩ := y
        have ep : prs c len (r + 1) a on M = prs c len r e (on && decide (c a = 110)) M' := by simp only [prs, if_neg hla, hi]
        obtain ⟨q1, q2, q3⟩ := r4 e M' hi
        have hib := itm_b hP hi
        rw [ep, q1, if_neg (by decide)]
        obtain ⟨g', y1, y2, y3⟩ := ih fu e (on && decide (c a = 110)) M' g2 (by omega) (by omega) (by omega) ((hT.i m1).i r2) q2 q3 hib.2.2
        exact ⟨g', y1, (m1.tr r2).tr y2, y3⟩
theorem X_ra {c : Nat → Nat} {len a0 : Nat} (hq : a0 = 5 ∨ a0 = 9) : ∀ (r fu cnt a : Nat) (on : Bool) (M : Nat → Int32) (g : Nat → Nat → Int32), r < fu → len ≤ a + r → cnt ≤ a → a ≤ 200 → TX g c len → g 2 3 = I a → g 2 4 = (if on then 1 else 0) → PRg g a0 M → PWo M on →
    ∃ g', f_X8_readInto_16 fu (g, RF p q w v ds) 2 a0 (I cnt) = some (rsv (prs c len r a on M), (g', RF p q w v ds)) ∧ Sb [2, 4, a0, a0 + 1, a0 + 2, a0 + 3] g g' ∧ (∀ j, j ≠ 3 → j ≠ 4 → g' 2 j = g 2 j) ∧ ∀ M', prs c len r a on M = Sum.inr M' → PRg g' a0 M' ∧ ∃ on', PWo M' on' := by
  have kq : kd a0 = 4 := (Pk hq).1
  intro r
  induction r with
  | zero =>
    intro fu cnt a on M g hf hr hca ha2 hT ha hon hR hP
    obtain ⟨fu, rfl⟩ : ∃ k, fu = k + 1 := ⟨fu - 1, by omega⟩
    have hl := hT.2.1
    refine ⟨g, ?_, Sb.rf, fun _ _ _ => rfl, fun M' hz => by have := Sum.inr.inj hz; rw [← this]; exact ⟨hR, on, hP⟩⟩
    simp only [f_X8_readInto_16, hT.1, ha]
    rw [if_pos (show I (len : Int) ≤ I (a : Int) from (I_le (by omega) (by omega)).mpr (by omega))]
    split <;> rfl
  | succ r ih =>
    intro fu cnt a on M g hf hr hca ha2 hT ha hon hR hP
    obtain ⟨fu, rfl⟩ : ∃ k, fu = k + 1 := ⟨fu - 1, by omega⟩
    have hl := hT.2.1
    by_cases hla : len ≤ a
    · have ep : prs c len (r + 1) a on M = Sum.inr M := if_pos hla
      rw [ep]
      refine ⟨g, ?_, Sb.rf, fun _ _ _ => rfl, fun M' hz => by have := Sum.inr.inj hz; rw [← this]; exact ⟨hR, on, hP⟩⟩
      simp only [f_X8_readInto_16, hT.1, ha]
      rw [if_pos (show I (len : Int) ≤ I (a : Int) from (I_le (by omega) (by omega)).mpr (by omega))]
      split <;> rfl
    · have hal : a < len := by omega
      obtain ⟨n, np, kind, hM, -⟩ := id hP
      have hc := hT.2.2 a hal
      obtain ⟨ch, hch⟩ : ∃ ch, ch = c a := ⟨_, rfl⟩
      rw [← hch] at hc
      have hnb : ∀ h : Hp, f_X8_numbersBehind h (I ch) = some (I (nbh ch), h) := fun h => by
        have nI : ∀ k : Nat, k < 128 → ch ≠ k → ¬ I (ch : Int) = I (k : Int) := fun k hk hne z => hne (by have := (I_inj (by omega) (by omega)).mp z; omega)
        unfold f_X8_numbersBehind nbh
        by_cases c1 : ch = 99
        · rw [c1, if_pos (by decide), if_pos rfl]; rfl
        rw [if_neg (show ¬ I (ch : Int) = (99 : Int32) from nI 99 (by decide) c1), if_neg c1]
        by_cases c2 : ch = 104
        · rw [c2, if_pos (by decide), if_pos rfl]; rfl
        rw [if_neg (show ¬ I (ch : Int) = (104 : Int32) from nI 104 (by decide) c2), if_neg c2]
        by_cases c3 : ch = 107
        · rw [c3, if_pos (by decide), if_pos rfl]; rfl
        rw [if_neg (show ¬ I (ch : Int) = (107 : Int32) from nI 107 (by decide) c3), if_neg c3]
        by_cases c4 : ch = 110
        · rw [c4, if_pos (by decide), if_pos rfl]; rfl
        rw [if_neg (show ¬ I (ch : Int) = (110 : Int32) from nI 110 (by decide) c4), if_neg c4]
        by_cases c5 : ch = 112
        · rw [c5, if_pos (by decide), if_pos rfl]; rfl
        rw [if_neg (show ¬ I (ch : Int) = (112 : Int32) from nI 112 (by decide) c5), if_neg c5]
        rfl
      obtain ⟨g1, hg1⟩ : ∃ g1, g1 = uc g 2 (upd (g 2) 3 (I ((a + 1 : Nat) : Int))) := ⟨_, rfl⟩
      have x1 : XF g g1 := by rw [hg1]; exact XF.at
      have key : ∃ b g2, f_X8_readItem (g, RF p q w v ds) 2 (I (nbh ch)) = some (b, (g2, RF p q w v ds)) ∧ XF g g2 ∧ ((nbh ch = 0 ∨ ags c len (nbh ch) (a + 1) = none) → b = 0) ∧ ∀ L e, nbh ch ≠ 0 → ags c len (nbh ch) (a + 1) = some (L, e) → b = 1 ∧ g2 2 3 = I e ∧ ∀ j, j < nbh ch → g2 4 j = I ((L.getD j 0 : Nat) : Int) := by
        have hn3 : nbh ch ≤ 3 := by unfold nbh; repeat (first | split | omega)
        have e0 : ∀ n : Int32, f_X8_readItem (g, RF p q w v ds) 2 n = f_X8_readItem_12 FU (g1, RF p q w v ds) 2 n 0 := fun n => by
          unfold f_X8_readItem
          generalize f_X8_readItem_12 FU = lf
          rw [gd_t (show kd 2 = 8 from rfl)]
          simp only [ha, I_s]
          rw [lt_w, ← hg1]
        rw [e0]
        by_cases h0 : nbh ch = 0
        · refine ⟨0, g1, ?_, x1, fun _ => rfl, fun L e hz => absurd h0 hz⟩
          obtain ⟨fu, hFU⟩ : ∃ fu, FU = fu + 1 := ⟨99999, rfl⟩
          rw [h0, hFU]
          simp only [f_X8_readItem_12]
          rw [if_pos (by decide)]
          unfold f_X8_readItem_89
          rw [if_pos (by decide)]
        · obtain ⟨b, g2, r1, r2, r3, r4, r5⟩ := X_ri (p := p) (q := q) (w := w) (v := v) (ds := ds) (c := c) (len := len) (n := nbh ch) (by omega) (nbh ch) FU 0 (a + 1) g1 (FU_lt (by omega)) (by omega) (hT.f x1) (by rw [hg1, uc_s, upd_s]) (by omega)
          refine ⟨b, g2, r1, x1.tr r2, fun z => ?_, fun L e _ hz => ?_⟩
          · rcases z with z | z
            · exact absurd z h0
            · exact r4 z
          · obtain ⟨w1, w2, w3⟩ := r5 L e hz
            refine ⟨w1, w2, fun j hj => ?_⟩
            have := w3 j hj
            rwa [Nat.zero_add] at this
      obtain ⟨b, g2, r1, x2, r3, r4⟩ := key
      have e0 : ∀ (b2 : Int32) (g3 : Nat → Nat → Int32), (b ≠ 0 → f_X8_accept (g2, RF p q w v ds) 2 (I ch) a0 = some (b2, (g3, RF p q w v ds)) ∧ g3 2 = g2 2) → f_X8_readInto_16 (fu + 1) (g, RF p q w v ds) 2 a0 (I cnt) = if b = 0 then some (I (a : Int), (g2, RF p q w v ds)) else if b2 = 0 then some (I (a : Int), (g3, RF p q w v ds)) else f_X8_readInto_16 fu (uc g3 2 (upd (g3 2) 4 (if on && decide (ch = 110) then 1 else 0)), RF p q w v ds) 2 a0 (I ((cnt + 1 : Nat) : Int)) := fun b2 g3 hac => by
        have h24 : g2 2 4 = (if on then 1 else 0) := by rw [x2.2 4 (by decide)]; exact hon
        simp only [f_X8_readInto_16, hT.1, ha]
        unfold f_X8_readInto_90 f_X8_readInto_91
        generalize f_X8_readInto_16 fu = lf
        revert r1 hac
        generalize f_X8_readItem = ri
        generalize f_X8_accept = af
        intro r1 hac
        rw [if_neg (show ¬ (200 : Int32) ≤ I (cnt : Int) from fun z => by have := (I_le (a := 200) (by omega) (by omega)).mp z; omega), if_neg (show ¬ I (len : Int) ≤ I (a : Int) from fun z => by have := (I_le (by omega) (by omega)).mp z; omega)]
        simp only [r_2_1, r_2_2, k_2, n_2, k_3, n_3, k_4, n_4, gd, if_true, reduceIte, I_in (show a < 200 by omega) (show 200 < 1000000 by decide), I_ix (show a < 1000000 by omega), hc.1, hnb, bd_w, r1]
        by_cases hb : b = 0
        · rw [if_pos hb, if_pos hb]
        · obtain ⟨ha1, ha2'⟩ := hac hb
          rw [if_neg hb, if_neg hb, ha1, bd_w]
          by_cases hb2 : b2 = 0
          · rw [if_pos hb2, if_pos hb2]
          · rw [if_neg hb2, if_neg hb2]
            simp only [ha2', h24]
            cases on with
            | false =>
              rw [if_pos (by decide), if_pos (by decide), lt_w, ha2', I_s]; rfl
            | true =>
              rw [if_neg (by decide)]
              by_cases h1 : ch = 110
              · rw [if_pos (show I (ch : Nat) = (110 : Int32) by rw [h1]; rfl), if_pos (by decide), lt_w, ha2', I_s, decide_eq_true h1]; rfl
              · rw [if_neg (show ¬ I (ch : Nat) = (110 : Int32) from fun z => h1 (by have := (I_inj (b := 110) (by omega) (by omega)).mp z; omega)), if_pos (by decide), lt_w, ha2', I_s, decide_eq_false h1]; rfl
      have s2 : Sb [2, 4, a0, a0 + 1, a0 + 2, a0 + 3] g g2 := x2.1.mono (by simp)
      have R2 : PRg g2 a0 M := by
        unfold PRg
        rw [x2.1 a0 (by simp; omega), x2.1 (a0 + 1) (by simp; omega), x2.1 (a0 + 2) (by simp; omega), x2.1 (a0 + 3) (by simp; omega)]
        exact hR
      by_cases h0 : nbh ch = 0
      · have hi : itm c len a on M = none := by unfold itm; rw [← hch, if_pos h0]
        have ep : prs c len (r + 1) a on M = Sum.inl a := by simp only [prs, if_neg hla, hi]
        have hb := r3 (Or.inl h0)
        rw [ep, e0 0 g (fun z => absurd hb z), if_pos hb]
        exact ⟨g2, rfl, s2, fun j h3 _ => x2.2 j h3, fun M' hz => by cases hz⟩
      · cases hqq : ags c len (nbh ch) (a + 1) with
        | none =>
          have hi : itm c len a on M = none := by unfold itm; rw [← hch, if_neg h0, hqq]; rfl
          have ep : prs c len (r + 1) a on M = Sum.inl a := by simp only [prs, if_neg hla, hi]
          have hb := r3 (Or.inr hqq)
          rw [ep, e0 0 g (fun z => absurd hb z), if_pos hb]
          exact ⟨g2, rfl, s2, fun j h3 _ => x2.2 j h3, fun M' hz => by cases hz⟩
        | some y =>
          obtain ⟨L, e⟩ := y
          obtain ⟨q1, q2, q3⟩ := r4 L e h0 hqq
          have hL := ags_b _ _ _ _ hqq
          obtain ⟨b2, g3, t1', t2, t3, t4⟩ := X_acc (p := p) (q := q) (w := w) (v := v) (ds := ds) (ch := ch) (l0 := L.getD 0 0) (l1 := L.getD 1 0) (l2 := L.getD 2 0) (on := on) hq hM R2 (by rw [x2.2 4 (by decide)]; exact hon) hc.2 ⟨getD_le hL.1 0, getD_le hL.1 1, getD_le hL.1 2⟩ (q3 0 (by omega)) (fun z => q3 1 (by omega)) (fun z => q3 2 (by omega))
          have g32 : g3 2 = g2 2 := t2 2 (by simp; omega)
          rw [e0 b2 g3 (fun _ => ⟨t1', g32⟩), if_neg (by rw [q1]; decide)]
          have hi : itm c len a on M = (acc ch (L.getD 0 0) (L.getD 1 0) (L.getD 2 0) on M).map (fun M' => (e, M')) := by unfold itm; rw [← hch, if_neg h0, hqq]; rfl
          have s3 : Sb [2, 4, a0, a0 + 1, a0 + 2, a0 + 3] g g3 := Sb.tr s2 (t2.mono (by simp))
          cases hac : acc ch (L.getD 0 0) (L.getD 1 0) (L.getD 2 0) on M with
          | none =>
            rw [hac] at hi
            have ep : prs c len (r + 1) a on M = Sum.inl a := by simp only [prs, if_neg hla, hi]; rfl
            rw [ep, if_pos (t3 hac)]
            exact ⟨g3, rfl, s3, fun j h3 _ => by rw [g32, x2.2 j h3], fun M' hz => by cases hz⟩
          | some M' =>
            rw [hac] at hi
            have hi : itm c len a on M = some (e, M') := hi
            have ep : prs c len (r + 1) a on M = prs c len r e (on && decide (c a = 110)) M' := by simp only [prs, if_neg hla, hi]
            obtain ⟨u1, u2⟩ := t4 M' hac
            have hib := itm_b hP hi
            rw [ep, u1, if_neg (by decide), hch]
            obtain ⟨g4, hg4⟩ : ∃ g4, g4 = uc g3 2 (upd (g3 2) 4 (if on && decide (c a = 110) then 1 else 0)) := ⟨_, rfl⟩
            rw [← hg4]
            have o4 : ∀ x, x ≠ 2 → g4 x = g3 x := fun x hx => by rw [hg4, uc_n hx]
            have T4 : TX g4 c len := ⟨by rw [hg4, uc_s, upd_n (by decide), g32, x2.2 0 (by decide)]; exact hT.1, hl, by rw [o4 3 (by decide), s3 3 (by simp; omega)]; exact hT.2.2⟩
            obtain ⟨g', y1, y2, y3, y4⟩ := ih fu (cnt + 1) e (on && decide (c a = 110)) M' g4 (by omega) (by omega) (by omega) (by omega) T4 (by rw [hg4, uc_s, upd_n (by decide), g32]; exact q2) (by rw [hg4, uc_s, upd_s]) (by
              unfold PRg
              rw [o4 a0 (by omega), o4 (a0 + 1) (by omega), o4 (a0 + 2) (by omega), o4 (a0 + 3) (by omega)]
              exact u2) hib.2.2
            refine ⟨g', y1, Sb.tr (Sb.tr s3 (by rw [hg4]; exact Sb.rf.uc (by simp))) y2, fun j h3 h4 => ?_, y4⟩
            rw [y3 j h3 h4, hg4, uc_s, upd_n h4, g32, x2.2 j h3]
end T
