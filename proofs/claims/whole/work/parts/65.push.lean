/-- the days behind one more -/
def Wn (m : Nat) (W : Nat → Nat → Int32) (T : Nat → Int32) (k : Nat) : Nat → Int32 := if m < 8 then (if k = m then T else W k) else (if k = 7 then T else W (k + 1))
def mn (m : Nat) : Nat := if m < 8 then m + 1 else 8
def DAYS : List Nat := [16, 18, 19, 20, 21, 22, 23, 24, 25, 26, 27, 28, 29, 30, 31, 32, 33, 34, 35, 36, 37, 38, 39, 40, 41]
theorem DAYS_in {a : Nat} (h : (18 ≤ a ∧ a ≤ 41)) : a ∈ DAYS := by
  unfold DAYS
  simp only [List.mem_cons, List.not_mem_nil, or_false]
  omega
section T
variable {p q w v : Nat} {ds : Nat → Nat}
theorem X_psh {g : Nat → Nat → Int32} {m : Nat} {W : Nat → Nat → Int32} {T : Nat → Int32} (hds : DSP ds) (hm : m < 8) (h0 : g 16 0 = I m) (hW : ∀ k, k < m → DR (g (ds k)) (g (ds k + 1)) (g (ds k + 2)) (W k)) (hD : DR (g 13) (g 14) (g 15) T) (hT : T 1 = 0 ∨ T 1 = 1) :
    ∃ g', f_X3_push_16 (g, RF p q w v ds) 16 13 = some ((), (g', RF p q w v ds)) ∧ Sb DAYS g g' ∧ g' 16 0 = I ((m + 1 : Nat) : Int) ∧ ∀ k, k < m + 1 → DR (g' (ds k)) (g' (ds k + 1)) (g' (ds k + 2)) (if k = m then T else W k) := by
  obtain ⟨t, ht, et⟩ := hds.1 m hm
  have ha : DA (ds m) := Or.inr (Or.inl ⟨t, ht, et⟩)
  obtain ⟨g1, c1, c2, c3, c4, c5, c6⟩ := X_copy (p := p) (q := q) (w := w) (v := v) (ds := ds) (g := g) (a := ds m) (b := 13) ha (Or.inl rfl) (by omega) (by rw [hD.1.2.2]; exact hT)
  have g16 : g1 16 = g 16 := c2 16 (by simp; omega)
  obtain ⟨g2, hg2⟩ : ∃ g2, g2 = uc g1 16 (upd (g 16) 0 (I ((m + 1 : Nat) : Int))) := ⟨_, rfl⟩
  refine ⟨g2, ?_, ?_, by rw [hg2, uc_s, upd_s], fun k hk => ?_⟩
  · have ka := (DA_k ha p q w v ds).1
    unfold f_X3_push_16
    revert c1
    generalize f_X2_copy = cf
    intro c1
    simp only [r_16_1, r_17, k_17, n_17, gd, if_true, reduceIte, h0, I_in (show m < 8 by omega) (show 8 < 1000000 by decide), I_ix (show m < 1000000 by omega), ka, c1, bd_w]
    rw [lt_w, g16, h0, I_s, hg2]
  · rw [hg2]
    refine Sb.uc (fun a ha' => c2 a (fun z => ha' ?_)) (by decide)
    simp only [List.mem_cons, List.not_mem_nil, or_false] at z
    exact DAYS_in (by omega)
  · obtain ⟨t2, ht2, et2⟩ := hds.1 k (by omega)
    have n1 : ds k ≠ 16 := by omega
    rw [hg2, uc_n n1, uc_n (by omega), uc_n (by omega)]
    by_cases e : k = m
    · subst e
      rw [if_pos rfl]
      exact hD.cg c3 c4 c5 (fun _ _ => rfl)
    · rw [if_neg e]
      have hne : ds k ≠ ds m := fun z => e (hds.2 k m (by omega) hm z)
      rw [c2 (ds k) (by simp; omega), c2 (ds k + 1) (by simp; omega), c2 (ds k + 2) (by simp; omega)]
      exact hW k (by omega)
theorem X_push {g : Nat → Nat → Int32} {m : Nat} {W : Nat → Nat → Int32} {T : Nat → Int32} (hds : DSP ds) (hm : m ≤ 8) (h0 : g 16 0 = I m) (hW : ∀ k, k < m → DR (g (ds k)) (g (ds k + 1)) (g (ds k + 2)) (W k)) (hD : DR (g 13) (g 14) (g 15) T) (hT : T 1 = 0 ∨ T 1 = 1) :
    ∃ g' ds', f_X3_push (g, RF p q w v ds) 16 13 = some ((), (g', RF p q w v ds')) ∧ DSP ds' ∧ Sb DAYS g g' ∧ g' 16 0 = I (mn m : Nat) ∧ ∀ k, k < mn m → DR (g' (ds' k)) (g' (ds' k + 1)) (g' (ds' k + 2)) (Wn m W T k) := by
  unfold mn Wn
  by_cases c : m < 8
  · obtain ⟨g1, a1, a2, a3, a4⟩ := X_psh (p := p) (q := q) (w := w) (v := v) hds c h0 hW hD hT
    refine ⟨g1, ds, ?_, hds, a2, by rw [if_pos c]; exact a3, fun k hk => ?_⟩
    · have lm : I (m : Int) < nI 8 := by rw [I_nI, I_ltn (by omega) (by omega)]; exact c
      unfold f_X3_push
      revert a1
      generalize f_X3_push_16 = pf
      generalize f_X3_dropOldest = df
      intro a1
      simp only [r_16_1, k_16, k_13, k_17, n_17, gd, if_true, reduceIte, h0, if_pos lm, a1]
    · rw [if_pos c] at hk
      rw [if_pos c]
      exact a4 k hk
  · have hm8 : m = 8 := by omega
    subst hm8
    have hd : ∀ k, k < 8 → kd (ds k) = 2 := fun k hk => by
      obtain ⟨t, ht, et⟩ := hds.1 k hk
      exact (DA_k (Or.inr (Or.inl ⟨t, ht, et⟩)) p q w v ds).1
    have dr := X_drop_lp (p := p) (q := q) (w := w) (v := v) hd 7 FU 1 g ds (FU_lt (by omega)) (by omega) (by omega) (fun j => by rw [if_neg (by omega)])
    have dr : f_X3_dropOldest_9 FU (g, RF p q w v ds) 16 (ds 0) 1 = _ := dr
    obtain ⟨g0, hg0⟩ : ∃ g0, g0 = uc g 16 (upd (g 16) 0 (I ((7 : Nat) : Int))) := ⟨_, rfl⟩
    rw [← hg0] at dr
    have s0 : Sb [16] g g0 := by rw [hg0]; exact Sb.rf.uc (by decide)
    have hrot : ∀ k, k < 7 → rot ds k = ds (k + 1) := fun k hk => by unfold rot; rw [if_pos hk]
    obtain ⟨g1, a1, a2, a3, a4⟩ := X_psh (p := p) (q := q) (w := w) (v := v) (g := g0) (m := 7) (W := fun k => W (k + 1)) (rot_dsp hds) (by decide) (by rw [hg0, uc_s, upd_s]) (fun k hk => by
      obtain ⟨t, ht, et⟩ := hds.1 (k + 1) (by omega)
      rw [hrot k hk, s0 _ (by simp; omega), s0 _ (by simp; omega), s0 _ (by simp; omega)]
      exact hW (k + 1) (by omega)) (by rw [s0 13 (by decide), s0 14 (by decide), s0 15 (by decide)]; exact hD) hT
    refine ⟨g1, rot ds, ?_, rot_dsp hds, Sb.tr (s0.mono (by decide)) a2, by rw [if_neg c]; exact a3, fun k hk => ?_⟩
    · have d1 : f_X3_dropOldest (g, RF p q w v ds) 16 = some ((), (g0, RF p q w v (rot ds))) := by
        unfold f_X3_dropOldest
        revert dr
        generalize f_X3_dropOldest_9 FU = lf
        intro dr
        simp only [r_16_1, r_17, k_16, k_17, n_17, gd, if_true, reduceIte, if_pos (show inr (0 : Int32) 8 = true by decide), ci_0, hd 0 (by decide), dr]
      unfold f_X3_push
      revert a1 d1
      generalize f_X3_push_16 = pf
      generalize f_X3_dropOldest = df
      intro d1 a1
      simp only [r_16_1, k_16, k_13, k_17, n_17, gd, if_true, reduceIte, h0, if_neg (show ¬ I ((8 : Nat) : Int) < nI 8 by decide), d1, bd_w, a1]
    · rw [if_neg c] at hk
      rw [if_neg c]
      exact a4 k (by omega)
theorem M_kd51 {u : Nat} (hu : u ≤ 7) : ∀ (r fu k : Nat) (G : Nat → Nat → Int32), r < fu → k + r = 51 → G 83 5 = I u →
    ∃ f, f_X12_keepDay_51 fu (G, RF p q w v ds) 83 (I k) = some ((), (uc (uc G 87 f) 83 (upd (G 83) 5 (I ((u + 1 : Nat) : Int))), RF p q w v ds)) ∧ (∀ j, k ≤ j → j < 51 → f (51 * u + j) = G 86 j) ∧ ∀ j, (j < 51 * u + k ∨ 51 * u + 51 ≤ j) → f j = G 87 j := by
  intro r
  induction r with
  | zero =>
    intro fu k G hf hk h5
    obtain ⟨fu, rfl⟩ : ∃ k, fu = k + 1 := ⟨fu - 1, by omega⟩
    have c1 : (51 : Int32) ≤ I (k : Int) := (I_le (a := 51) (by omega) (by omega)).mpr (by omega)
    refine ⟨G 87, ?_, fun j h1 h2 => by omega, fun j _ => rfl⟩
    rw [uc_id]
    simp only [f_X12_keepDay_51, if_pos c1, h5, I_s]
    rw [lt_w]
  | succ r ih =>
    intro fu k G hf hk h5
    obtain ⟨fu, rfl⟩ : ∃ k, fu = k + 1 := ⟨fu - 1, by omega⟩
    have c1 : ¬ (51 : Int32) ≤ I (k : Int) := fun z => by have := (I_le (a := 51) (by omega) (by omega)).mp z; omega
    have e1 : (51 : Int32) * I (u : Int) + I (k : Int) = I ((51 * u + k : Nat) : Int) := by show I 51 * _ + _ = _; rw [I_mul, I_add]; rfl
    obtain ⟨f, a1, a2, a3⟩ := ih fu (k + 1) (uc G 87 (upd (G 87) (51 * u + k) (G 86 k))) (by omega) (by omega) (by rw [uc_n (by decide)]; exact h5)
    rw [uc_uc, uc_n (show 83 ≠ 87 by decide)] at a1
    refine ⟨f, ?_, fun j h1 h2 => ?_, fun j hj => ?_⟩
    · rw [← a1]
      simp only [f_X12_keepDay_51, if_neg c1, r_83_1, r_83_2, r_83_3, r_83_4, r_83_6, r_83_8, r_83_11, r_83_13, r_83_15, r_83_19, r_83_20, r_83_21, r_83_22, r_83_24, r_83_25, r_83_26, r_83_28, r_83_29, k_83, n_83, k_84, n_84, k_85, n_85, k_86, n_86, k_87, n_87, k_88, n_88, k_89, n_89, k_90, n_90, k_91, n_91, k_92, n_92, k_93, n_93, k_94, n_94, k_95, n_95, k_96, n_96, k_97, n_97, k_98, n_98, k_99, n_99, k_100, n_100, k_101, n_101, gd, if_true, reduceIte, h5, e1, I_in (show k < 51 by omega) (show 51 < 1000000 by decide), I_ix (show k < 1000000 by omega), I_in (show 51 * u + k < 408 by omega) (show 408 < 1000000 by decide), I_ix (show 51 * u + k < 1000000 by omega), I_s]
      rw [lt_w]
    · by_cases e : j = k
      · subst e
        rw [a3 _ (by omega), uc_s, upd_s]
      · rw [a2 j (by omega) h2, uc_n (by decide)]
    · rw [a3 j (by omega), uc_s, upd_n (by omega)]
theorem M_kd11 : ∀ (r fu k : Nat) (G : Nat → Nat → Int32), r < fu → k + r = 357 →
    ∃ f, f_X12_keepDay_11 fu (G, RF p q w v ds) 83 (I k) = f_X12_keepDay_51 FU (uc (uc G 87 f) 83 (upd (G 83) 5 (G 83 5 - 1)), RF p q w v ds) 83 0 ∧ (∀ j, k ≤ j → j < 357 → f j = G 87 (j + 51)) ∧ ∀ j, j < k → f j = G 87 j := by
  intro r
  induction r with
  | zero =>
    intro fu k G hf hk
    obtain ⟨fu, rfl⟩ : ∃ k, fu = k + 1 := ⟨fu - 1, by omega⟩
    have c1 : (357 : Int32) ≤ I (k : Int) := (I_le (a := 357) (by omega) (by omega)).mpr (by omega)
    refine ⟨G 87, ?_, fun j h1 h2 => by omega, fun j _ => rfl⟩
    have e0 : f_X12_keepDay_11 (fu + 1) (G, RF p q w v ds) 83 (I k) = lt ((si (G, RF p q w v ds) 83 5 ((G 83 5) - (1 : Int32)))) fun h1 => f_X12_keepDay_51 FU h1 83 (0 : Int32) := by
      rw [f_X12_keepDay_11]
      exact if_pos c1
    rw [uc_id, e0]
    generalize f_X12_keepDay_51 FU = lf
    rw [lt_w]
  | succ r ih =>
    intro fu k G hf hk
    obtain ⟨fu, rfl⟩ : ∃ k, fu = k + 1 := ⟨fu - 1, by omega⟩
    have c1 : ¬ (357 : Int32) ≤ I (k : Int) := fun z => by have := (I_le (a := 357) (by omega) (by omega)).mp z; omega
    have e1 : I (k : Int) + (51 : Int32) = I ((k + 51 : Nat) : Int) := by show _ + I ((51 : Nat) : Int) = _; rw [I_k]
    obtain ⟨f, a1, a2, a3⟩ := ih fu (k + 1) (uc G 87 (upd (G 87) k (G 87 (k + 51)))) (by omega) (by omega)
    rw [uc_uc, uc_n (show 83 ≠ 87 by decide)] at a1
    refine ⟨f, ?_, fun j h1 h2 => ?_, fun j hj => ?_⟩
    · rw [← a1]
      clear a1
      simp only [f_X12_keepDay_11, if_neg c1, r_83_1, r_83_2, r_83_3, r_83_4, r_83_6, r_83_8, r_83_11, r_83_13, r_83_15, r_83_19, r_83_20, r_83_21, r_83_22, r_83_24, r_83_25, r_83_26, r_83_28, r_83_29, k_83, n_83, k_84, n_84, k_85, n_85, k_86, n_86, k_87, n_87, k_88, n_88, k_89, n_89, k_90, n_90, k_91, n_91, k_92, n_92, k_93, n_93, k_94, n_94, k_95, n_95, k_96, n_96, k_97, n_97, k_98, n_98, k_99, n_99, k_100, n_100, k_101, n_101, gd, if_true, reduceIte, e1, I_in (show k < 408 by omega) (show 408 < 1000000 by decide), I_ix (show k < 1000000 by omega), I_in (show k + 51 < 408 by omega) (show 408 < 1000000 by decide), I_ix (show k + 51 < 1000000 by omega), I_s]
      rw [lt_w]
    · by_cases e : j = k
      · subst e
        rw [a3 _ (by omega), uc_s, upd_s]
      · rw [a2 j (by omega) h2, uc_s, upd_n (by omega)]
    · rw [a3 j (by omega), uc_s, upd_n (by omega)]
theorem M_keepDay {m : Nat} {G : Nat → Nat → Int32} (hm : m ≤ 8) (h5 : G 83 5 = I m) :
    ∃ G', f_X12_keepDay (G, RF p q w v ds) 83 = some ((), (G', RF p q w v ds)) ∧ Sb [83, 87] G G' ∧ G' 83 5 = I (mn m : Nat) ∧ (∀ j, j ≠ 5 → G' 83 j = G 83 j) ∧ ∀ k, k < mn m → ∀ j, j < 51 → G' 87 (51 * k + j) = Wn m (fun k j => G 87 (51 * k + j)) (G 86) k j := by
  unfold mn Wn
  by_cases c : m < 8
  · obtain ⟨f, a1, a2, a3⟩ := M_kd51 (p := p) (q := q) (w := w) (v := v) (ds := ds) (show m ≤ 7 by omega) 51 FU 0 G (FU_lt (by omega)) (by omega) h5
    have a1 : f_X12_keepDay_51 FU (G, RF p q w v ds) 83 0 = _ := a1
    refine ⟨uc (uc G 87 f) 83 (upd (G 83) 5 (I ((m + 1 : Nat) : Int))), ?_, (Sb.rf.uc (by decide)).uc (by decide), by rw [uc_s, upd_s, if_pos c], fun j hj => by rw [uc_s, upd_n hj], fun k hk j hj => ?_⟩
    · have lm : ¬ I (m : Int) = (8 : Int32) := fun z => by have := (I_inj (b := 8) (by omega) (by omega)).mp z; omega
      unfold f_X12_keepDay
      revert a1
      generalize f_X12_keepDay_51 FU = lf
      generalize f_X12_keepDay_11 FU = lf2
      intro a1
      simp only [r_83_1, r_83_2, r_83_3, r_83_4, r_83_6, r_83_8, r_83_11, r_83_13, r_83_15, r_83_19, r_83_20, r_83_21, r_83_22, r_83_24, r_83_25, r_83_26, r_83_28, r_83_29, k_83, n_83, k_84, n_84, k_85, n_85, k_86, n_86, k_87, n_87, k_88, n_88, k_89, n_89, k_90, n_90, k_91, n_91, k_92, n_92, k_93, n_93, k_94, n_94, k_95, n_95, k_96, n_96, k_97, n_97, k_98, n_98, k_99, n_99, k_100, n_100, k_101, n_101, gd, if_true, reduceIte, h5, if_neg lm, a1]
    · rw [if_pos c] at hk
      rw [if_pos c, uc_n (by decide), uc_s]
      by_cases e : k = m
      · subst e; rw [if_pos rfl]; exact a2 j (by omega) hj
      · rw [if_neg e]; exact a3 _ (by omega)
  · have hm8 : m = 8 := by omega
    subst hm8
    obtain ⟨f0, b1', b2, b3⟩ := M_kd11 (p := p) (q := q) (w := w) (v := v) (ds := ds) 357 FU 0 G (FU_lt (by omega)) (by omega)
    obtain ⟨G0, hG0⟩ : ∃ G0, G0 = uc (uc G 87 f0) 83 (upd (G 83) 5 (I ((7 : Nat) : Int))) := ⟨_, rfl⟩
    have e7 : G 83 5 - 1 = I ((7 : Nat) : Int) := by rw [h5]; rfl
    rw [e7, ← hG0] at b1'
    have b1' : f_X12_keepDay_11 FU (G, RF p q w v ds) 83 0 = f_X12_keepDay_51 FU (G0, RF p q w v ds) 83 0 := b1'
    obtain ⟨f, a1, a2, a3⟩ := M_kd51 (p := p) (q := q) (w := w) (v := v) (ds := ds) (show 7 ≤ 7 by omega) 51 FU 0 G0 (FU_lt (by omega)) (by omega) (by rw [hG0, uc_s, upd_s])
    have a1 : f_X12_keepDay_51 FU (G0, RF p q w v ds) 83 0 = _ := a1
    rw [a1] at b1'
    have s0 : Sb [83, 87] G G0 := by rw [hG0]; exact (Sb.rf.uc (by decide)).uc (by decide)
    have g83 : G0 83 = upd (G 83) 5 (I ((7 : Nat) : Int)) := by rw [hG0, uc_s]
    have g87 : G0 87 = f0 := by rw [hG0, uc_n (by decide), uc_s]
    refine ⟨uc (uc G0 87 f) 83 (upd (G0 83) 5 (I ((7 + 1 : Nat) : Int))), ?_, (s0.uc (by decide)).uc (by decide), by rw [uc_s, upd_s, if_neg c], fun j hj => by rw [uc_s, upd_n hj, g83, upd_n hj], fun k hk j hj => ?_⟩
    · unfold f_X12_keepDay
      revert b1'
      generalize f_X12_keepDay_51 FU = lf
      generalize f_X12_keepDay_11 FU = lf2
      intro b1'
      simp only [r_83_1, r_83_2, r_83_3, r_83_4, r_83_6, r_83_8, r_83_11, r_83_13, r_83_15, r_83_19, r_83_20, r_83_21, r_83_22, r_83_24, r_83_25, r_83_26, r_83_28, r_83_29, k_83, n_83, k_84, n_84, k_85, n_85, k_86, n_86, k_87, n_87, k_88, n_88, k_89, n_89, k_90, n_90, k_91, n_91, k_92, n_92, k_93, n_93, k_94, n_94, k_95, n_95, k_96, n_96, k_97, n_97, k_98, n_98, k_99, n_99, k_100, n_100, k_101, n_101, gd, if_true, reduceIte, h5, if_pos (show I ((8 : Nat) : Int) = (8 : Int32) by decide), b1']
    · rw [if_neg c] at hk
      rw [if_neg c, uc_n (by decide), uc_s]
      by_cases e : k = 7
      · subst e
        rw [if_pos rfl]
        have := a2 j (by omega) hj
        rw [s0 86 (by decide)] at this
        exact this
      · rw [if_neg e, a3 _ (by omega), g87, b2 _ (by omega) (by omega), show 51 * k + j + 51 = 51 * (k + 1) + j by omega]
end T
