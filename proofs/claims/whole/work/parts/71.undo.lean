/-! undo, keep, back -/
section T
variable {p q w v : Nat} {ds : Nat → Nat}
theorem M_und_lp {u : Nat} (hu : u ≤ 7) : ∀ (r fu k : Nat) (G : Nat → Nat → Int32), r < fu → k + r = 51 → G 83 5 = I u → (∀ j, j < k → G 86 j = G 87 (51 * u + j)) →
    ∃ G', f_X12_undo_27 fu (G, RF p q w v ds) 83 (I k) = some (I u, (G', RF p q w v ds)) ∧ Sb [86] G G' ∧ ∀ j, j < 51 → G' 86 j = G 87 (51 * u + j) := by
  intro r
  induction r with
  | zero =>
    intro fu k G hf hk h5 h
    obtain ⟨fu, rfl⟩ : ∃ k, fu = k + 1 := ⟨fu - 1, by omega⟩
    have c1 : (51 : Int32) ≤ I (k : Int) := (I_le (a := 51) (by omega) (by omega)).mpr (by omega)
    refine ⟨G, ?_, Sb.rf, fun j hj => h j (by omega)⟩
    simp only [f_X12_undo_27, if_pos c1, h5]
  | succ r ih =>
    intro fu k G hf hk h5 h
    obtain ⟨fu, rfl⟩ : ∃ k, fu = k + 1 := ⟨fu - 1, by omega⟩
    have c1 : ¬ (51 : Int32) ≤ I (k : Int) := fun z => by have := (I_le (a := 51) (by omega) (by omega)).mp z; omega
    have e1 : (51 : Int32) * I (u : Int) + I (k : Int) = I ((51 * u + k : Nat) : Int) := by show I 51 * _ + _ = _; rw [I_mul, I_add]; rfl
    obtain ⟨G', a1, a2, a3⟩ := ih fu (k + 1) (uc G 86 (upd (G 86) k (G 87 (51 * u + k)))) (by omega) (by omega) (by rw [uc_n (by decide)]; exact h5) (fun j hj => by
      rw [uc_s, uc_n (show 87 ≠ 86 by decide)]
      by_cases e : j = k
      · subst e; rw [upd_s]
      · rw [upd_n e]; exact h j (by omega))
    refine ⟨G', ?_, Sb.tr (Sb.rf.uc (by decide)) a2, fun j hj => by rw [a3 j hj, uc_n (by decide)]⟩
    rw [← a1]
    simp only [f_X12_undo_27, if_neg c1, r_83_1, r_83_2, r_83_3, r_83_4, r_83_6, r_83_8, r_83_11, r_83_13, r_83_15, r_83_19, r_83_20, r_83_21, r_83_22, r_83_24, r_83_25, r_83_26, r_83_28, r_83_29, k_83, n_83, k_84, n_84, k_85, n_85, k_86, n_86, k_87, n_87, k_88, n_88, k_89, n_89, k_90, n_90, k_91, n_91, k_92, n_92, k_93, n_93, k_94, n_94, k_95, n_95, k_96, n_96, k_97, n_97, k_98, n_98, k_99, n_99, k_100, n_100, k_101, n_101, gd, if_true, reduceIte, h5, e1, I_in (show k < 51 by omega) (show 51 < 1000000 by decide), I_ix (show k < 1000000 by omega), I_in (show 51 * u + k < 408 by omega) (show 408 < 1000000 by decide), I_ix (show 51 * u + k < 1000000 by omega), I_s]
    rw [lt_w]
theorem M_bck_lp {u : Nat} (hu : u ≤ 1) : ∀ (r fu k : Nat) (G : Nat → Nat → Int32), r < fu → k + r = 51 → G 83 7 = I u → (∀ j, j < k → G 86 j = G 88 (51 * u + j)) →
    ∃ G', f_X12_back_27 fu (G, RF p q w v ds) 83 (I k) = some (I u, (G', RF p q w v ds)) ∧ Sb [83, 86] G G' ∧ (∀ j, j ≠ 5 → G' 83 j = G 83 j) ∧ G' 83 5 = I ((0 : Nat) : Int) ∧ ∀ j, j < 51 → G' 86 j = G 88 (51 * u + j) := by
  intro r
  induction r with
  | zero =>
    intro fu k G hf hk h5 h
    obtain ⟨fu, rfl⟩ : ∃ k, fu = k + 1 := ⟨fu - 1, by omega⟩
    have c1 : (51 : Int32) ≤ I (k : Int) := (I_le (a := 51) (by omega) (by omega)).mpr (by omega)
    refine ⟨uc G 83 (upd (G 83) 5 0), ?_, Sb.rf.uc (by decide), fun j hj => by rw [uc_s, upd_n hj], by rw [uc_s, upd_s]; rfl, fun j hj => by rw [uc_n (by decide)]; exact h j (by omega)⟩
    simp only [f_X12_back_27, if_pos c1]
    rw [lt_w]
    simp only [uc_s, upd_n (show 7 ≠ 5 by decide), h5]
  | succ r ih =>
    intro fu k G hf hk h5 h
    obtain ⟨fu, rfl⟩ : ∃ k, fu = k + 1 := ⟨fu - 1, by omega⟩
    have c1 : ¬ (51 : Int32) ≤ I (k : Int) := fun z => by have := (I_le (a := 51) (by omega) (by omega)).mp z; omega
    have e1 : (51 : Int32) * I (u : Int) + I (k : Int) = I ((51 * u + k : Nat) : Int) := by show I 51 * _ + _ = _; rw [I_mul, I_add]; rfl
    obtain ⟨G', a1, a2, a3, a4, a5⟩ := ih fu (k + 1) (uc G 86 (upd (G 86) k (G 88 (51 * u + k)))) (by omega) (by omega) (by rw [uc_n (by decide)]; exact h5) (fun j hj => by
      rw [uc_s, uc_n (show 88 ≠ 86 by decide)]
      by_cases e : j = k
      · subst e; rw [upd_s]
      · rw [upd_n e]; exact h j (by omega))
    refine ⟨G', ?_, Sb.tr (Sb.rf.uc (by decide)) a2, fun j hj => by rw [a3 j hj, uc_n (by decide)], a4, fun j hj => by rw [a5 j hj, uc_n (by decide)]⟩
    rw [← a1]
    simp only [f_X12_back_27, if_neg c1, r_83_1, r_83_2, r_83_3, r_83_4, r_83_6, r_83_8, r_83_11, r_83_13, r_83_15, r_83_19, r_83_20, r_83_21, r_83_22, r_83_24, r_83_25, r_83_26, r_83_28, r_83_29, k_83, n_83, k_84, n_84, k_85, n_85, k_86, n_86, k_87, n_87, k_88, n_88, k_89, n_89, k_90, n_90, k_91, n_91, k_92, n_92, k_93, n_93, k_94, n_94, k_95, n_95, k_96, n_96, k_97, n_97, k_98, n_98, k_99, n_99, k_100, n_100, k_101, n_101, gd, if_true, reduceIte, h5, e1, I_in (show k < 51 by omega) (show 51 < 1000000 by decide), I_ix (show k < 1000000 by omega), I_in (show 51 * u + k < 102 by omega) (show 102 < 1000000 by decide), I_ix (show 51 * u + k < 1000000 by omega), I_s]
    rw [lt_w]
theorem M_kep_lp {u : Nat} (hu : u ≤ 1) : ∀ (r fu k : Nat) (G : Nat → Nat → Int32), r < fu → k + r = 51 → G 83 7 = I u →
    ∃ f, f_X12_keep_18 fu (G, RF p q w v ds) 83 (I k) = some (I ((u + 1 : Nat) : Int), (uc (uc G 88 f) 83 (upd (G 83) 7 (I ((u + 1 : Nat) : Int))), RF p q w v ds)) ∧ (∀ j, k ≤ j → j < 51 → f (51 * u + j) = G 86 j) ∧ ∀ j, j < 51 * u + k → f j = G 88 j := by
  intro r
  induction r with
  | zero =>
    intro fu k G hf hk h5
    obtain ⟨fu, rfl⟩ : ∃ k, fu = k + 1 := ⟨fu - 1, by omega⟩
    have c1 : (51 : Int32) ≤ I (k : Int) := (I_le (a := 51) (by omega) (by omega)).mpr (by omega)
    refine ⟨G 88, ?_, fun j h1 h2 => by omega, fun j _ => rfl⟩
    rw [uc_id]
    simp only [f_X12_keep_18, if_pos c1, h5, I_s]
    rw [lt_w]
    simp only [uc_s, upd_s]
  | succ r ih =>
    intro fu k G hf hk h5
    obtain ⟨fu, rfl⟩ : ∃ k, fu = k + 1 := ⟨fu - 1, by omega⟩
    have c1 : ¬ (51 : Int32) ≤ I (k : Int) := fun z => by have := (I_le (a := 51) (by omega) (by omega)).mp z; omega
    have e1 : (51 : Int32) * I (u : Int) + I (k : Int) = I ((51 * u + k : Nat) : Int) := by show I 51 * _ + _ = _; rw [I_mul, I_add]; rfl
    obtain ⟨f, a1, a2, a3⟩ := ih fu (k + 1) (uc G 88 (upd (G 88) (51 * u + k) (G 86 k))) (by omega) (by omega) (by rw [uc_n (by decide)]; exact h5)
    rw [uc_uc, uc_n (show 83 ≠ 88 by decide)] at a1
    refine ⟨f, ?_, fun j h1 h2 => ?_, fun j hj => ?_⟩
    · rw [← a1]
      simp only [f_X12_keep_18, if_neg c1, r_83_1, r_83_2, r_83_3, r_83_4, r_83_6, r_83_8, r_83_11, r_83_13, r_83_15, r_83_19, r_83_20, r_83_21, r_83_22, r_83_24, r_83_25, r_83_26, r_83_28, r_83_29, k_83, n_83, k_84, n_84, k_85, n_85, k_86, n_86, k_87, n_87, k_88, n_88, k_89, n_89, k_90, n_90, k_91, n_91, k_92, n_92, k_93, n_93, k_94, n_94, k_95, n_95, k_96, n_96, k_97, n_97, k_98, n_98, k_99, n_99, k_100, n_100, k_101, n_101, gd, if_true, reduceIte, h5, e1, I_in (show k < 51 by omega) (show 51 < 1000000 by decide), I_ix (show k < 1000000 by omega), I_in (show 51 * u + k < 102 by omega) (show 102 < 1000000 by decide), I_ix (show 51 * u + k < 1000000 by omega), I_s]
      rw [lt_w]
    · by_cases e : j = k
      · subst e
        rw [a3 _ (by omega), uc_s, upd_s]
      · rw [a2 j (by omega) h2, uc_n (by decide)]
    · rw [a3 j (by omega), uc_s, upd_n (by omega)]
end T
theorem S_undo : Sp0 Inv f_X11_undo f_X12_undo := by
  rintro h ⟨g, p, q, w, v, ds, n, np, kind, rfl, hV⟩
  obtain ⟨m, m1, m2, m3, m4⟩ := hV.2.2.2.2.2.2.1
  have hds := hV.2.2.2.2.2.1
  by_cases hm : m = 0
  · subst hm
    refine ⟨-2, (g, RF p q w v ds), (th g, RF p q w v ds), ?_, ?_, hV.ask (th_mk g)⟩
    · unfold f_X11_undo f_X3_pop
      simp only [r_1_0, r_1_1, r_1_2, r_1_3, r_1_4, r_1_5, r_1_6, r_1_7, r_1_8, r_1_9, r_1_10, r_1_11, k_1, n_1, k_13, k_16, gd, if_true, reduceIte, m2, if_neg (show ¬ 0 < I ((0 : Nat) : Int) by decide), bd_w]
    · unfold f_X12_undo
      generalize f_X12_undo_27 FU = lf
      rw [gd_t (show kd 83 = 12 from rfl), th_lt, if_pos (show th g 83 5 = 0 by rw [th_83 (by decide)]; exact m3)]
  · have hm1 : m - 1 < 8 := by omega
    obtain ⟨t, ht, et⟩ := hds.1 (m - 1) hm1
    have hda : DA (ds (m - 1)) := Or.inr (Or.inl ⟨t, ht, et⟩)
    obtain ⟨r1, r2⟩ := m4 (m - 1) (by omega)
    obtain ⟨g1, hg1⟩ : ∃ g1, g1 = uc g 16 (upd (g 16) 0 (I ((m - 1 : Nat) : Int))) := ⟨_, rfl⟩
    have s1 : Sb [16] g g1 := by rw [hg1]; exact Sb.rf.uc (by decide)
    have e1 : g1 (ds (m - 1)) = g (ds (m - 1)) := s1 _ (by simp; omega)
    obtain ⟨g2, c1, c2, c3, c4, c5, c6⟩ := X_copy (p := p) (q := q) (w := w) (v := v) (ds := ds) (g := g1) (a := 13) (b := ds (m - 1)) (Or.inl rfl) hda (by omega) (by rw [e1, r1.1.2.2]; exact r2.2.2.1)
    have sX : Sb [13, 14, 15, 16] g g2 := Sb.tr (s1.mono (by decide)) (c2.mono (by decide))
    have X1 : f_X11_undo (g, RF p q w v ds) 1 = some (I ((m - 1 : Nat) : Int), (g2, RF p q w v ds)) := by
      have lm : (0 : Int32) < I (m : Int) := (I_lt (a := 0) (by omega) (by omega)).mpr (by omega)
      have g16 : g1 16 0 = I ((m - 1 : Nat) : Int) := by rw [hg1, uc_s, upd_s]
      have g216 : g2 16 0 = I ((m - 1 : Nat) : Int) := by rw [c2 16 (by decide)]; exact g16
      have ka := (DA_k hda p q w v ds).1
      unfold f_X11_undo f_X3_pop
      revert c1
      generalize f_X2_copy = cf
      intro c1
      simp only [r_1_0, r_1_1, r_1_2, r_1_3, r_1_4, r_1_5, r_1_6, r_1_7, r_1_8, r_1_9, r_1_10, r_1_11, k_1, n_1, k_13, k_16, gd, if_true, reduceIte, m2, if_pos lm, I_p (show 1 ≤ m by omega)]
      rw [lt_w, ← hg1]
      simp only [r_16_1, r_17, k_17, n_17, if_true, reduceIte, g16, I_in (show m - 1 < 8 by omega) (show 8 < 1000000 by decide), I_ix (show m - 1 < 1000000 by omega), ka, c1, bd_w, if_neg (show ¬ (1 : Int32) = 0 by decide), r_1_0, r_1_1, r_1_2, r_1_3, r_1_4, r_1_5, r_1_6, r_1_7, r_1_8, r_1_9, r_1_10, r_1_11, k_1, n_1, k_16, g216]
    obtain ⟨g3, hg3⟩ : ∃ g3, g3 = uc (th g2) 83 (upd (th g2 83) 5 (I ((m - 1 : Nat) : Int))) := ⟨_, rfl⟩
    have s3 : Sb [83] g2 g3 := by rw [hg3]; unfold th; exact (Sb.rf.uc (by decide)).uc (by decide)
    obtain ⟨g4, d1, d2, d3⟩ := M_und_lp (p := p) (q := q) (w := w) (v := v) (ds := ds) (show m - 1 ≤ 7 by omega) 51 FU 0 g3 (FU_lt (by omega)) (by omega) (by rw [hg3, uc_s, upd_s]) (fun j hj => absurd hj (by omega))
    have d1 : f_X12_undo_27 FU (g3, RF p q w v ds) 83 0 = _ := d1
    have M1 : f_X12_undo (g2, RF p q w v ds) 83 = some (I ((m - 1 : Nat) : Int), (g4, RF p q w v ds)) := by
      have f5 : th g2 83 5 = I m := by rw [th_83 (by decide), sX 83 (by decide)]; exact m3
      have lm : ¬ I (m : Int) = 0 := fun z => by have := (I_inj (b := 0) (by omega) (by omega)).mp z; omega
      unfold f_X12_undo
      revert d1
      generalize f_X12_undo_27 FU = lf
      intro d1
      rw [gd_t (show kd 83 = 12 from rfl), th_lt]
      simp only [f5, if_neg lm, I_p (show 1 ≤ m by omega)]
      rw [lt_w, ← hg3, d1]
    have sA : Sb [13, 14, 15, 16, 83, 86] g g4 := Sb.tr (Sb.tr (sX.mono (by decide)) (s3.mono (by decide))) (d2.mono (by decide))
    have f83 : ∀ j, j ≠ 0 → j ≠ 5 → g4 83 j = g 83 j := fun j h0 h5 => by rw [d2 83 (by decide), hg3, uc_s, upd_n h5, th_83 h0, sX 83 (by decide)]
    have e87 : g3 87 = g 87 := by rw [s3 87 (by decide)]; exact sX 87 (by decide)
    rw [e87] at d3
    have hp := hV.p
    have ep : ∀ k, k < 4 → g4 (p + k) = g (p + k) := fun k hk => sA _ (by simp only [List.mem_cons, List.not_mem_nil, or_false]; omega)
    have e84 : g4 84 = g 84 := sA 84 (by decide)
    have sM : Sb [83, 86] g2 g4 := Sb.tr (s3.mono (by decide)) (d2.mono (by decide))
    refine ⟨_, _, _, X1, M1, g4, p, q, w, v, ds, n, np, kind, rfl, hV.1, hV.2.1, hV.2.2.1, ⟨hp, by rw [e84]; exact hV.pw, r2.cg d3, ?_, ?_, ?_⟩, by rw [f83 12 (by decide) (by decide)]; exact hV.2.2.2.2.1, hds, ⟨m - 1, by omega, ?_, ?_, fun k hk => ?_⟩, hV.2.2.2.2.2.2.2.1.sb sA (by decide) (f83 7 (by decide) (by decide)), hV.2.2.2.2.2.2.2.2.1.sb sA (by decide) (f83 14 (by decide) (by decide)), hV.2.2.2.2.2.2.2.2.2.1.sb sA (by decide) (f83 27 (by decide) (by decide)), hV.2.2.2.2.2.2.2.2.2.2.sb sA (by decide) (f83 9 (by decide) (by decide))⟩
    · rw [e84, ep 1 (by decide), ep 2 (by decide), ep 3 (by decide), show g4 p = g p from ep 0 (by decide)]; exact hV.pr
    · rw [sM 13 (by decide), sM 14 (by decide), sM 15 (by decide)]
      refine r1.cg (T' := g4 86) ?_ ?_ ?_ d3
      · rw [c3.1, c3.2.1, c3.2.2, e1]; exact ⟨rfl, rfl, rfl⟩
      · intro i hi; rw [c4 i hi, s1 _ (by simp; omega)]
      · intro i hi; rw [c5 i hi, s1 _ (by simp; omega)]
    · rw [e84]; exact hV.sx.same (fun a h1 h2 => sA a (by simp only [List.mem_cons, List.not_mem_nil, or_false]; omega))
    · rw [sM 16 (by decide), c2 16 (by decide), hg1, uc_s, upd_s]
    · rw [d2 83 (by decide), hg3, uc_s, upd_s]
    · obtain ⟨t2, ht2, et2⟩ := hds.1 k (by omega)
      rw [sA 87 (by decide), sA (ds k) (by simp; omega), sA (ds k + 1) (by simp; omega), sA (ds k + 2) (by simp; omega)]
      exact m4 k (by omega)
theorem S_keep : Sp0 Inv f_X11_keep f_X12_keep := by
  rintro h ⟨g, p, q, w, v, ds, n, np, kind, rfl, hV⟩
  obtain ⟨m, m1, m2, m3, m4⟩ := hV.2.2.2.2.2.2.2.1
  by_cases hm : m = 2
  · subst hm
    refine ⟨-3, (g, RF p q w v ds), (th g, RF p q w v ds), ?_, ?_, hV.ask (th_mk g)⟩
    · unfold f_X11_keep
      generalize f_X3_push = pf
      simp only [r_1_0, r_1_1, r_1_2, r_1_3, r_1_4, r_1_5, r_1_6, r_1_7, r_1_8, r_1_9, r_1_10, r_1_11, k_1, n_1, k_42, gd, if_true, reduceIte, m2, if_neg (show ¬ I ((2 : Nat) : Int) < (2 : Int32) by decide)]
    · unfold f_X12_keep
      generalize f_X12_keep_18 FU = lf
      rw [gd_t (show kd 83 = 12 from rfl), th_lt, if_pos (show th g 83 7 = 2 by rw [th_83 (by decide)]; exact m3)]
  · have hm1 : m ≤ 1 := by omega
    have hda : DA (44 + 3 * m) := Or.inr (Or.inr ⟨m, by omega, rfl⟩)
    have hrf : RF p q w v ds 43 m = 44 + 3 * m := by
      have : m = 0 ∨ m = 1 := by omega
      rcases this with rfl | rfl <;> rfl
    obtain ⟨g1, c1, c2, c3, c4, c5, c6⟩ := X_copy (p := p) (q := q) (w := w) (v := v) (ds := ds) (g := g) (a := 44 + 3 * m) (b := 13) hda (Or.inl rfl) (by omega) (by rw [hV.dr.1.2.2]; exact hV.dw.2.2.1)
    have g42 : g1 42 = g 42 := c2 42 (by simp; omega)
    obtain ⟨g2, hg2⟩ : ∃ g2, g2 = uc g1 42 (upd (g 42) 0 (I ((m + 1 : Nat) : Int))) := ⟨_, rfl⟩
    have s1 : Sb [42, 44, 45, 46, 47, 48, 49] g g2 := by
      rw [hg2]
      refine Sb.uc (fun a ha' => c2 a (fun z => ha' ?_)) (by decide)
      simp only [List.mem_cons, List.not_mem_nil, or_false] at z ⊢
      omega
    have X1 : f_X11_keep (g, RF p q w v ds) 1 = some (I ((m + 1 : Nat) : Int), (g2, RF p q w v ds)) := by
      have lm : I (m : Int) < (2 : Int32) := (I_lt (b := 2) (by omega) (by omega)).mpr (by omega)
      have ln' : I (m : Int) < nI 2 := by rw [I_nI, I_ltn (by omega) (by omega)]; omega
      have ka := (DA_k hda p q w v ds).1
      have ps : f_X3_push (g, RF p q w v ds) 42 13 = some ((), (g2, RF p q w v ds)) := by
        unfold f_X3_push f_X3_push_16
        revert c1
        generalize f_X2_copy = cf
        generalize f_X3_dropOldest = df
        intro c1
        simp only [r_42_1, k_42, k_13, k_43, n_43, gd, if_true, reduceIte, m2, if_pos ln', I_in (show m < 2 by omega) (show 2 < 1000000 by decide), I_ix (show m < 1000000 by omega), hrf, ka, c1, bd_w]
        rw [lt_w, g42, m2, I_s, hg2]
      unfold f_X11_keep
      revert ps
      generalize f_X3_push = pf
      intro ps
      have g242 : g2 42 0 = I ((m + 1 : Nat) : Int) := by rw [hg2, uc_s, upd_s]
      simp only [r_1_0, r_1_1, r_1_2, r_1_3, r_1_4, r_1_5, r_1_6, r_1_7, r_1_8, r_1_9, r_1_10, r_1_11, k_1, n_1, k_42, k_13, gd, if_true, reduceIte, m2, if_pos lm, ps, bd_w, g242]
    have f7 : th g2 83 7 = I m := by rw [th_83 (by decide), s1 83 (by decide)]; exact m3
    obtain ⟨f, d1, d2, d3⟩ := M_kep_lp (p := p) (q := q) (w := w) (v := v) (ds := ds) hm1 51 FU 0 (th g2) (FU_lt (by omega)) (by omega) f7
    have d1 : f_X12_keep_18 FU (th g2, RF p q w v ds) 83 0 = _ := d1
    obtain ⟨g4, hg4⟩ : ∃ g4, g4 = uc (uc (th g2) 88 f) 83 (upd (th g2 83) 7 (I ((m + 1 : Nat) : Int))) := ⟨_, rfl⟩
    rw [← hg4] at d1
    have M1 : f_X12_keep (g2, RF p q w v ds) 83 = some (I ((m + 1 : Nat) : Int), (g4, RF p q w v ds)) := by
      have lm : ¬ I (m : Int) = (2 : Int32) := fun z => by have := (I_inj (b := 2) (by omega) (by omega)).mp z; omega
      unfold f_X12_keep
      revert d1
      generalize f_X12_keep_18 FU = lf
      intro d1
      rw [gd_t (show kd 83 = 12 from rfl), th_lt]
      simp only [f7, if_neg lm, d1]
    have sA : Sb [42, 44, 45, 46, 47, 48, 49, 83, 88] g g4 := by
      rw [hg4]; unfold th
      exact (((s1.mono (by decide)).uc (by decide)).uc (by decide)).uc (by decide)
    have f83 : ∀ j, j ≠ 0 → j ≠ 7 → g4 83 j = g 83 j := fun j h0 h5 => by rw [hg4, uc_s, upd_n h5, th_83 h0, s1 83 (by decide)]
    have e86 : th g2 86 = g 86 := by rw [th_n (by decide)]; exact s1 86 (by decide)
    have e88 : th g2 88 = g 88 := by rw [th_n (by decide)]; exact s1 88 (by decide)
    rw [e86] at d2
    rw [e88] at d3
    have g488 : g4 88 = f := by rw [hg4, uc_n (by decide), uc_s]
    have sM : Sb [83, 88] g2 g4 := by rw [hg4]; unfold th; exact ((Sb.rf.uc (by decide)).uc (by decide)).uc (by decide)
    refine ⟨_, _, _, X1, M1, g4, p, q, w, v, ds, n, np, kind, rfl, hV.1, hV.2.1, hV.2.2.1, hV.2.2.2.1.sb sA (by decide), by rw [f83 12 (by decide) (by decide)]; exact hV.2.2.2.2.1, hV.2.2.2.2.2.1, hV.2.2.2.2.2.2.1.sb hV.2.2.2.2.2.1 sA (by decide) (f83 5 (by decide) (by decide)), ⟨m + 1, by omega, ?_, ?_, fun k hk => ?_⟩, hV.2.2.2.2.2.2.2.2.1.sb sA (by decide) (f83 14 (by decide) (by decide)), hV.2.2.2.2.2.2.2.2.2.1.sb sA (by decide) (f83 27 (by decide) (by decide)), hV.2.2.2.2.2.2.2.2.2.2.sb sA (by decide) (f83 9 (by decide) (by decide))⟩
    · rw [sM 42 (by decide), hg2, uc_s, upd_s]
    · rw [hg4, uc_s, upd_s]
    · rw [g488, sM (44 + 3 * k) (by simp; omega), sM (44 + 3 * k + 1) (by simp; omega), sM (44 + 3 * k + 2) (by simp; omega), hg2, uc_n (show 44 + 3 * k ≠ 42 by omega), uc_n (show 44 + 3 * k + 1 ≠ 42 by omega), uc_n (show 44 + 3 * k + 2 ≠ 42 by omega)]
      by_cases e : k = m
      · subst e
        have hT : ∀ j, j < 51 → f (51 * k + j) = g 86 j := fun j hj => d2 j (by omega) hj
        exact ⟨hV.dr.cg c3 c4 c5 hT, hV.dw.cg hT⟩
      · have hT : ∀ j, j < 51 → f (51 * k + j) = g 88 (51 * k + j) := fun j hj => d3 _ (by omega)
        rw [c2 (44 + 3 * k) (by simp; omega), c2 (44 + 3 * k + 1) (by simp; omega), c2 (44 + 3 * k + 2) (by simp; omega)]
        obtain ⟨x1, x2⟩ := m4 k (by omega)
        exact ⟨x1.cg ⟨rfl, rfl, rfl⟩ (fun _ _ => rfl) (fun _ _ => rfl) hT, x2.cg hT⟩
theorem S_back : Sp0 Inv f_X11_back f_X12_back := by
  rintro h ⟨g, p, q, w, v, ds, n, np, kind, rfl, hV⟩
  obtain ⟨m, m1, m2, m3, m4⟩ := hV.2.2.2.2.2.2.2.1
  by_cases hm : m = 0
  · subst hm
    refine ⟨-2, (g, RF p q w v ds), (th g, RF p q w v ds), ?_, ?_, hV.ask (th_mk g)⟩
    · unfold f_X11_back f_X3_pop
      simp only [r_1_0, r_1_1, r_1_2, r_1_3, r_1_4, r_1_5, r_1_6, r_1_7, r_1_8, r_1_9, r_1_10, r_1_11, k_1, n_1, k_13, k_42, gd, if_true, reduceIte, m2, if_neg (show ¬ 0 < I ((0 : Nat) : Int) by decide), bd_w]
    · unfold f_X12_back
      generalize f_X12_back_27 FU = lf
      rw [gd_t (show kd 83 = 12 from rfl), th_lt, if_pos (show th g 83 7 = 0 by rw [th_83 (by decide)]; exact m3)]
  · have hda : DA (44 + 3 * (m - 1)) := Or.inr (Or.inr ⟨m - 1, by omega, rfl⟩)
    have hrf : RF p q w v ds 43 (m - 1) = 44 + 3 * (m - 1) := by
      have : m = 1 ∨ m = 2 := by omega
      rcases this with rfl | rfl <;> rfl
    obtain ⟨r1, r2⟩ := m4 (m - 1) (by omega)
    obtain ⟨g1, hg1⟩ : ∃ g1, g1 = uc g 42 (upd (g 42) 0 (I ((m - 1 : Nat) : Int))) := ⟨_, rfl⟩
    have s1 : Sb [42] g g1 := by rw [hg1]; exact Sb.rf.uc (by decide)
    have e1 : g1 (44 + 3 * (m - 1)) = g (44 + 3 * (m - 1)) := s1 _ (by simp; omega)
    obtain ⟨g2, c1, c2, c3, c4, c5, c6⟩ := X_copy (p := p) (q := q) (w := w) (v := v) (ds := ds) (g := g1) (a := 13) (b := 44 + 3 * (m - 1)) (Or.inl rfl) hda (by omega) (by rw [e1, r1.1.2.2]; exact r2.2.2.1)
    obtain ⟨g3, hg3⟩ : ∃ g3, g3 = uc g2 16 (upd (g2 16) 0 0) := ⟨_, rfl⟩
    have s3 : Sb [16] g2 g3 := by rw [hg3]; exact Sb.rf.uc (by decide)
    have sX : Sb [13, 14, 15, 16, 42] g g3 := Sb.tr (Sb.tr (s1.mono (by decide)) (c2.mono (by decide))) (s3.mono (by decide))
    have g342 : g3 42 0 = I ((m - 1 : Nat) : Int) := by rw [s3 42 (by decide), c2 42 (by decide), hg1, uc_s, upd_s]
    have X1 : f_X11_back (g, RF p q w v ds) 1 = some (I ((m - 1 : Nat) : Int), (g3, RF p q w v ds)) := by
      have lm : (0 : Int32) < I (m : Int) := (I_lt (a := 0) (by omega) (by omega)).mpr (by omega)
      have g16 : g1 42 0 = I ((m - 1 : Nat) : Int) := by rw [hg1, uc_s, upd_s]
      have ka := (DA_k hda p q w v ds).1
      unfold f_X11_back f_X3_pop
      revert c1
      generalize f_X2_copy = cf
      intro c1
      simp only [r_1_0, r_1_1, r_1_2, r_1_3, r_1_4, r_1_5, r_1_6, r_1_7, r_1_8, r_1_9, r_1_10, r_1_11, k_1, n_1, k_13, k_42, gd, if_true, reduceIte, m2, if_pos lm, I_p (show 1 ≤ m by omega)]
      rw [lt_w, ← hg1]
      simp only [r_42_1, k_43, n_43, if_true, reduceIte, g16, I_in (show m - 1 < 2 by omega) (show 2 < 1000000 by decide), I_ix (show m - 1 < 1000000 by omega), hrf, ka, c1, bd_w, if_neg (show ¬ (1 : Int32) = 0 by decide), r_1_0, r_1_1, r_1_2, r_1_3, r_1_4, r_1_5, r_1_6, r_1_7, r_1_8, r_1_9, r_1_10, r_1_11, k_1, n_1, k_16]
      rw [lt_w, ← hg3]
      simp only [r_1_0, r_1_1, r_1_2, r_1_3, r_1_4, r_1_5, r_1_6, r_1_7, r_1_8, r_1_9, r_1_10, r_1_11, k_1, n_1, k_42, if_true, reduceIte, g342]
    obtain ⟨g4, hg4⟩ : ∃ g4, g4 = uc (th g3) 83 (upd (th g3 83) 7 (I ((m - 1 : Nat) : Int))) := ⟨_, rfl⟩
    have s4 : Sb [83] g3 g4 := by rw [hg4]; unfold th; exact (Sb.rf.uc (by decide)).uc (by decide)
    obtain ⟨g5, d1, d2, d3, d4, d5⟩ := M_bck_lp (p := p) (q := q) (w := w) (v := v) (ds := ds) (show m - 1 ≤ 1 by omega) 51 FU 0 g4 (FU_lt (by omega)) (by omega) (by rw [hg4, uc_s, upd_s]) (fun j hj => absurd hj (by omega))
    have d1 : f_X12_back_27 FU (g4, RF p q w v ds) 83 0 = _ := d1
    have M1 : f_X12_back (g3, RF p q w v ds) 83 = some (I ((m - 1 : Nat) : Int), (g5, RF p q w v ds)) := by
      have f5 : th g3 83 7 = I m := by rw [th_83 (by decide), sX 83 (by decide)]; exact m3
      have lm : ¬ I (m : Int) = 0 := fun z => by have := (I_inj (b := 0) (by omega) (by omega)).mp z; omega
      unfold f_X12_back
      revert d1
      generalize f_X12_back_27 FU = lf
      intro d1
      rw [gd_t (show kd 83 = 12 from rfl), th_lt]
      simp only [f5, if_neg lm, I_p (show 1 ≤ m by omega)]
      rw [lt_w, ← hg4, d1]
    have sA : Sb [13, 14, 15, 16, 42, 83, 86] g g5 := Sb.tr (Sb.tr (sX.mono (by decide)) (s4.mono (by decide))) (d2.mono (by decide))
    have f83 : ∀ j, j ≠ 0 → j ≠ 5 → j ≠ 7 → g5 83 j = g 83 j := fun j h0 h5 h7 => by rw [d3 j h5, hg4, uc_s, upd_n h7, th_83 h0, sX 83 (by decide)]
    have e88 : g4 88 = g 88 := by rw [s4 88 (by decide)]; exact sX 88 (by decide)
    rw [e88] at d5
    have hp := hV.p
    have ep : ∀ k, k < 4 → g5 (p + k) = g (p + k) := fun k hk => sA _ (by simp only [List.mem_cons, List.not_mem_nil, or_false]; omega)
    have e84 : g5 84 = g 84 := sA 84 (by decide)
    have sM : Sb [83, 86] g3 g5 := Sb.tr (s4.mono (by decide)) (d2.mono (by decide))
    refine ⟨_, _, _, X1, M1, g5, p, q, w, v, ds, n, np, kind, rfl, hV.1, hV.2.1, hV.2.2.1, ⟨hp, by rw [e84]; exact hV.pw, r2.cg d5, ?_, ?_, ?_⟩, by rw [f83 12 (by decide) (by decide) (by decide)]; exact hV.2.2.2.2.1, hV.2.2.2.2.2.1, ⟨0, by omega, ?_, d4, fun k hk => absurd hk (by omega)⟩, ⟨m - 1, by omega, ?_, ?_, fun k hk => ?_⟩, hV.2.2.2.2.2.2.2.2.1.sb sA (by decide) (f83 14 (by decide) (by decide) (by decide)), hV.2.2.2.2.2.2.2.2.2.1.sb sA (by decide) (f83 27 (by decide) (by decide) (by decide)), hV.2.2.2.2.2.2.2.2.2.2.sb sA (by decide) (f83 9 (by decide) (by decide) (by decide))⟩
    · rw [e84, ep 1 (by decide), ep 2 (by decide), ep 3 (by decide), show g5 p = g p from ep 0 (by decide)]; exact hV.pr
    · rw [sM 13 (by decide), sM 14 (by decide), sM 15 (by decide), s3 13 (by decide), s3 14 (by decide), s3 15 (by decide)]
      refine r1.cg (T' := g5 86) ?_ ?_ ?_ d5
      · rw [c3.1, c3.2.1, c3.2.2, e1]; exact ⟨rfl, rfl, rfl⟩
      · intro i hi; rw [c4 i hi, s1 _ (by simp; omega)]
      · intro i hi; rw [c5 i hi, s1 _ (by simp; omega)]
    · rw [e84]; exact hV.sx.same (fun a h1 h2 => sA a (by simp only [List.mem_cons, List.not_mem_nil, or_false]; omega))
    · rw [sM 16 (by decide), hg3, uc_s, upd_s]; rfl
    · rw [sM 42 (by decide)]; exact g342
    · rw [d3 7 (by decide), hg4, uc_s, upd_s]
    · rw [sA 88 (by decide), sA (44 + 3 * k) (by simp; omega), sA (44 + 3 * k + 1) (by simp; omega), sA (44 + 3 * k + 2) (by simp; omega)]
      exact m4 k (by omega)
