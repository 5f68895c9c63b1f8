/-! dusk, and what a new day leaves alone -/
def DX : List Nat := [13, 14, 15, 16, 18, 19, 20, 21, 22, 23, 24, 25, 26, 27, 28, 29, 30, 31, 32, 33, 34, 35, 36, 37, 38, 39, 40, 41, 61, 62, 63, 64, 65, 66, 68, 69, 70, 71, 72, 73, 74, 75, 76, 77, 78, 79, 80, 81, 82]
def DM : List Nat := [83, 86, 87, 92]
def DXM : List Nat := DX ++ DM
theorem th_sb (g : Nat → Nat → Int32) : Sb DM g (th g) := by unfold th; exact Sb.rf.uc (by decide)
theorem IV.after {g g1 g2 : Nat → Nat → Int32} {p q w v : Nat} {ds ds' : Nat → Nat} {n np kind m : Nat} {T' : Nat → Int32} (hV : IV g p q w v ds n np kind) (hWd : ∀ k, k < m → DW (fun j => g 87 (51 * k + j)) n np) (hX : Sb DX g g1) (hds : DSP ds') (h16 : g1 16 0 = I (mn m : Nat)) (hm8 : m ≤ 8)
    (hDRs : ∀ k, k < mn m → DR (g1 (ds' k)) (g1 (ds' k + 1)) (g1 (ds' k + 2)) (Wn m (fun k j => g 87 (51 * k + j)) (g 86) k)) (hD : DR (g1 13) (g1 14) (g1 15) T') (hW' : DW T' n np) (hSX : SX (g 84) n g1) (hM : Sb DM g1 g2) (h5 : g2 83 5 = I (mn m : Nat)) (hj : ∀ j, j ∈ [7, 9, 12, 14, 27] → g2 83 j = g1 83 j)
    (h87 : ∀ k, k < mn m → ∀ j, j < 51 → g2 87 (51 * k + j) = Wn m (fun k j => g 87 (51 * k + j)) (g 86) k j) (h86 : ∀ j, j < 51 → g2 86 j = T' j) : IV g2 p q w v ds' n np kind := by
  have s : Sb DXM g g2 := Sb.tr (hX.mono (by decide)) (hM.mono (by decide))
  have e83 : ∀ j, j ∈ [7, 9, 12, 14, 27] → g2 83 j = g 83 j := fun j h => by rw [hj j h, hX 83 (by decide)]
  have e84 : g2 84 = g 84 := s 84 (by decide)
  have hp := hV.p
  have ep : ∀ k, k < 4 → g2 (p + k) = g (p + k) := fun k hk => s _ (by unfold DXM DX DM; simp only [List.mem_append, List.mem_cons, List.not_mem_nil, or_false]; omega)
  refine ⟨hV.1, hV.2.1, hV.2.2.1, ⟨hp, ?_, hW'.cg h86, ?_, ?_, ?_⟩, by rw [e83 12 (by decide)]; exact hV.2.2.2.2.1, hds, ⟨mn m, by unfold mn; split <;> omega, ?_, h5, fun k hk => ⟨?_, ?_⟩⟩, hV.2.2.2.2.2.2.2.1.sb s (by decide) (e83 7 (by decide)), hV.2.2.2.2.2.2.2.2.1.sb s (by decide) (e83 14 (by decide)), hV.2.2.2.2.2.2.2.2.2.1.sb s (by decide) (e83 27 (by decide)), hV.2.2.2.2.2.2.2.2.2.2.sb s (by decide) (e83 9 (by decide))⟩
  · rw [e84]; exact hV.pw
  · rw [e84, ep 1 (by decide), ep 2 (by decide), ep 3 (by decide), show g2 p = g p from ep 0 (by decide)]; exact hV.pr
  · rw [hM 13 (by decide), hM 14 (by decide), hM 15 (by decide)]
    exact hD.cg ⟨rfl, rfl, rfl⟩ (fun _ _ => rfl) (fun _ _ => rfl) h86
  · rw [e84]
    exact hSX.same (fun a h1 h2 => hM a (by unfold DM; simp only [List.mem_cons, List.not_mem_nil, or_false]; omega))
  · rw [hM 16 (by decide)]; exact h16
  · have hk8 : k < 8 := by unfold mn at hk; split at hk <;> omega
    obtain ⟨t, ht, et⟩ := hds.1 k hk8
    rw [hM (ds' k) (by unfold DM; simp only [List.mem_cons, List.not_mem_nil, or_false]; omega), hM (ds' k + 1) (by unfold DM; simp only [List.mem_cons, List.not_mem_nil, or_false]; omega), hM (ds' k + 2) (by unfold DM; simp only [List.mem_cons, List.not_mem_nil, or_false]; omega)]
    exact (hDRs k hk).cg ⟨rfl, rfl, rfl⟩ (fun _ _ => rfl) (fun _ _ => rfl) (h87 k hk)
  · refine DW.cg ?_ (h87 k hk)
    unfold Wn
    unfold mn at hk
    by_cases c : m < 8
    · rw [if_pos c] at hk ⊢
      by_cases e : k = m
      · rw [if_pos e]; exact hV.dw
      · rw [if_neg e]; exact hWd k (by omega)
    · rw [if_neg c] at hk ⊢
      by_cases e : k = 7
      · rw [if_pos e]; exact hV.dw
      · rw [if_neg e]; exact hWd (k + 1) (by omega)
section T
variable {p q w v : Nat} {ds : Nat → Nat}
theorem X_beg2 {f : Int32} (hf : f = 0 ∨ f = 1) : ∀ (r fu k : Nat) (g : Nat → Nat → Int32), r < fu → k + r = 6 → (∀ j, j < k → g 15 j = 0) →
    ∃ g', f_X2_begin_26 fu (g, RF p q w v ds) 13 f (I k) = some ((), (g', RF p q w v ds)) ∧ Sb [13, 15] g g' ∧ (g' 13 2 = 0 ∧ g' 13 3 = 0 ∧ g' 13 4 = f) ∧ ∀ j, j < 6 → g' 15 j = 0 := by
  intro r
  induction r with
  | zero =>
    intro fu k g hf' hk h
    obtain ⟨fu, rfl⟩ : ∃ k, fu = k + 1 := ⟨fu - 1, by omega⟩
    have hk6 : k = 6 := by omega
    subst hk6
    refine ⟨uc g 13 (upd (upd (upd (g 13) 2 0) 3 0) 4 f), ?_, Sb.rf.uc (by decide), ?_, fun j hj => by rw [uc_n (by decide)]; exact h j hj⟩
    · simp only [f_X2_begin_26, r_13_0, r_13_1, k_13, n_13, k_14, n_14, k_15, n_15, gd, if_true, reduceIte, if_pos (show nI 6 ≤ I ((6 : Nat) : Int) by decide), lt_w, uc_s, uc_uc, if_pos hf]
    · rw [uc_s]
      exact ⟨by rw [upd_n (by decide), upd_n (by decide), upd_s], by rw [upd_n (by decide), upd_s], upd_s _ _ _⟩
  | succ r ih =>
    intro fu k g hf' hk h
    obtain ⟨fu, rfl⟩ : ∃ k, fu = k + 1 := ⟨fu - 1, by omega⟩
    have c1 : ¬ nI 6 ≤ I (k : Int) := by rw [I_nI, I_len (by omega) (by omega)]; omega
    obtain ⟨g', a1, a2, a3⟩ := ih fu (k + 1) (uc g 15 (upd (g 15) k 0)) (by omega) (by omega) (fun j hj => by
      rw [uc_s]
      by_cases e : j = k
      · subst e; rw [upd_s]
      · rw [upd_n e]; exact h j (by omega))
    refine ⟨g', ?_, Sb.tr (Sb.rf.uc (by decide)) a2, a3⟩
    rw [← a1]
    simp only [f_X2_begin_26, r_13_0, r_13_1, k_13, n_13, k_14, n_14, k_15, n_15, gd, if_true, reduceIte, if_neg c1, I_in (show k < 6 by omega) (show 6 < 1000000 by decide), I_ix (show k < 1000000 by omega), lt_w, I_s]
theorem X_beg1 {f : Int32} (hf : f = 0 ∨ f = 1) : ∀ (r fu k : Nat) (g : Nat → Nat → Int32), r < fu → k + r = 8 → (∀ j, j < k → g 14 j = 0) →
    ∃ g', f_X2_begin_2 fu (g, RF p q w v ds) 13 f (I k) = some ((), (g', RF p q w v ds)) ∧ Sb [13, 14, 15] g g' ∧ DR (g' 13) (g' 14) (g' 15) (dawnT f) := by
  intro r
  induction r with
  | zero =>
    intro fu k g hf' hk h
    obtain ⟨fu, rfl⟩ : ∃ k, fu = k + 1 := ⟨fu - 1, by omega⟩
    have hk8 : k = 8 := by omega
    subst hk8
    obtain ⟨g', a1, a2, a3, a4⟩ := X_beg2 (p := p) (q := q) (w := w) (v := v) (ds := ds) hf 6 FU 0 g (FU_lt (by omega)) (by omega) (fun j hj => absurd hj (by omega))
    have a1 : f_X2_begin_26 FU (g, RF p q w v ds) 13 f 0 = _ := a1
    refine ⟨g', ?_, a2.mono (by decide), dawnT_r a3.1 a3.2.1 a3.2.2 (fun i hi => by rw [a2 14 (by decide)]; exact h i hi) a4⟩
    have e0 : f_X2_begin_2 (fu + 1) (g, RF p q w v ds) 13 f (I ((8 : Nat) : Int)) = f_X2_begin_26 FU (g, RF p q w v ds) 13 f 0 := by
      rw [f_X2_begin_2]
      generalize f_X2_begin_26 FU = lf
      simp only [r_13_0, r_13_1, k_13, n_13, k_14, n_14, k_15, n_15, gd, if_true, reduceIte, if_pos (show nI 8 ≤ I ((8 : Nat) : Int) by decide)]
    rw [e0, a1]
  | succ r ih =>
    intro fu k g hf' hk h
    obtain ⟨fu, rfl⟩ : ∃ k, fu = k + 1 := ⟨fu - 1, by omega⟩
    have c1 : ¬ nI 8 ≤ I (k : Int) := by rw [I_nI, I_len (by omega) (by omega)]; omega
    obtain ⟨g', a1, a2, a3⟩ := ih fu (k + 1) (uc g 14 (upd (g 14) k 0)) (by omega) (by omega) (fun j hj => by
      rw [uc_s]
      by_cases e : j = k
      · subst e; rw [upd_s]
      · rw [upd_n e]; exact h j (by omega))
    refine ⟨g', ?_, Sb.tr (Sb.rf.uc (by decide)) a2, a3⟩
    rw [← a1]
    clear a1
    rw [f_X2_begin_2]
    generalize f_X2_begin_26 FU = lf
    simp only [r_13_0, r_13_1, k_13, n_13, k_14, n_14, k_15, n_15, gd, if_true, reduceIte, if_neg c1, I_in (show k < 8 by omega) (show 8 < 1000000 by decide), I_ix (show k < 1000000 by omega), lt_w, I_s]
theorem X_begin {f : Int32} (hf : f = 0 ∨ f = 1) (g : Nat → Nat → Int32) : ∃ g', f_X2_begin (g, RF p q w v ds) 13 f = some ((), (g', RF p q w v ds)) ∧ Sb [13, 14, 15] g g' ∧ DR (g' 13) (g' 14) (g' 15) (dawnT f) := by
  obtain ⟨g', a1, a2⟩ := X_beg1 (p := p) (q := q) (w := w) (v := v) (ds := ds) hf 8 FU 0 g (FU_lt (by omega)) (by omega) (fun j hj => absurd hj (by omega))
  have a1 : f_X2_begin_2 FU (g, RF p q w v ds) 13 f 0 = _ := a1
  refine ⟨g', ?_, a2⟩
  unfold f_X2_begin
  revert a1
  generalize f_X2_begin_2 FU = lf
  intro a1
  rw [gd_t (show kd 13 = 2 from rfl), a1]
theorem M_dawn {f : Int32} (hf : f = 0 ∨ f = 1) : ∀ (r fu k : Nat) (G : Nat → Nat → Int32), r < fu → k + r = 51 → (∀ j, j < k → j ≠ 1 → G 86 j = dawnT f j) →
    ∃ G', f_X12_dawn_2 fu (G, RF p q w v ds) 83 f (I k) = some ((), (G', RF p q w v ds)) ∧ Sb [86] G G' ∧ ∀ j, j < 51 → G' 86 j = dawnT f j := by
  intro r
  induction r with
  | zero =>
    intro fu k G hf' hk h
    obtain ⟨fu, rfl⟩ : ∃ k, fu = k + 1 := ⟨fu - 1, by omega⟩
    have c1 : (51 : Int32) ≤ I (k : Int) := (I_le (a := 51) (by omega) (by omega)).mpr (by omega)
    refine ⟨uc G 86 (upd (G 86) 1 f), ?_, Sb.rf.uc (by decide), fun j hj => ?_⟩
    · simp only [f_X12_dawn_2, f_X12_dawn_45, if_pos c1, r_83_1, r_83_2, r_83_3, r_83_4, r_83_6, r_83_8, r_83_11, r_83_13, r_83_15, r_83_19, r_83_20, r_83_21, r_83_22, r_83_24, r_83_25, r_83_26, r_83_28, r_83_29, k_83, n_83, k_84, n_84, k_85, n_85, k_86, n_86, k_87, n_87, k_88, n_88, k_89, n_89, k_90, n_90, k_91, n_91, k_92, n_92, k_93, n_93, k_94, n_94, k_95, n_95, k_96, n_96, k_97, n_97, k_98, n_98, k_99, n_99, k_100, n_100, k_101, n_101, ci_0, ci_1, ci_2, ci_3, ci_4, ii_0, ii_1, ii_2, ii_3, ii_4, id_0, id_1, id_2, gd, if_true, reduceIte, lt_w]
      rcases hf with rfl | rfl
      · rw [if_pos rfl]
      · rw [if_neg (by decide)]
    · rw [uc_s]
      by_cases e : j = 1
      · subst e; rw [upd_s]; rfl
      · rw [upd_n e]; exact h j (by omega) e
  | succ r ih =>
    intro fu k G hf' hk h
    obtain ⟨fu, rfl⟩ : ∃ k, fu = k + 1 := ⟨fu - 1, by omega⟩
    have c1 : ¬ (51 : Int32) ≤ I (k : Int) := fun z => by have := (I_le (a := 51) (by omega) (by omega)).mp z; omega
    have e2 : (I (k : Int) ≤ (2 : Int32)) = (k ≤ 2) := I_len (b := 2) (by omega) (by omega)
    obtain ⟨G', a1, a2, a3⟩ := ih fu (k + 1) (uc G 86 (upd (G 86) k (if k ≤ 2 then 0 else -4))) (by omega) (by omega) (fun j hj h1 => by
      rw [uc_s]
      by_cases e : j = k
      · subst e
        rw [upd_s]
        unfold dawnT
        rw [if_neg h1]
        by_cases c : j ≤ 2
        · rw [if_pos c, if_pos (by omega)]
        · rw [if_neg c, if_neg (by omega)]; rfl
      · rw [upd_n e]; exact h j (by omega) h1)
    refine ⟨G', ?_, Sb.tr (Sb.rf.uc (by decide)) a2, a3⟩
    rw [← a1]
    simp only [f_X12_dawn_2, f_X12_dawn_24, if_neg c1, r_83_1, r_83_2, r_83_3, r_83_4, r_83_6, r_83_8, r_83_11, r_83_13, r_83_15, r_83_19, r_83_20, r_83_21, r_83_22, r_83_24, r_83_25, r_83_26, r_83_28, r_83_29, k_83, n_83, k_84, n_84, k_85, n_85, k_86, n_86, k_87, n_87, k_88, n_88, k_89, n_89, k_90, n_90, k_91, n_91, k_92, n_92, k_93, n_93, k_94, n_94, k_95, n_95, k_96, n_96, k_97, n_97, k_98, n_98, k_99, n_99, k_100, n_100, k_101, n_101, gd, if_true, reduceIte, e2, I_in (show k < 51 by omega) (show 51 < 1000000 by decide), I_ix (show k < 1000000 by omega), lt_w, I_s]
    by_cases c : k ≤ 2
    · rw [if_pos c, if_pos c]
    · rw [if_neg c, if_neg c]
end T
theorem S_dusk : SpZ Inv f_X11_dusk f_X12_dusk := by
  rintro h a ha ⟨g, p, q, w, v, ds, n, np, kind, rfl, hV⟩
  have hn := hV.pw.2.1
  obtain ⟨m, m1, m2, m3, m4⟩ := hV.2.2.2.2.2.2.1
  obtain ⟨g1, ds', a1, a2, a3, a4, a5⟩ := X_push (p := p) (q := q) (w := w) (v := v) (W := fun k j => g 87 (51 * k + j)) hV.2.2.2.2.2.1 m1 m2 (fun k hk => (m4 k hk).1) hV.dr hV.dw.2.2.1
  obtain ⟨g2, b1', b2, b3⟩ := X_begin (p := p) (q := q) (w := w) (v := v) (ds := ds') ha g1
  have hX : Sb DX g g2 := Sb.tr (a3.mono (by decide)) (b2.mono (by decide))
  have e84 : th g2 84 = g 84 := by rw [th_n (by decide)]; exact hX 84 (by decide)
  have e86 : th g2 86 = g 86 := by rw [th_n (by decide)]; exact hX 86 (by decide)
  have e87 : th g2 87 = g 87 := by rw [th_n (by decide)]; exact hX 87 (by decide)
  have e5 : th g2 83 5 = I m := by rw [th_83 (by decide), hX 83 (by decide)]; exact m3
  have mt := M_taken (p := p) (q := q) (w := w) (v := v) (ds := ds') (g := th g2) hn.2 (by rw [e84]; exact hV.pw.1)
  rw [e86] at mt
  obtain ⟨g3, c1, c2, c3, c4, c5⟩ := M_keepDay (p := p) (q := q) (w := w) (v := v) (ds := ds') m1 e5
  rw [e86, e87] at c5
  obtain ⟨g4, d1, d2, d3⟩ := M_dawn (p := p) (q := q) (w := w) (v := v) (ds := ds') ha 51 FU 0 g3 (FU_lt (by omega)) (by omega) (fun j hj => absurd hj (by omega))
  have d1 : f_X12_dawn_2 FU (g3, RF p q w v ds') 83 a 0 = _ := d1
  have hM : Sb DM g2 g4 := Sb.tr (Sb.tr (th_sb g2) (c2.mono (by decide))) (d2.mono (by decide))
  refine ⟨I (pc 24 (tkM n (g 86)) : Nat), (g2, RF p q w v ds'), (g4, RF p q w v ds'), ?_, ?_, g4, p, q, w, v, ds', n, np, kind, rfl, hV.after (fun k hk => (m4 k hk).2) hX a2 ?_ m1 ?_ b3 (dawnT_w ha n np) ?_ hM ?_ ?_ ?_ d3⟩
  · unfold f_X11_dusk
    revert a1 b1'
    generalize f_X3_push = pf
    generalize f_X2_begin = bf
    intro a1 b1'
    simp only [r_1_0, r_1_1, r_1_2, r_1_3, r_1_4, r_1_5, r_1_6, r_1_7, r_1_8, r_1_9, r_1_10, r_1_11, k_1, n_1, k_13, k_16, gd, if_true, reduceIte, X_tk hV.2.2.2.1, bd_w, Xbc, pc_tk hn.2, a1, b1']
  · have d0 : f_X12_dawn (g3, RF p q w v ds') 83 a = some ((), (g4, RF p q w v ds')) := by
      unfold f_X12_dawn
      revert d1
      generalize f_X12_dawn_2 FU = lf
      intro d1
      rw [gd_t (show kd 83 = 12 from rfl), d1]
    unfold f_X12_dusk
    revert c1 d0
    generalize f_X12_keepDay = kf
    generalize f_X12_dawn = df
    intro d0 c1
    rw [gd_t (show kd 83 = 12 from rfl), th_lt]
    simp only [mt, bd_w, Mbits, c1, d0]
  · rw [b2 16 (by decide)]; exact a4
  · intro k hk
    have hk8 : k < 8 := by unfold mn at hk; split at hk <;> omega
    obtain ⟨t, ht, et⟩ := a2.1 k hk8
    rw [b2 (ds' k) (by simp; omega), b2 (ds' k + 1) (by simp; omega), b2 (ds' k + 2) (by simp; omega)]
    exact a5 k hk
  · exact hV.sx.same (fun a h1 h2 => by rw [b2 a (by simp only [List.mem_cons, List.not_mem_nil, or_false]; omega), a3 a (by unfold DAYS; simp only [List.mem_cons, List.not_mem_nil, or_false]; omega)])
  · rw [d2 83 (by decide)]; exact c3
  · intro j hj
    rw [d2 83 (by decide), c4 j (fun e => by subst e; revert hj; decide), th_83 (fun e => by subst e; revert hj; decide)]
  · intro k hk j hj
    rw [d2 87 (by decide)]
    exact c5 k hk j hj
