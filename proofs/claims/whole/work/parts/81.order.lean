section T
variable {p q w v : Nat} {ds : Nat → Nat}
theorem pc_lo6 {np : Nat} {x : Int32} (hn : np ≤ 6) (h : LO np x) {m : Nat} (hm : 6 ≤ m) : pc m x = pc 6 x := by
  have := pc_more (n := 6) (x := x) (m - 6) (fun i hi => by
    rcases Nat.lt_or_ge i 32 with z | z
    · exact h i (by omega) z
    · exact bt_big z)
  rw [show 6 + (m - 6) = m by omega] at this
  exact this
theorem X_fo {g : Nat → Nat → Int32} {M T0 : Nat → Int32} {n np kind : Nat} {who : Int32} {O : Nat → Int32} {A : Nat → Nat} (hM : PW M n np kind) (hL : LO np who) (hS : SX M n g) (hC : SC g M n who kind O A) :
    ∃ g', f_X1_findOrder (g, RF p q w v ds) 78 75 = some ((), (g', RF p q w v ds)) ∧ SX M n g' ∧ Sb SRC g g' ∧ ROX g' (VV (uo M kind O A) (pc 6 who) who (g 75 2) 0 [] (-1, [])) := by
  have hnp := hM.2.2.2.1
  have h6 := pc_le 6 who
  obtain ⟨g1, hg1⟩ : ∃ g1, g1 = uc g 78 (upd (g 78) 4 (-1)) := ⟨_, rfl⟩
  have s1 : Sb [78] g g1 := by rw [hg1]; exact Sb.rf.uc (by decide)
  obtain ⟨g', e, a1, a2, a3, a4, a5⟩ := X_sr (p := p) (q := q) (w := w) (v := v) (ds := ds) (who := who) (kind := kind) (O := O) (A := A) hM (pc 6 who) 8 0 who (g 75 2) 0 [] g1 (-1, []) (by omega) (by omega) rfl (fun i _ h => h) rfl (Nat.le_refl _) (fun j hj => absurd hj (by omega)) ⟨by rw [hg1, uc_s, upd_s]; rfl, ⟨Int.le_refl _, by show (-1 : Int) ≤ 6; omega⟩, Nat.zero_le _, fun j hj => absurd (show j < 0 from hj) (by omega)⟩ (hS.sc (s1.mono (by decide))) (hC.keep (s1 75 (by decide)) (s1 76 (by decide)) (s1 77 (by decide)))
  have e : f_X1_search 8 (g1, RF p q w v ds) 78 75 0 (g 75 2) who 0 = _ := e
  refine ⟨g', ?_, a1, Sb.tr (s1.mono (by decide)) a2, a5⟩
  unfold f_X1_findOrder
  revert e
  generalize f_X1_search 8 = sf
  intro e
  rw [gd_t (show kd 78 = 1 from rfl), gd_t (show kd 75 = 6 from rfl), lt_w, ← hg1]
  show bd (sf (g1, RF p q w v ds) 78 75 0 (g1 75 2) (g1 75 0) 0) _ = _
  rw [s1 75 (by decide), hC.1, e, bd_w]
theorem FU_ge {n : Nat} (h : FU ≤ n) : 100000 ≤ n := h
theorem M_lo1 {g : Nat → Nat → Int32} {M T0 : Nat → Int32} {n np k0 m : Nat} {T left : Int32} (hM : PW M n np k0) (hm6 : m ≤ 6) (hm : pc 6 left = m) (hL : LO np left) (h93 : g 93 0 = I (-1)) (h94 : g 94 0 = T) (h95 : g 95 0 = I ((0 : Nat) : Int)) (h23 : g 83 23 = I (-1)) (hMO : MO g M T0) :
    ∃ g', f_X12_layOrder_41 FU (g, RF p q w v ds) 83 left (I m) (I ((0 : Nat) : Int)) = some ((), (g', RF p q w v ds)) ∧ ROM g' (VV (uo M k0 (owM n M T0 0) (am M)) m left T 0 [] (-1, [])) ∧ OF 0 g g' := by
  have hK := KK_le m hm6
  have hKF : KK m + 1 ≤ FU := FU_lt (show KK m < 100000 by omega)
  obtain ⟨fu', g', e, c1, c2, c3⟩ := M_or (p := p) (q := q) (w := w) (v := v) (ds := ds) (T0 := T0) (sil := left) (m := m) hM hm6 m 0 left T 0 [] (-1, []) g FU (Nat.zero_add m) hKF hm hL (fun j hj => by show _ = (_ && !false); rw [Bool.not_false, Bool.and_true]) rfl (Nat.le_refl _) h93 (fun j hj => absurd hj (by omega)) h94 h95 ⟨h23, ⟨Int.le_refl _, by show (-1 : Int) ≤ 6; omega⟩, Nat.zero_le _, fun j hj => absurd (show j < 0 from hj) (by omega)⟩ (by show (-1 : Int) ≤ m; omega) hMO
  have hfu : 1 ≤ fu' := by have := FU_ge c1; omega
  obtain ⟨fu2, rfl⟩ : ∃ k, fu' = k + 1 := ⟨fu' - 1, by omega⟩
  have e' : f_X12_layOrder_41 (fu2 + 1) (g', RF p q w v ds) 83 left (I m) (I (((0 : Nat) : Int) - 1)) = some ((), (g', RF p q w v ds)) := by
    simp only [f_X12_layOrder_41]
    rw [if_pos (by decide)]
  exact ⟨g', e.trans e', c2, c3⟩
theorem M_lo {g : Nat → Nat → Int32} {n np k0 : Nat} (hM : PW (g 84) n np k0) (hfr : g 83 12 = I ((0 : Nat) : Int)) :
    ∃ g', f_X12_layOrder (g, RF p q w v ds) 83 = some ((), (g', RF p q w v ds)) ∧ ROM g' (VV (uo (g 84) k0 (owM n (g 84) (g 86) 0) (am (g 84))) (pc 6 (slM np (g 86))) (slM np (g 86)) (tkM n (g 86)) 0 [] (-1, [])) ∧ OF 0 (uc (uc (uc (uc g 83 (upd (g 83) 23 (-1))) 93 (upd (g 93) 0 (-1))) 94 (upd (g 94) 0 (tkM n (g 86)))) 95 (upd (g 95) 0 0)) g' := by
  have hnp := hM.2.2.2.1
  have hn := hM.2.1
  have hL := slM_lo (T := g 86) hnp
  have h6 := pc_le 6 (slM np (g 86))
  obtain ⟨m, hm⟩ : ∃ m, m = pc 6 (slM np (g 86)) := ⟨_, rfl⟩
  rw [← hm] at h6 ⊢
  obtain ⟨g1, hg1⟩ : ∃ g1, g1 = uc g 83 (upd (g 83) 23 (-1)) := ⟨_, rfl⟩
  obtain ⟨g2, hg2⟩ : ∃ g2, g2 = uc g1 93 (upd (g 93) 0 (-1)) := ⟨_, rfl⟩
  obtain ⟨g3, hg3⟩ : ∃ g3, g3 = uc g2 94 (upd (g 94) 0 (tkM n (g 86))) := ⟨_, rfl⟩
  obtain ⟨g4, hg4⟩ : ∃ g4, g4 = uc g3 95 (upd (g 95) 0 0) := ⟨_, rfl⟩
  rw [← hg1, ← hg2, ← hg3, ← hg4]
  have s4 : Sb [83, 93, 94, 95] g g4 := by rw [hg4, hg3, hg2, hg1]; exact (((Sb.rf.uc (by decide)).uc (by decide)).uc (by decide)).uc (by decide)
  have s2 : Sb [83, 93] g g2 := by rw [hg2, hg1]; exact (Sb.rf.uc (by decide)).uc (by decide)
  have s3 : Sb [83, 93, 94] g g3 := by rw [hg3]; exact (s2.mono (by decide)).uc (by decide)
  have f83 : g4 83 = upd (g 83) 23 (-1) := by rw [hg4, uc_n (by decide), hg3, uc_n (by decide), hg2, uc_n (by decide), hg1, uc_s]
  obtain ⟨g', e, c2, c3⟩ := M_lo1 (p := p) (q := q) (w := w) (v := v) (ds := ds) (g := g4) (T0 := g 86) (left := slM np (g 86)) (T := tkM n (g 86)) (m := m) hM (by omega) hm.symm hL (by rw [hg4, uc_n (by decide), hg3, uc_n (by decide), hg2, uc_s, upd_s]; rfl) (by rw [hg4, uc_n (by decide), hg3, uc_s, upd_s]) (by rw [hg4, uc_s, upd_s]; rfl) (by rw [f83, upd_s]; rfl) ⟨s4 84 (by decide), s4 86 (by decide), by rw [f83, upd_n (by decide)]; exact hfr⟩
  have e : f_X12_layOrder_41 FU (g4, RF p q w v ds) 83 (slM np (g 86)) (I m) 0 = _ := e
  refine ⟨g', ?_, c2, c3⟩
  have ms := M_silent (p := p) (q := q) (w := w) (v := v) (ds := ds) (g := g) (np := np) hM.2.2.1
  have mt := M_taken (p := p) (q := q) (w := w) (v := v) (ds := ds) (g := g2) (n := n) hn.2 (by rw [s2 84 (by decide)]; exact hM.1)
  rw [s2 86 (by decide)] at mt
  have eb : pc 24 (slM np (g 86)) = m := by rw [hm]; exact pc_lo6 hnp hL (by decide)
  have mb : f_X12_bits (g, RF p q w v ds) (slM np (g 86)) = some (I (m : Int), (g, RF p q w v ds)) := by rw [Mbits, eb]
  unfold f_X12_layOrder
  revert ms mt mb e
  generalize f_X12_layOrder_41 FU = lf
  generalize f_X12_silent = f1
  generalize f_X12_taken = f2
  generalize f_X12_bits = f3
  intro e ms mt mb
  rw [gd_t (show kd 83 = 12 from rfl), ms, bd_w, mb, bd_w, lt_w, ← hg1]
  have e93 : g1 93 = g 93 := by rw [hg1, uc_n (by decide)]
  have e94 : g2 94 = g 94 := s2 94 (by decide)
  have e95 : g3 95 = g 95 := s3 95 (by decide)
  have ci : (0 : Int32).toNatClampNeg = 0 := by decide
  have i7 : inr (0 : Int32) 7 = true := by decide
  simp only [r_83_1, r_83_2, r_83_3, r_83_4, r_83_6, r_83_8, r_83_11, r_83_13, r_83_15, r_83_19, r_83_20, r_83_21, r_83_22, r_83_24, r_83_25, r_83_26, r_83_28, r_83_29, k_83, n_83, k_84, n_84, k_85, n_85, k_86, n_86, k_87, n_87, k_88, n_88, k_89, n_89, k_90, n_90, k_91, n_91, k_92, n_92, k_93, n_93, k_94, n_94, k_95, n_95, k_96, n_96, k_97, n_97, k_98, n_98, k_99, n_99, k_100, n_100, k_101, n_101, ci, i7, gd, if_true, reduceIte]
  rw [lt_w, e93, ← hg2]
  simp only [mt, bd_w, if_true, reduceIte, r_83_1, r_83_2, r_83_3, r_83_4, r_83_6, r_83_8, r_83_11, r_83_13, r_83_15, r_83_19, r_83_20, r_83_21, r_83_22, r_83_24, r_83_25, r_83_26, r_83_28, r_83_29, k_83, n_83, k_84, n_84, k_85, n_85, k_86, n_86, k_87, n_87, k_88, n_88, k_89, n_89, k_90, n_90, k_91, n_91, k_92, n_92, k_93, n_93, k_94, n_94, k_95, n_95, k_96, n_96, k_97, n_97, k_98, n_98, k_99, n_99, k_100, n_100, k_101, n_101, i7]
  rw [lt_w, e94, ← hg3]
  simp only [r_83_1, r_83_2, r_83_3, r_83_4, r_83_6, r_83_8, r_83_11, r_83_13, r_83_15, r_83_19, r_83_20, r_83_21, r_83_22, r_83_24, r_83_25, r_83_26, r_83_28, r_83_29, k_83, n_83, k_84, n_84, k_85, n_85, k_86, n_86, k_87, n_87, k_88, n_88, k_89, n_89, k_90, n_90, k_91, n_91, k_92, n_92, k_93, n_93, k_94, n_94, k_95, n_95, k_96, n_96, k_97, n_97, k_98, n_98, k_99, n_99, k_100, n_100, k_101, n_101, i7, if_true, reduceIte]
  rw [lt_w, e95, ← hg4]
  exact e
end T
theorem S_order : Sp1 Inv f_X11_order f_X12_order := by
  rintro h a ⟨g, p, q, w, v, ds, n, np, kind, rfl, hV⟩
  have hM := hV.pw
  have hn := hM.2.1
  have hnp := hM.2.2.2.1
  have cB : (a < (-1 : Int32)) = (a.toInt < -1) := lt_out (z := -1) (by omega)
  have cS : (a < (6 : Int32)) = (a.toInt < 6) := lt_out (z := 6) (by omega)
  by_cases hc : -1 ≤ a.toInt ∧ a.toInt < 6
  · obtain ⟨g1, n1, n2, n3, n4, n5, n6⟩ := X_now (p := p) (q := q) (w := w) (v := v) (ds := ds) hV.2.2.2.1
    have hL := slM_lo (T := g 86) hnp
    obtain ⟨g2, f1, f2, f3, f4⟩ := X_fo (p := p) (q := q) (w := w) (v := v) (ds := ds) (T0 := g 86) hM hL n3.2.2.2.2.2 n4
    rw [n6] at f4
    have hX : XK q g g2 := ((n2.mono (B := QC) (by decide)).tr (f3.mono (B := QC) (by decide))).qc
    have hS := MS.of hV hX
    obtain ⟨g3, t1', t2, t3⟩ := M_lo (p := p) (q := q) (w := w) (v := v) (ds := ds) (g := th g2) (n := n) (np := np) (k0 := kind) (by rw [hS.1]; exact hM) hS.2.2
    rw [hS.1, hS.2.1] at t2
    have hvl := VV_len (u := uo (g 84) kind (owM n (g 84) (g 86) 0) (am (g 84))) (pc 6 (slM np (g 86))) (slM np (g 86)) (tkM n (g 86)) 0 [] (-1, []) rfl
    obtain ⟨V, hVd⟩ : ∃ V, V = VV (uo (g 84) kind (owM n (g 84) (g 86) 0) (am (g 84))) (pc 6 (slM np (g 86))) (slM np (g 86)) (tkM n (g 86)) 0 [] (-1, []) := ⟨_, rfl⟩
    rw [← hVd] at hvl f4 t2
    obtain ⟨m, hm⟩ : ∃ m, m = pc 6 (slM np (g 86)) := ⟨_, rfl⟩
    have hlen : V.2.length = m := by
      rcases hvl.1 with z | z
      · exfalso
        have := hvl.2.2.1
        rw [z] at this
        have : ((0 : Nat) : Int) ≤ -1 := this
        omega
      · rw [z, hm]; show 0 + _ = _; omega
    have h6 := pc_le 6 (slM np (g 86))
    rw [← hm] at h6
    have e32 : pc 32 (slM np (g 86)) = m := by rw [hm]; exact pc_lo6 hnp hL (by decide)
    have e24 : pc 24 (slM np (g 86)) = m := by rw [hm]; exact pc_lo6 hnp hL (by decide)
    have e84 : g3 84 = g 84 := by rw [t3.2.2.2 84 (by decide), uc_n (by decide), uc_n (by decide), uc_n (by decide), uc_n (by decide)]; exact hS.1
    have e86 : g3 86 = g 86 := by rw [t3.2.2.2 86 (by decide), uc_n (by decide), uc_n (by decide), uc_n (by decide), uc_n (by decide)]; exact hS.2.1
    have hMK : MK (th g2) g3 := by
      constructor
      · exact Sb.tr ((((Sb.rf.uc (by decide)).uc (by decide)).uc (by decide)).uc (by decide)) (t3.2.2.2.mono (by decide))
      · intro j hj
        have hj2 : j ≠ 23 ∧ (j < 16 ∨ 18 < j) := by
          unfold S83 at hj
          simp only [List.mem_cons, List.not_mem_nil, or_false] at hj
          omega
        rw [t3.2.2.1 j hj2.1 hj2.2, uc_n (by decide), uc_n (by decide), uc_n (by decide), uc_s, upd_n hj2.1]
    have K : Inv (g3, RF p q w v ds) := hV.q1 hX f2 ((th_mk g2).tr hMK)
    have ms := M_silent (p := p) (q := q) (w := w) (v := v) (ds := ds) (g := g3) (np := np) (by rw [e84]; exact hM.2.2.1)
    rw [e86] at ms
    have w75 : g2 75 0 = slM np (g 86) := by rw [f3 75 (by decide)]; exact n4.1
    have hX0 : ∀ r : Int32, (if 0 ≤ a then (if I (m : Int) ≤ a then some ((-4 : Int32), (g2, RF p q w v ds)) else gd (inr a 6 = true) (some (g2 79 a.toNatClampNeg, (g2, RF p q w v ds)))) else some (g2 78 4, (g2, RF p q w v ds))) = some (r, (g2, RF p q w v ds)) → f_X11_order (g, RF p q w v ds) 1 a = some (r, (g2, RF p q w v ds)) := fun r hr => by
      unfold f_X11_order
      revert f1 n1
      generalize f_X1_findOrder = fo
      generalize f_X11_sceneNow = sn
      intro n1 f1
      rw [gd_t (show kd 1 = 11 from rfl), if_neg (by rw [cB]; omega), if_pos (by rw [cS]; omega), n1, bd_w, gd_t (show kd 75 = 6 from rfl)]
      simp only [r_1_0, r_1_1, r_1_2, r_1_3, r_1_4, r_1_5, r_1_6, r_1_7, r_1_8, r_1_9, r_1_10, r_1_11, k_1, n_1, r_75_5, r_75_6, r_78_5, r_78_6, r_78_7, r_78_8, r_78_9, k_75, n_75, k_76, n_76, k_77, n_77, k_78, n_78, k_79, n_79, k_80, n_80, k_81, n_81, k_82, n_82, gd, if_true, reduceIte, f1, bd_w, w75, Xbc, e32]
      exact hr
    have hM0 : ∀ r : Int32, (if 0 ≤ a then (if I (m : Int) ≤ a then some ((-4 : Int32), (g3, RF p q w v ds)) else gd (inr a 6 = true) (some (g3 96 a.toNatClampNeg, (g3, RF p q w v ds)))) else some (g3 83 23, (g3, RF p q w v ds))) = some (r, (g3, RF p q w v ds)) → f_X12_order (g2, RF p q w v ds) 83 a = some (r, (g3, RF p q w v ds)) := fun r hr => by
      unfold f_X12_order
      revert t1'
      generalize f_X12_layOrder = lo
      intro t1'
      rw [gd_t (show kd 83 = 12 from rfl), th_lt, M_in, bd_w, Int32.toInt_toInt64, show (-1 : Int64).toInt = -1 by decide, show (5 : Int64).toInt = 5 by decide, if_pos (show -1 ≤ a.toInt ∧ a.toInt ≤ 5 by omega), if_neg (by decide), t1', bd_w, ms, bd_w, Mbits, bd_w, e24]
      simp only [r_83_1, r_83_2, r_83_3, r_83_4, r_83_6, r_83_8, r_83_11, r_83_13, r_83_15, r_83_19, r_83_20, r_83_21, r_83_22, r_83_24, r_83_25, r_83_26, r_83_28, r_83_29, k_83, n_83, k_84, n_84, k_85, n_85, k_86, n_86, k_87, n_87, k_88, n_88, k_89, n_89, k_90, n_90, k_91, n_91, k_92, n_92, k_93, n_93, k_94, n_94, k_95, n_95, k_96, n_96, k_97, n_97, k_98, n_98, k_99, n_99, k_100, n_100, k_101, n_101, gd, if_true, reduceIte]
      exact hr
    by_cases ha : a.toInt < 0
    · have ha0 : ¬ 0 ≤ a := by rw [show (0 : Int32) = I 0 from rfl, ge_out (by omega)]; omega
      refine ⟨I V.1, (g2, RF p q w v ds), (g3, RF p q w v ds), hX0 _ ?_, hM0 _ ?_, K⟩
      · rw [if_neg ha0, f4.1]
      · rw [if_neg ha0, t2.1]
    · obtain ⟨t, t1, rfl⟩ := per_c (a := a) (n := 6) ⟨by omega, hc.2⟩
      have ha0 : 0 ≤ I (t : Int) := (I_le (a := 0) (by omega) (by omega)).mpr (by omega)
      by_cases hmt : m ≤ t
      · have c1 : I (m : Int) ≤ I (t : Int) := (I_le (by omega) (by omega)).mpr (by omega)
        refine ⟨-4, (g2, RF p q w v ds), (g3, RF p q w v ds), hX0 _ ?_, hM0 _ ?_, K⟩
        · rw [if_pos ha0, if_pos c1]
        · rw [if_pos ha0, if_pos c1]
      · have c1 : ¬ I (m : Int) ≤ I (t : Int) := fun z => by have := (I_le (by omega) (by omega)).mp z; omega
        refine ⟨I ((V.2.getD t 0 : Nat) : Int), (g2, RF p q w v ds), (g3, RF p q w v ds), hX0 _ ?_, hM0 _ ?_, K⟩
        · rw [if_pos ha0, if_neg c1, gd_t (I_in (show t < 6 by omega) (by decide)), I_ix (show t < 1000000 by omega), f4.2.2.2 t (by omega)]
        · rw [if_pos ha0, if_neg c1, gd_t (I_in (show t < 6 by omega) (by decide)), I_ix (show t < 1000000 by omega), t2.2.2.2 t (by omega)]
  · refine ⟨-1, (g, RF p q w v ds), (th g, RF p q w v ds), ?_, ?_, hV.ask (th_mk g)⟩
    · unfold f_X11_order
      generalize f_X1_findOrder = fo
      generalize f_X11_sceneNow = sn
      rw [gd_t (show kd 1 = 11 from rfl)]
      by_cases h1 : a.toInt < -1
      · rw [if_pos (by rw [cB]; exact h1)]
      · rw [if_neg (by rw [cB]; exact h1), if_neg (by rw [cS]; omega)]
    · unfold f_X12_order
      generalize f_X12_layOrder = lo
      rw [gd_t (show kd 83 = 12 from rfl), th_lt, M_in, bd_w, Int32.toInt_toInt64, show (-1 : Int64).toInt = -1 by decide, show (5 : Int64).toInt = 5 by decide, if_neg (show ¬ (-1 ≤ a.toInt ∧ a.toInt ≤ 5) by omega), if_pos rfl]
