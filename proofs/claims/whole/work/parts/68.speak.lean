/-! speak, say -/
theorem IV.tkn {g g1 g3 : Nat → Nat → Int32} {p q w v : Nat} {ds ds' : Nat → Nat} {n np kind m i : Nat} {set : Int32} (hV : IV g p q w v ds n np kind) (hm : m ≤ 8) (hWd : ∀ k, k < m → DW (fun j => g 87 (51 * k + j)) n np) (hi : i < np) (hl : LO n set) (hfree : ∀ j, j < 24 → bt set j = true → g 86 (3 + j) = I (-4))
    (hX : Sb DX g g1) (hds : DSP ds') (h16 : g1 16 0 = I (mn m : Nat)) (hDRs : ∀ k, k < mn m → DR (g1 (ds' k)) (g1 (ds' k + 1)) (g1 (ds' k + 2)) (Wn m (fun k j => g 87 (51 * k + j)) (g 86) k)) (hD : DR (g1 13) (g1 14) (g1 15) (g 86)) (hSX : SX (g 84) n g1)
    (hM : Sb DM (uc (uc g1 14 (upd (g1 14) i (g1 14 i ||| set))) 13 (upd (g1 13) 2 (g1 13 2 ||| b1 i))) g3) (h5 : g3 83 5 = I (mn m : Nat)) (hj : ∀ j, j ∈ [7, 9, 12, 14, 27] → g3 83 j = g 83 j) (h87 : ∀ k, k < mn m → ∀ j, j < 51 → g3 87 (51 * k + j) = Wn m (fun k j => g 87 (51 * k + j)) (g 86) k j) (h86 : ∀ j, j < 51 → g3 86 j = tkT (g 86) set i j) : IV g3 p q w v ds' n np kind := by
  have hn := hV.pw.2.1
  have hnp := hV.pw.2.2.2.1
  have s2 : Sb [13, 14] g1 (uc (uc g1 14 (upd (g1 14) i (g1 14 i ||| set))) 13 (upd (g1 13) 2 (g1 13 2 ||| b1 i))) := (Sb.rf.uc (by decide)).uc (by decide)
  refine hV.after hWd (Sb.tr hX (s2.mono (by decide))) hds (by rw [s2 16 (by decide)]; exact h16) hm (DRs_keep hds s2 (by decide) hDRs) (T' := tkT (g 86) set i) ?_ (DW_take hV.dw hn.2 hl hi hnp) (hSX.same (fun a h1 h2 => s2 a (by simp only [List.mem_cons, List.not_mem_nil, or_false]; omega))) hM h5 ?_ h87 h86
  · rw [uc_s, uc_n (show 14 ≠ 13 by decide), uc_s, uc_n (show 15 ≠ 13 by decide), uc_n (show 15 ≠ 14 by decide)]
    exact DR_take hD hn.2 hl hfree (by omega)
  · intro j h
    rw [hj j h, s2 83 (by decide), hX 83 (by decide)]
theorem S_speak : Sp1 Inv f_X11_speak f_X12_speak := by
  rintro h a ⟨g, p, q, w, v, ds, n, np, kind, rfl, hV⟩
  obtain ⟨kp, k1, k2, k3, l1, l2, l3⟩ := Pk hV.p
  obtain ⟨r5, r6, r7⟩ := Pr hV.p q w v ds
  have hn := hV.pw.2.1
  have hnp := hV.pw.2.2.2.1
  have e0 : g p 1 = I np := by rw [hV.pr.1 1 (by decide)]; exact hV.pw.2.2.1
  have xN := X_isPerson (p := p) (q := q) (w := w) (v := v) (ds := ds) kp e0 hnp a
  have mN : ∀ (ds : Nat → Nat) (G : Nat → Nat → Int32), G 84 = g 84 → f_X12_noOne (G, RF p q w v ds) 83 a = some (if 0 ≤ a.toInt ∧ a.toInt < np then 0 else 1, (G, RF p q w v ds)) := fun ds G e => M_noOne (by rw [e]; exact hV.pw.2.2.1) hnp a
  have z1 : ¬ (1 : Int32) = 0 := by decide
  have ek : g 84 2 = I kind := hV.pw.2.2.2.2.1
  by_cases hc : 0 ≤ a.toInt ∧ a.toInt < np
  · obtain ⟨i, hi, rfl⟩ := per_c hc
    rw [if_pos hc] at xN
    obtain ⟨a1, a2⟩ := am_e hV.pw hi
    have ea : g (p + 3) i = I (am (g 84) i) := by rw [hV.pr.2.2.2 i (by omega)]; exact a1
    have eb : g 13 2 = g 86 2 := hV.dr.1.1
    have X0 : f_X11_speak (g, RF p q w v ds) 1 (I i) = if bt (g 86 2) i = true then some (-2, (g, RF p q w v ds)) else bd (f_X11_usedNow (g, RF p q w v ds) 1 (I i) (I (am (g 84) i))) (fun r12 h13 => if r12 = 0 then some (-4, h13) else gd (kd (h13.2 1 4) = 3) (gd (kd (h13.2 1 3) = 2) (bd (f_X3_push h13 (h13.2 1 4) (h13.2 1 3)) (fun r17 h18 => gd (kd (h18.2 1 3) = 2) (bd (f_X2_take h18 (h18.2 1 3) (I i) r12) (fun r21 h22 => bd (f_J6_bitCount_0f7a4 h22 r12) (fun r24 h25 => some (r24, h25)))))))) := by
      unfold f_X11_speak
      generalize f_X3_push = pf
      generalize f_X2_take = tf
      simp only [r_1_0, r_1_1, r_1_2, r_1_3, r_1_4, r_1_5, r_1_6, r_1_7, r_1_8, r_1_9, r_1_10, r_1_11, k_1, n_1, k_13, kp, gd, if_true, reduceIte, xN, bd_w, if_neg z1, r7, k3, l3, I_in (show i < 6 by omega) (show 6 < 1000000 by decide), I_ix (show i < 1000000 by omega), ea, eb, X_hasBit _ _ (show i < 32 by omega)]
      cases bt (g 86 2) i
      · rw [if_pos (by decide), if_neg (by decide)]
      · rw [if_neg (by decide), if_pos rfl]
    have M0 : ∀ (ds : Nat → Nat) (G : Nat → Nat → Int32), MS (th G) g → f_X12_speak (G, RF p q w v ds) 83 (I i) = if bt (g 86 2) i = true then some (-2, (th G, RF p q w v ds)) else bd (f_X12_bestOf (th G, RF p q w v ds) 83 (myM n (g 84) (g 86) i) (I (am (g 84) i)) (I kind)) (fun r18 h19 => if r18 = (-4 : Int32) then some (-4, h19) else bd (f_X12_keepDay h19 83) (fun r21 h22 => bd (f_X12_usedSet h22 83) (fun r24 h25 => bd (f_X12_take h25 83 (I i) r24) (fun r27 h28 => some (r18 / 1000, h28))))) := by
      intro ds G hG
      have mN := mN ds (th G) hG.1
      rw [if_pos hc] at mN
      have mm := M_mayOf (p := p) (q := q) (w := w) (v := v) (ds := ds) (g := th G) (n := n) (fr := 0) (i := i) hn.2 (by decide) (by rw [hG.1]; exact hV.pw.1) hG.2.2
      rw [hG.1, hG.2.1] at mm
      have mm : f_X12_mayOf (th G, RF p q w v ds) 83 (I i) = some (myM n (g 84) (g 86) i, (th G, RF p q w v ds)) := mm
      have e53 : (53 : Int32) + I (i : Int) = I ((53 + i : Nat) : Int) := by show I ((53 : Nat) : Int) + _ = _; rw [I_k]
      unfold f_X12_speak
      generalize f_X12_keepDay = kf
      generalize f_X12_take = tf
      generalize f_X12_bestOf = bf
      rw [gd_t (show kd 83 = 12 from rfl), th_lt]
      simp only [mN, bd_w, if_true, reduceIte, r_83_1, r_83_2, r_83_3, r_83_4, r_83_6, r_83_8, r_83_11, r_83_13, r_83_15, r_83_19, r_83_20, r_83_21, r_83_22, r_83_24, r_83_25, r_83_26, r_83_28, r_83_29, k_83, n_83, k_84, n_84, k_85, n_85, k_86, n_86, k_87, n_87, k_88, n_88, k_89, n_89, k_90, n_90, k_91, n_91, k_92, n_92, k_93, n_93, k_94, n_94, k_95, n_95, k_96, n_96, k_97, n_97, k_98, n_98, k_99, n_99, k_100, n_100, k_101, n_101, gd, ci_0, ci_1, ci_2, ci_3, ci_4, ii_0, ii_1, ii_2, ii_3, ii_4, id_0, id_1, id_2, hG.1, hG.2.1, ek, M_has _ _ (show i < 32 by omega), mm, e53, I_in (show 53 + i < 59 by omega) (show 59 < 1000000 by decide), I_ix (show 53 + i < 1000000 by omega), a1]
      cases bt (g 86 2) i
      · rw [if_pos (by decide), if_neg (by decide)]
      · rw [if_neg (by decide), if_pos rfl]
    by_cases hs : bt (g 86 2) i = true
    · have M1 := M0 ds g (MS.of hV XK.rf)
      rw [if_pos hs] at X0 M1
      exact ⟨_, _, _, X0, M1, hV.ask (th_mk g)⟩
    · rw [if_neg hs] at X0
      obtain ⟨g1, u1, u2, u3, u4⟩ := X_usedNow (p := p) (q := q) (w := w) (v := v) (ds := ds) (a := am (g 84) i) hV.2.2.2.1 hi a2
      rw [u1, bd_w] at X0
      have hset : LO n (us (BT (g 84) kind (myM n (g 84) (g 86) i) (am (g 84) i))) := LO_us (myM_lo hn.2)
      have hfr : ∀ j, j < 24 → bt (us (BT (g 84) kind (myM n (g 84) (g 86) i) (am (g 84) i))) j = true → g 86 (3 + j) = I (-4) := fun j hj hb => (my_free hn.2 (by omega) (us_may (by omega) hb)).2
      by_cases he : BT (g 84) kind (myM n (g 84) (g 86) i) (am (g 84) i) = []
      · rw [if_pos (us_0.mpr he)] at X0
        have hX : XK q g g1 := u2.qc
        have hS := MS.of hV hX
        have M1 := M0 ds g1 hS
        obtain ⟨g2, v1, v2⟩ := M_bo (p := p) (q := q) (w := w) (v := v) (ds := ds) (g := th g1) (may := myM n (g 84) (g 86) i) (by rw [hS.1]; exact hV.pw) hV.pw.2.2.2.2.2.1 (myM_lo hn.2) a2
        rw [hS.1] at v1 v2
        rw [if_neg hs, v1, bd_w, if_pos ((RES_4 (wM_WB hV.pw)).mpr he)] at M1
        exact ⟨_, _, _, X0, M1, hV.q1 hX u3.2.2.2.2.2 ((th_mk g1).tr v2.mf.mk)⟩
      · rw [if_neg (fun z => he (us_0.mp z))] at X0
        have hpc := pc_BS (wt := wM (g 84)) (kind := kind) (a := am (g 84) i) (may := myM n (g 84) (g 86) i)
        have hRn := (RES_n (wM_WB hV.pw) he).1
        have hR4 : ¬ RES (wM (g 84)) (BT (g 84) kind (myM n (g 84) (g 86) i) (am (g 84) i)) = (-4 : Int32) := fun z => he ((RES_4 (wM_WB hV.pw)).mp z)
        obtain ⟨m, m1, m2, m3, m4⟩ := hV.2.2.2.2.2.2.1
        obtain ⟨g2, ds', c1, c2, c3, c4, c5, c6, c7⟩ := X_pk (p := p) (q := q) (w := w) (v := v) (ds := ds) hV u2 m1 m2 (fun k hk => (m4 k hk).1)
        have hSX2 : SX (g 84) n g2 := u3.2.2.2.2.2.same (fun a h1 h2 => c4 a (by unfold DAYS; simp only [List.mem_cons, List.not_mem_nil, or_false]; omega))
        obtain ⟨U, hU⟩ : ∃ U, U = us (BT (g 84) kind (myM n (g 84) (g 86) i) (am (g 84) i)) := ⟨_, rfl⟩
        rw [← hU] at X0 hset hfr hpc
        obtain ⟨g3, hg3⟩ : ∃ g3, g3 = uc (uc g2 14 (upd (g2 14) i (g2 14 i ||| U))) 13 (upd (g2 13) 2 (g2 13 2 ||| b1 i)) := ⟨_, rfl⟩
        have tk := X_take (p := p) (q := q) (w := w) (v := v) (ds := ds') (g := g2) (show i < 6 by omega) U
        rw [← hg3] at tk
        have X1 : f_X11_speak (g, RF p q w v ds) 1 (I i) = some (I (pc 32 U : Nat), (g3, RF p q w v ds')) := by
          rw [X0]
          revert c1 tk
          generalize f_X3_push = pf
          generalize f_X2_take = tf
          intro c1 tk
          simp only [r_1_0, r_1_1, r_1_2, r_1_3, r_1_4, r_1_5, r_1_6, r_1_7, r_1_8, r_1_9, r_1_10, r_1_11, k_1, n_1, k_16, k_13, gd, if_true, reduceIte, c1, bd_w, tk, Xbc]
        have s3 : Sb [13, 14] g2 g3 := by rw [hg3]; exact (Sb.rf.uc (by decide)).uc (by decide)
        have sX : Sb DX g g3 := Sb.tr c3 (s3.mono (by decide))
        have hS : MS (th g3) g := ⟨by rw [th_n (by decide)]; exact sX 84 (by decide), by rw [th_n (by decide)]; exact sX 86 (by decide), by rw [th_83 (by decide), sX 83 (by decide)]; exact hV.2.2.2.2.1⟩
        have M1 := M0 ds' g3 hS
        obtain ⟨g4, v1, v2⟩ := M_bo (p := p) (q := q) (w := w) (v := v) (ds := ds') (g := th g3) (may := myM n (g 84) (g 86) i) (by rw [hS.1]; exact hV.pw) hV.pw.2.2.2.2.2.1 (myM_lo hn.2) a2
        rw [hS.1] at v1 v2
        have e5 : g4 83 5 = I m := by rw [v2.mf.1 5 (by omega), th_83 (by decide), sX 83 (by decide)]; exact m3
        obtain ⟨g5, d1, d2, d3, d4, d5⟩ := M_keepDay (p := p) (q := q) (w := w) (v := v) (ds := ds') m1 e5
        have e486 : g4 86 = g 86 := by rw [v2.mf.2 86 (by decide)]; exact hS.2.1
        have e487 : g4 87 = g 87 := by rw [v2.mf.2 87 (by decide), th_n (by decide)]; exact sX 87 (by decide)
        rw [e486, e487] at d5
        have e584 : g5 84 0 = I n := by rw [d2 84 (by decide), v2.mf.2 84 (by decide), hS.1]; exact hV.pw.1
        obtain ⟨g6, f1, f2, f3⟩ := M_take (p := p) (q := q) (w := w) (v := v) (ds := ds') (i := i) (set := U) hn.2 hset e584
        have e586 : g5 86 = g 86 := by rw [d2 86 (by decide)]; exact e486
        rw [e586] at f3
        have hu : g5 83 16 ||| g5 83 17 ||| g5 83 18 = U := by rw [d4 16 (by decide), d4 17 (by decide), d4 18 (by decide), v2.1, v2.2.1, v2.2.2.1, hU]; rfl
        rw [if_neg hs, v1, bd_w, if_neg hR4, hRn, ← hpc] at M1
        have M2 : f_X12_speak (g3, RF p q w v ds') 83 (I i) = some (I (pc 32 U : Nat), (g6, RF p q w v ds')) := by
          rw [M1]
          revert d1 f1
          generalize f_X12_keepDay = kf
          generalize f_X12_take = tf
          intro d1 f1
          rw [d1, bd_w, M_usedSet, bd_w, hu, f1, bd_w]
        refine ⟨_, _, _, X1, M2, g6, p, q, w, v, ds', n, np, kind, rfl, ?_⟩
        refine hV.tkn m1 (fun k hk => (m4 k hk).2) hi hset hfr c3 c2 c5 c6 c7 hSX2 (g3 := g6) ?_ (by rw [f2 83 (by decide)]; exact d3) ?_ ?_ f3
        · rw [← hg3]
          exact Sb.tr (Sb.tr (Sb.tr (th_sb g3) (v2.mf.2.mono (by decide))) (d2.mono (by decide))) (f2.mono (by decide))
        · intro j hj
          rw [f2 83 (by decide), d4 j (fun e => by subst e; revert hj; decide), v2.mf.1 j (by simp only [List.mem_cons, List.not_mem_nil, or_false] at hj; omega), th_83 (fun e => by subst e; revert hj; decide), sX 83 (by decide)]
        · intro k hk j hj
          rw [f2 87 (by decide)]
          exact d5 k hk j hj
  · refine ⟨-1, (g, RF p q w v ds), (th g, RF p q w v ds), ?_, ?_, hV.ask (th_mk g)⟩
    · unfold f_X11_speak
      generalize f_X3_push = pf
      generalize f_X2_take = tf
      simp only [r_1_0, r_1_1, r_1_2, r_1_3, r_1_4, r_1_5, r_1_6, r_1_7, r_1_8, r_1_9, r_1_10, r_1_11, k_1, n_1, kp, gd, if_true, reduceIte, xN, bd_w, if_neg hc]
    · unfold f_X12_speak
      generalize f_X12_keepDay = kf
      generalize f_X12_take = tf
      generalize f_X12_bestOf = bf
      rw [gd_t (show kd 83 = 12 from rfl), th_lt]
      simp only [mN ds (th g) (th_n (by decide)), bd_w, if_neg hc, if_neg z1]
