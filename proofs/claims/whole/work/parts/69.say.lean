/-! say -/
theorem M_say_lp {p q w v : Nat} {ds : Nat → Nat} {G : Nat → Nat → Int32} {n m : Nat} {i : Int32} (hn : n ≤ 24) (hW : WW G (G 91) n m) (h0 : G 83 14 = I m) : ∀ (r fu k : Nat), r < fu → k + r = m →
    ∃ fu', f_X12_say_19 fu (G, RF p q w v ds) 83 i (setW (G 91) k) (I k) = f_X12_say_19 (fu' + 1) (G, RF p q w v ds) 83 i (setW (G 91) m) (I m) := by
  have hm := hW.1
  intro r
  induction r with
  | zero =>
    intro fu k hf hk
    obtain ⟨fu, rfl⟩ : ∃ k, fu = k + 1 := ⟨fu - 1, by omega⟩
    have : k = m := by omega
    subst this
    exact ⟨fu, rfl⟩
  | succ r ih =>
    intro fu k hf hk
    obtain ⟨fu, rfl⟩ : ∃ k, fu = k + 1 := ⟨fu - 1, by omega⟩
    have c1 : ¬ I (m : Int) ≤ I (k : Int) := by rw [I_len (by omega) (by omega)]; omega
    have hk' := hW.2 k (by omega)
    obtain ⟨fu', e⟩ := ih fu (k + 1) (by omega) (by omega)
    refine ⟨fu', ?_⟩
    rw [← e]
    clear e
    rw [f_X12_say_19]
    generalize f_X12_keepDay = kf
    generalize f_X12_take = tf
    simp only [h0, if_neg c1, r_83_1, r_83_2, r_83_3, r_83_4, r_83_6, r_83_8, r_83_11, r_83_13, r_83_15, r_83_19, r_83_20, r_83_21, r_83_22, r_83_24, r_83_25, r_83_26, r_83_28, r_83_29, k_83, n_83, k_84, n_84, k_85, n_85, k_86, n_86, k_87, n_87, k_88, n_88, k_89, n_89, k_90, n_90, k_91, n_91, k_92, n_92, k_93, n_93, k_94, n_94, k_95, n_95, k_96, n_96, k_97, n_97, k_98, n_98, k_99, n_99, k_100, n_100, k_101, n_101, gd, if_true, reduceIte, tk2, I_in (show 2 * k < 20 by omega) (show 20 < 1000000 by decide), I_ix (show 2 * k < 1000000 by omega), hk'.2.2.1, b1_eq hk'.1.1, I_s]
    rfl
theorem sub_myM {n i : Nat} {M T : Nat → Int32} {set : Int32} (hn : n ≤ 24) (h : set &&& (myM n M T i ^^^ (-1)) = 0) : LO n set ∧ ∀ j, j < 24 → bt set j = true → T (3 + j) = I (-4) := by
  refine ⟨fun j h1 h2 => ?_, fun j hj hb => (my_free hn (by omega) (sub_bt h (by omega) hb)).2⟩
  apply Bool.eq_false_iff.mpr
  intro hb
  have := my_free hn h2 (sub_bt h h2 hb)
  omega
theorem S_say : Sp1 Inv f_X11_say f_X12_say := by
  rintro h a ⟨g, p, q, w, v, ds, n, np, kind, rfl, hV⟩
  obtain ⟨kp, k1, k2, k3, l1, l2, l3⟩ := Pk hV.p
  obtain ⟨r5, r6, r7⟩ := Pr hV.p q w v ds
  have hn := hV.pw.2.1
  have hnp := hV.pw.2.2.2.1
  have hk3 := hV.pw.2.2.2.2.2.1
  have e0 : g p 1 = I np := by rw [hV.pr.1 1 (by decide)]; exact hV.pw.2.2.1
  have xN := X_isPerson (p := p) (q := q) (w := w) (v := v) (ds := ds) kp e0 hnp a
  have mN : ∀ (ds : Nat → Nat) (G : Nat → Nat → Int32), G 84 = g 84 → f_X12_noOne (G, RF p q w v ds) 83 a = some (if 0 ≤ a.toInt ∧ a.toInt < np then 0 else 1, (G, RF p q w v ds)) := fun ds G e => M_noOne (by rw [e]; exact hV.pw.2.2.1) hnp a
  have z1 : ¬ (1 : Int32) = 0 := by decide
  have ek : g p 2 = I kind := by rw [hV.pr.1 2 (by decide)]; exact hV.pw.2.2.2.2.1
  by_cases hc : 0 ≤ a.toInt ∧ a.toInt < np
  · obtain ⟨i, hi, rfl⟩ := per_c hc
    rw [if_pos hc] at xN
    obtain ⟨a1, a2⟩ := am_e hV.pw hi
    have ea : g (p + 3) i = I (am (g 84) i) := by rw [hV.pr.2.2.2 i (by omega)]; exact a1
    have eb : g 13 2 = g 86 2 := hV.dr.1.1
    obtain ⟨mw, hW, w1, w2, w3⟩ := hV.2.2.2.2.2.2.2.2.1.ww hn.2
    obtain ⟨g1, n1, n2, n3, n4, n5, n6⟩ := X_now (p := p) (q := q) (w := w) (v := v) (ds := ds) hV.2.2.2.1
    have em : g1 75 3 ||| g1 77 i = owM n (g 84) (g 86) 0 i := (n4.2.2.2.1 i (by omega)).1
    have eb1 : g1 13 2 = g 86 2 := by rw [n2 13 (by decide)]; exact eb
    obtain ⟨SET, hSET⟩ : ∃ S, S = setW (g 91) mw := ⟨_, rfl⟩
    obtain ⟨SUM, hSUM⟩ : ∃ S, S = sumW (g 91) mw := ⟨_, rfl⟩
    obtain ⟨IS, hIS⟩ : ∃ S, S = isS (g 91) kind mw := ⟨_, rfl⟩
    obtain ⟨MY, hMY⟩ : ∃ S, S = myM n (g 84) (g 86) i := ⟨_, rfl⟩
    have xs := X_set (p := p) (q := q) (w := w) (v := v) (ds := ds) hn.2 hW w1 w3
    have xm := X_sum (p := p) (q := q) (w := w) (v := v) (ds := ds) hn.2 hW w1 w3
    have xa := X_saying (p := p) (q := q) (w := w) (v := v) (ds := ds) hk3 hn.2 hW w1 w3
    rw [← hSET] at xs
    rw [← hSUM] at xm
    rw [← hIS] at xa
    have c62 : ∀ t0 : Int32, f_X11_say_62 (g, RF p q w v ds) 1 (I i) SET t0 = if SET &&& (MY ^^^ (-1)) = 0 then f_X11_say_90 (g1, RF p q w v ds) 1 (I i) SET t0 1 else f_X11_say_90 (g1, RF p q w v ds) 1 (I i) SET t0 0 := by
      intro t0
      unfold f_X11_say_62
      generalize f_X11_say_90 = sf
      simp only [n1, bd_w, r_1_0, r_1_1, r_1_2, r_1_3, r_1_4, r_1_5, r_1_6, r_1_7, r_1_8, r_1_9, r_1_10, r_1_11, k_1, n_1, k_75, k_13, gd, if_true, reduceIte, X_tk n3, X_mayUse (show i < 6 by omega), em]
      rw [hMY]
      rfl
    have X0 : f_X11_say (g, RF p q w v ds) 1 (I i) = if IS = true ∧ SUM = I (am (g 84) i) then f_X11_say_62 (g, RF p q w v ds) 1 (I i) SET 1 else f_X11_say_62 (g, RF p q w v ds) 1 (I i) SET 0 := by
      unfold f_X11_say f_X11_say_61
      generalize f_X11_say_62 = sf
      simp only [r_1_0, r_1_1, r_1_2, r_1_3, r_1_4, r_1_5, r_1_6, r_1_7, r_1_8, r_1_9, r_1_10, r_1_11, k_1, n_1, k_50, kp, gd, if_true, reduceIte, xN, bd_w, if_neg z1, xs, ek, xa, xm, r7, k3, l3, I_in (show i < 6 by omega) (show 6 < 1000000 by decide), I_ix (show i < 1000000 by omega), ea]
      cases IS with
      | false => rw [if_pos (by decide), if_neg (fun z => absurd z.1 (by decide))]
      | true =>
        rw [if_neg (by decide)]
        by_cases c : SUM = I (am (g 84) i)
        · rw [if_pos c, if_pos ⟨rfl, c⟩]
        · rw [if_neg c, if_neg (fun z => c z.2)]
    have M0 : ∀ (ds : Nat → Nat) (G : Nat → Nat → Int32), MS (th G) g → th G 91 = g 91 → th G 83 14 = I mw → f_X12_say (G, RF p q w v ds) 83 (I i) = if (IS = true ∧ SUM = I (am (g 84) i)) ∧ SET &&& (MY ^^^ (-1)) = 0 ∧ bt (g 86 2) i = false then bd (f_X12_keepDay (th G, RF p q w v ds) 83) (fun r17 h18 => bd (f_X12_take h18 83 (I i) SET) (fun r20 h21 => bd (f_X12_priceOfWords h21 83) (fun r23 h24 => some (r23, h24)))) else some (-2, (th G, RF p q w v ds)) := by
      intro ds G hG e91 e14
      have mN := mN ds (th G) hG.1
      rw [if_pos hc] at mN
      have hWG : WW (th G) (th G 91) n mw := by rw [e91]; exact hW.th
      obtain ⟨fu', lp⟩ := M_say_lp (p := p) (q := q) (w := w) (v := v) (ds := ds) (i := I i) hn.2 hWG e14 mw FU 0 (FU_lt (by have := hW.1; omega)) (by omega)
      have s1 := M_saying (p := p) (q := q) (w := w) (v := v) (ds := ds) (by rw [hG.1]; exact hV.pw) hWG e14
      have s2 := M_sum (p := p) (q := q) (w := w) (v := v) (ds := ds) hn.2 hWG e14
      rw [e91] at lp s1 s2
      rw [← hSET] at lp
      rw [← hIS] at s1
      rw [← hSUM] at s2
      have mm := M_mayOf (p := p) (q := q) (w := w) (v := v) (ds := ds) (g := th G) (n := n) (fr := 0) (i := i) hn.2 (by decide) (by rw [hG.1]; exact hV.pw.1) hG.2.2
      rw [hG.1, hG.2.1] at mm
      have mm : f_X12_mayOf (th G, RF p q w v ds) 83 (I i) = some (myM n (g 84) (g 86) i, (th G, RF p q w v ds)) := mm
      rw [← hMY] at mm
      have e53 : (53 : Int32) + I (i : Int) = I ((53 + i : Nat) : Int) := by show I ((53 : Nat) : Int) + _ = _; rw [I_k]
      have lp : f_X12_say_19 FU (th G, RF p q w v ds) 83 (I i) 0 0 = _ := lp
      unfold f_X12_say
      revert lp
      generalize f_X12_say_19 FU = lf
      intro lp
      rw [gd_t (show kd 83 = 12 from rfl), th_lt, mN, bd_w, if_pos rfl, lp]
      clear lp
      rw [f_X12_say_19]
      generalize f_X12_keepDay = kf
      generalize f_X12_take = tf
      simp only [e14, if_pos (show I (mw : Int) ≤ I (mw : Int) by rw [I_len (by have := hW.1; omega) (by have := hW.1; omega)]; exact Nat.le_refl _), s1, bd_w]
      cases IS with
      | false => rw [if_pos (by decide), if_neg (fun z => absurd z.1.1 (by decide))]
      | true =>
        rw [if_neg (by decide)]
        simp only [s2, bd_w, r_83_1, r_83_2, r_83_3, r_83_4, r_83_6, r_83_8, r_83_11, r_83_13, r_83_15, r_83_19, r_83_20, r_83_21, r_83_22, r_83_24, r_83_25, r_83_26, r_83_28, r_83_29, k_83, n_83, k_84, n_84, k_85, n_85, k_86, n_86, k_87, n_87, k_88, n_88, k_89, n_89, k_90, n_90, k_91, n_91, k_92, n_92, k_93, n_93, k_94, n_94, k_95, n_95, k_96, n_96, k_97, n_97, k_98, n_98, k_99, n_99, k_100, n_100, k_101, n_101, gd, ci_0, ci_1, ci_2, ci_3, ci_4, ii_0, ii_1, ii_2, ii_3, ii_4, id_0, id_1, id_2, if_true, reduceIte, hG.1, hG.2.1, e53, I_in (show 53 + i < 59 by omega) (show 59 < 1000000 by decide), I_ix (show 53 + i < 1000000 by omega), a1, mm, M_has _ _ (show i < 32 by omega)]
        by_cases c : SUM = I (am (g 84) i)
        · rw [if_pos c]
          by_cases d : SET &&& (MY ^^^ (-1)) = 0
          · rw [if_pos d]
            cases bt (g 86 2) i with
            | false => rw [if_pos (by decide), if_pos ⟨⟨trivial, c⟩, d, rfl⟩]
            | true => rw [if_neg (by decide), if_neg (fun z => by simp at z)]
          · rw [if_neg d, if_neg (fun z => d z.2.1)]
        · rw [if_neg c, if_neg (fun z => c z.1.2)]
    have hX1 : XK q g g1 := n2.xk (by decide)
    by_cases hy : (IS = true ∧ SUM = I (am (g 84) i)) ∧ SET &&& (MY ^^^ (-1)) = 0 ∧ bt (g 86 2) i = false
    · rw [if_pos hy.1, c62, if_pos hy.2.1] at X0
      obtain ⟨hset, hfr⟩ := sub_myM (n := n) (i := i) (M := g 84) (T := g 86) (set := SET) hn.2 (by rw [← hMY]; exact hy.2.1)
      obtain ⟨m, m1, m2, m3, m4⟩ := hV.2.2.2.2.2.2.1
      obtain ⟨g2, ds', c1, c2, c3, c4, c5, c6, c7⟩ := X_pk (p := p) (q := q) (w := w) (v := v) (ds := ds) hV (n2.mono (by decide)) m1 m2 (fun k hk => (m4 k hk).1)
      have hSX2 : SX (g 84) n g2 := n3.2.2.2.2.2.same (fun a h1 h2 => c4 a (by unfold DAYS; simp only [List.mem_cons, List.not_mem_nil, or_false]; omega))
      obtain ⟨g3, hg3⟩ : ∃ g3, g3 = uc (uc g2 14 (upd (g2 14) i (g2 14 i ||| SET))) 13 (upd (g2 13) 2 (g2 13 2 ||| b1 i)) := ⟨_, rfl⟩
      have tk := X_take (p := p) (q := q) (w := w) (v := v) (ds := ds') (g := g2) (show i < 6 by omega) SET
      rw [← hg3] at tk
      have s3 : Sb [13, 14] g2 g3 := by rw [hg3]; exact (Sb.rf.uc (by decide)).uc (by decide)
      have sX : Sb DX g g3 := Sb.tr c3 (s3.mono (by decide))
      have ep : ∀ k, k < 4 → g3 (p + k) = g (p + k) := fun k hk => sX _ (by have := hV.p; unfold DX; simp only [List.mem_cons, List.not_mem_nil, or_false]; omega)
      have xp := X_prices (p := p) (q := q) (w := w) (v := v) (ds := ds') (g := g3) (W := g 91) (m := mw) hV.p hV.pw (by rw [ep 1 (by decide), ep 2 (by decide), ep 3 (by decide), show g3 p = g p from ep 0 (by decide)]; exact hV.pr) hW.th (by rw [sX 50 (by decide)]; exact w1) (fun k hk => by rw [sX 51 (by decide), sX 52 (by decide)]; exact w3 k hk)
      have X1 : f_X11_say (g, RF p q w v ds) 1 (I i) = some (priW (g 91) (g 84) mw, (g3, RF p q w v ds')) := by
        rw [X0]
        unfold f_X11_say_90
        revert c1 tk
        generalize f_X3_push = pf
        generalize f_X2_take = tf
        intro c1 tk
        rw [if_neg z1, if_neg z1]
        simp only [r_1_0, r_1_1, r_1_2, r_1_3, r_1_4, r_1_5, r_1_6, r_1_7, r_1_8, r_1_9, r_1_10, r_1_11, k_1, n_1, k_13, k_16, k_50, kp, gd, if_true, reduceIte, eb1, X_hasBit _ _ (show i < 32 by omega), hy.2.2, bd_w, Bool.false_eq_true, if_false, c1, tk, xp]
      have hS : MS (th g3) g := ⟨by rw [th_n (by decide)]; exact sX 84 (by decide), by rw [th_n (by decide)]; exact sX 86 (by decide), by rw [th_83 (by decide), sX 83 (by decide)]; exact hV.2.2.2.2.1⟩
      have M1 := M0 ds' g3 hS (by rw [th_n (by decide)]; exact sX 91 (by decide)) (by rw [th_83 (by decide), sX 83 (by decide)]; exact w2)
      rw [if_pos hy] at M1
      have e5 : th g3 83 5 = I m := by rw [th_83 (by decide), sX 83 (by decide)]; exact m3
      obtain ⟨g5, d1, d2, d3, d4, d5⟩ := M_keepDay (p := p) (q := q) (w := w) (v := v) (ds := ds') m1 e5
      rw [hS.2.1, show th g3 87 = g 87 by rw [th_n (by decide)]; exact sX 87 (by decide)] at d5
      have e584 : g5 84 = g 84 := by rw [d2 84 (by decide)]; exact hS.1
      obtain ⟨g6, f1, f2, f3⟩ := M_take (p := p) (q := q) (w := w) (v := v) (ds := ds') (i := i) (set := SET) hn.2 hset (show g5 84 0 = I n by rw [e584]; exact hV.pw.1)
      have e586 : g5 86 = g 86 := by rw [d2 86 (by decide)]; exact hS.2.1
      rw [e586] at f3
      have e691 : g6 91 = g 91 := by rw [f2 91 (by decide), d2 91 (by decide), th_n (by decide)]; exact sX 91 (by decide)
      have e684 : g6 84 = g 84 := by rw [f2 84 (by decide)]; exact e584
      have mp := M_prices (p := p) (q := q) (w := w) (v := v) (ds := ds') (g := g6) (n := n) (m := mw) (by rw [e684]; exact hV.pw) (by rw [e691]; exact hW.th) (by rw [f2 83 (by decide), d4 14 (by decide), th_83 (by decide), sX 83 (by decide)]; exact w2)
      rw [e691, e684] at mp
      have M2 : f_X12_say (g3, RF p q w v ds') 83 (I i) = some (priW (g 91) (g 84) mw, (g6, RF p q w v ds')) := by
        rw [M1]
        revert d1 f1
        generalize f_X12_keepDay = kf
        generalize f_X12_take = tf
        intro d1 f1
        rw [d1, bd_w, f1, bd_w, mp, bd_w]
      refine ⟨_, _, _, X1, M2, g6, p, q, w, v, ds', n, np, kind, rfl, ?_⟩
      refine hV.tkn m1 (fun k hk => (m4 k hk).2) hi hset hfr c3 c2 c5 c6 c7 hSX2 (g3 := g6) ?_ (by rw [f2 83 (by decide)]; exact d3) ?_ ?_ f3
      · rw [← hg3]
        exact Sb.tr (Sb.tr (th_sb g3) (d2.mono (by decide))) (f2.mono (by decide))
      · intro j hj
        rw [f2 83 (by decide), d4 j (fun e => by subst e; revert hj; decide), th_83 (fun e => by subst e; revert hj; decide), sX 83 (by decide)]
      · intro k hk j hj
        rw [f2 87 (by decide)]
        exact d5 k hk j hj
    · have hS := MS.of hV hX1
      have M1 := M0 ds g1 hS (by rw [th_n (by decide)]; exact n2 91 (by decide)) (by rw [th_83 (by decide), hX1.2.2]; exact w2)
      rw [if_neg hy] at M1
      refine ⟨-2, (g1, RF p q w v ds), (th g1, RF p q w v ds), ?_, M1, hV.q1 hX1 n3.2.2.2.2.2 (th_mk g1)⟩
      rw [X0, c62, c62]
      unfold f_X11_say_90
      generalize f_X3_push = pf
      generalize f_X2_take = tf
      by_cases b1' : IS = true ∧ SUM = I (am (g 84) i)
      · rw [if_pos b1']
        by_cases b2 : SET &&& (MY ^^^ (-1)) = 0
        · rw [if_pos b2, if_neg z1, if_neg z1]
          have b3 : bt (g 86 2) i = true := by
            cases hb : bt (g 86 2) i
            · exact absurd ⟨b1', b2, hb⟩ hy
            · rfl
          simp only [r_1_0, r_1_1, r_1_2, r_1_3, r_1_4, r_1_5, r_1_6, r_1_7, r_1_8, r_1_9, r_1_10, r_1_11, k_1, n_1, k_13, gd, if_true, reduceIte, eb1, X_hasBit _ _ (show i < 32 by omega), b3, bd_w, if_neg z1]
        · rw [if_neg b2, if_neg z1, if_pos rfl]
      · rw [if_neg b1', if_pos rfl]
        split <;> rfl
  · refine ⟨-1, (g, RF p q w v ds), (th g, RF p q w v ds), ?_, ?_, hV.ask (th_mk g)⟩
    · unfold f_X11_say
      generalize f_X11_say_62 = sf
      simp only [r_1_0, r_1_1, r_1_2, r_1_3, r_1_4, r_1_5, r_1_6, r_1_7, r_1_8, r_1_9, r_1_10, r_1_11, k_1, n_1, kp, gd, if_true, reduceIte, xN, bd_w, if_neg hc]
    · unfold f_X12_say
      generalize f_X12_say_19 FU = lf
      rw [gd_t (show kd 83 = 12 from rfl), th_lt]
      simp only [mN ds (th g) (th_n (by decide)), bd_w, if_neg hc, if_neg z1]
