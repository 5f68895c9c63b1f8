/-! born, lend -/
def bnT (T : Nat → Int32) (b k : Nat) : Int32 := if k = 0 then I ((b + 1 : Nat) : Int) else if k = 3 + b then I ((7 : Nat) : Int) else T k
theorem DR_born {d0 d1 d2 T : Nat → Int32} {b : Nat} (hD : DR d0 d1 d2 T) (hb : b < 24) (hfree : T (3 + b) = I (-4)) : DR (upd d0 3 (I ((b + 1 : Nat) : Int))) (upd d1 7 (d1 7 ||| b1 b)) d2 (bnT T b) := by
  obtain ⟨a, e, c⟩ := hD
  refine ⟨⟨?_, ?_, ?_⟩, fun k hk j hj => ?_, fun k hk j hj => ?_⟩
  · rw [upd_n (by decide), a.1]; unfold bnT; rw [if_neg (by decide), if_neg (by omega)]
  · rw [upd_s]; rfl
  · rw [upd_n (by decide), a.2.2]; unfold bnT; rw [if_neg (by decide), if_neg (by omega)]
  · have hb' := e k hk j hj
    have eT : bnT T b (3 + j) = if j = b then I ((7 : Nat) : Int) else T (3 + j) := by
      unfold bnT
      rw [if_neg (by omega)]
      by_cases q : j = b
      · rw [if_pos q, if_pos (by omega)]
      · rw [if_neg q, if_neg (by omega)]
    rw [eT]
    by_cases ek : k = 7
    · subst ek
      rw [upd_s, bt_or, hb', bt_b1 (by omega) hj]
      by_cases q : j = b
      · rw [if_pos q, decide_eq_true q, decide_eq_true (show j < 24 by omega), decide_eq_true rfl, Bool.or_true]; rfl
      · rw [if_neg q, decide_eq_false q, Bool.or_false]
    · rw [upd_n ek, hb']
      by_cases q : j = b
      · rw [if_pos q]
        subst q
        have h1 : ¬ I (-4) = I (k : Int) := fun z => I_ne4 (k := k) (by omega) z.symm
        have h2 : ¬ I ((7 : Nat) : Int) = I (k : Int) := fun z => ek ((I_eqn (a := 7) (b := k) (by omega) (by omega)).mp z).symm
        rw [hfree, decide_eq_false h1, decide_eq_false h2]
      · rw [if_neg q]
  · rw [c k hk j hj]
    by_cases q : j < 24
    · have : bnT T b (27 + j) = T (27 + j) := by unfold bnT; rw [if_neg (by omega), if_neg (by omega)]
      rw [this]
    · rw [decide_eq_false q, Bool.false_and, Bool.false_and]
theorem DW_born {T : Nat → Int32} {n np b : Nat} (hW : DW T n np) (hn : n ≤ 24) (hb : b < n) : DW (bnT T b) n np := by
  obtain ⟨a, e, c, d, f⟩ := hW
  have e2 : bnT T b 2 = T 2 := by unfold bnT; rw [if_neg (by decide), if_neg (by omega)]
  have e1 : bnT T b 1 = T 1 := by unfold bnT; rw [if_neg (by decide), if_neg (by omega)]
  refine ⟨fun j h1 h2 => by rw [e2]; exact a j h1 h2, ⟨b + 1, by omega, rfl⟩, by rw [e1]; exact c, fun j hj => ?_, fun j hj => ?_⟩
  · unfold bnT
    rw [if_neg (by omega)]
    by_cases q : j = b
    · rw [if_pos (by omega)]; exact Or.inr ⟨by omega, 7, by decide, rfl⟩
    · rw [if_neg (by omega)]; exact d j hj
  · have : bnT T b (27 + j) = T (27 + j) := by unfold bnT; rw [if_neg (by omega), if_neg (by omega)]
    rw [this]; exact f j hj
theorem I_sp (b : Nat) : I ((b + 1 : Nat) : Int) - 1 = I (b : Int) := by rw [I_p (by omega)]; rfl
theorem S_born : Sp0 Inv f_X11_born f_X12_born := by
  rintro h ⟨g, p, q, w, v, ds, n, np, kind, rfl, hV⟩
  obtain ⟨kp, -⟩ := Pk hV.p
  have hn := hV.pw.2.1
  have hnp := hV.pw.2.2.2.1
  have z1 : ¬ (1 : Int32) = 0 := by decide
  have e0 : g p 0 = I n := by rw [hV.pr.1 0 (by decide)]; exact hV.pw.1
  obtain ⟨b, hb, eb⟩ := hV.dw.2.1
  have eb3 : g 13 3 = I b := by rw [hV.dr.1.2.1]; exact eb
  have ef : g 13 4 = g 86 1 := hV.dr.1.2.2
  have xN := X_isNumber (c := g p) (M := g p) (p := p) (q := q) (w := w) (v := v) (ds := ds) kp e0 hn.2 (I ((b + 1 : Nat) : Int))
  rw [I_tN (show b + 1 < 1000000 by omega)] at xN
  have mN : ∀ (ds : Nat → Nat) (G : Nat → Nat → Int32), G 84 = g 84 → f_X12_noNumber (G, RF p q w v ds) 83 (I ((b + 1 : Nat) : Int)) = some (if 1 ≤ ((b + 1 : Nat) : Int) ∧ ((b + 1 : Nat) : Int) ≤ n then 0 else 1, (G, RF p q w v ds)) := fun ds G e => by
    have := M_noNumber (p := p) (q := q) (w := w) (v := v) (ds := ds) (g := G) (n := n) (by rw [e]; exact hV.pw.1) hn.2 (I ((b + 1 : Nat) : Int))
    rwa [I_tN (show b + 1 < 1000000 by omega)] at this
  have e2b : (2 : Int32) + I ((b + 1 : Nat) : Int) = I ((3 + b : Nat) : Int) := by show I ((2 : Nat) : Int) + _ = _; rw [I_k]; congr 2; omega
  have htb : bt (tkM n (g 86)) b = (decide (b < n) && decide (g 86 (3 + b) ≠ I (-4))) := tkM_bt hn.2 (by omega)
  by_cases hy : g 86 1 = 0 ∧ b < n ∧ g 86 (3 + b) = I (-4)
  · obtain ⟨hf, hbn, hfr⟩ := hy
    have htf : bt (tkM n (g 86)) b = false := by rw [htb, decide_eq_false (show ¬ g 86 (3 + b) ≠ I (-4) from fun z => z hfr), Bool.and_false]
    rw [if_pos (by omega)] at xN
    obtain ⟨m, m1, m2, m3, m4⟩ := hV.2.2.2.2.2.2.1
    obtain ⟨g2, ds', c1, c2, c3, c4, c5, c6, c7⟩ := X_pk (p := p) (q := q) (w := w) (v := v) (ds := ds) hV Sb.rf m1 m2 (fun k hk => (m4 k hk).1)
    have hSX2 : SX (g 84) n g2 := hV.sx.same (fun a h1 h2 => c4 a (by unfold DAYS; simp only [List.mem_cons, List.not_mem_nil, or_false]; omega))
    obtain ⟨g3, hg3⟩ : ∃ g3, g3 = uc (uc g2 13 (upd (g2 13) 3 (I ((b + 1 : Nat) : Int)))) 14 (upd (g2 14) 7 (g2 14 7 ||| b1 b)) := ⟨_, rfl⟩
    have s3 : Sb [13, 14] g2 g3 := by rw [hg3]; exact (Sb.rf.uc (by decide)).uc (by decide)
    have sX : Sb DX g g3 := Sb.tr c3 (s3.mono (by decide))
    have X1 : f_X11_born (g, RF p q w v ds) 1 = some (I ((b + 1 : Nat) : Int), (g3, RF p q w v ds')) := by
      unfold f_X11_born
      revert c1
      generalize f_X3_push = pf
      intro c1
      simp only [r_1_0, r_1_1, r_1_2, r_1_3, r_1_4, r_1_5, r_1_6, r_1_7, r_1_8, r_1_9, r_1_10, r_1_11, k_1, n_1, k_13, k_16, kp, gd, if_true, reduceIte, ef, if_pos hf, eb3, I_s, xN, bd_w, if_neg z1, X_tk hV.2.2.2.1, I_sp, X_hasBit _ _ (show b < 32 by omega), htf, Bool.false_eq_true, if_false, c1, lt_w, r_13_0, r_13_1, k_13, n_13, k_14, n_14, k_15, n_15, if_pos (show inr (7 : Int32) 8 = true by decide), show (7 : Int32).toNatClampNeg = 7 by decide, uc_n (show 14 ≠ 13 by decide), b1_I (show b < 1000 by omega)]
      rw [hg3]
    have hS : MS (th g3) g := ⟨by rw [th_n (by decide)]; exact sX 84 (by decide), by rw [th_n (by decide)]; exact sX 86 (by decide), by rw [th_83 (by decide), sX 83 (by decide)]; exact hV.2.2.2.2.1⟩
    have e5 : th g3 83 5 = I m := by rw [th_83 (by decide), sX 83 (by decide)]; exact m3
    obtain ⟨g5, d1, d2, d3, d4, d5⟩ := M_keepDay (p := p) (q := q) (w := w) (v := v) (ds := ds') m1 e5
    rw [hS.2.1, show th g3 87 = g 87 by rw [th_n (by decide)]; exact sX 87 (by decide)] at d5
    have e586 : g5 86 = g 86 := by rw [d2 86 (by decide)]; exact hS.2.1
    have mN := mN ds' (th g3) hS.1
    rw [if_pos (by omega)] at mN
    obtain ⟨g6, hg6⟩ : ∃ g6, g6 = uc g5 86 (upd (upd (g 86) 0 (I ((b + 1 : Nat) : Int))) (3 + b) 7) := ⟨_, rfl⟩
    have s6 : Sb [86] g5 g6 := by rw [hg6]; exact Sb.rf.uc (by decide)
    have M1 : f_X12_born (g3, RF p q w v ds') 83 = some (I ((b + 1 : Nat) : Int), (g6, RF p q w v ds')) := by
      unfold f_X12_born
      revert d1
      generalize f_X12_keepDay = kf
      intro d1
      rw [gd_t (show kd 83 = 12 from rfl), th_lt]
      simp only [r_83_1, r_83_2, r_83_3, r_83_4, r_83_6, r_83_8, r_83_11, r_83_13, r_83_15, r_83_19, r_83_20, r_83_21, r_83_22, r_83_24, r_83_25, r_83_26, r_83_28, r_83_29, k_83, n_83, k_84, n_84, k_85, n_85, k_86, n_86, k_87, n_87, k_88, n_88, k_89, n_89, k_90, n_90, k_91, n_91, k_92, n_92, k_93, n_93, k_94, n_94, k_95, n_95, k_96, n_96, k_97, n_97, k_98, n_98, k_99, n_99, k_100, n_100, k_101, n_101, gd, ci_0, ci_1, ci_2, ci_3, ci_4, ii_0, ii_1, ii_2, ii_3, ii_4, id_0, id_1, id_2, if_true, reduceIte, hS.2.1, eb, I_s, hf, if_neg (show ¬ (0 : Int32) = 1 by decide), mN, bd_w, e2b, I_in (show 3 + b < 51 by omega) (show 51 < 1000000 by decide), I_ix (show 3 + b < 1000000 by omega), if_pos (show g 86 (3 + b) = (-4 : Int32) from hfr), d1, lt_w, e586, uc_s, uc_uc]
      rw [hg6]
    refine ⟨_, _, _, X1, M1, g6, p, q, w, v, ds', n, np, kind, rfl, ?_⟩
    refine hV.after (fun k hk => (m4 k hk).2) sX c2 (by rw [s3 16 (by decide)]; exact c5) m1 (DRs_keep c2 s3 (by decide) c6) (T' := bnT (g 86) b) ?_ (DW_born hV.dw hn.2 hbn) (hSX2.same (fun a h1 h2 => s3 a (by simp only [List.mem_cons, List.not_mem_nil, or_false]; omega))) (Sb.tr (Sb.tr (th_sb g3) (d2.mono (by decide))) (s6.mono (by decide))) (by rw [s6 83 (by decide)]; exact d3) ?_ ?_ ?_
    · rw [hg3, uc_n (show 13 ≠ 14 by decide), uc_s, uc_s, uc_n (show 15 ≠ 14 by decide), uc_n (show 15 ≠ 13 by decide)]
      exact DR_born c7 (by omega) hfr
    · intro j hj
      rw [s6 83 (by decide), d4 j (fun e => by subst e; revert hj; decide), th_83 (fun e => by subst e; revert hj; decide)]
    · intro k hk j hj
      rw [s6 87 (by decide)]
      exact d5 k hk j hj
    · intro j hj
      rw [hg6, uc_s]
      unfold bnT
      by_cases c0 : j = 0
      · subst c0; rw [if_pos rfl, upd_n (by omega), upd_s]
      · rw [if_neg c0]
        by_cases c3 : j = 3 + b
        · rw [if_pos c3, c3, upd_s]; rfl
        · rw [if_neg c3, upd_n c3, upd_n c0]
  · refine ⟨-2, (g, RF p q w v ds), (th g, RF p q w v ds), ?_, ?_, hV.ask (th_mk g)⟩
    · unfold f_X11_born
      generalize f_X3_push = pf
      simp only [r_1_0, r_1_1, r_1_2, r_1_3, r_1_4, r_1_5, r_1_6, r_1_7, r_1_8, r_1_9, r_1_10, r_1_11, k_1, n_1, k_13, kp, gd, if_true, reduceIte, ef, eb3, I_s, xN, bd_w, X_tk hV.2.2.2.1, I_sp, X_hasBit _ _ (show b < 32 by omega)]
      by_cases d1 : g 86 1 = 0
      · rw [if_pos d1]
        by_cases d2 : b < n
        · rw [if_pos (show 1 ≤ ((b + 1 : Nat) : Int) ∧ ((b + 1 : Nat) : Int) ≤ n by omega), if_neg z1, htb, decide_eq_true d2, decide_eq_true (show g 86 (3 + b) ≠ I (-4) from fun z => hy ⟨d1, d2, z⟩), if_neg (by decide)]
        · rw [if_neg (show ¬ (1 ≤ ((b + 1 : Nat) : Int) ∧ ((b + 1 : Nat) : Int) ≤ n) by omega), if_pos rfl]
      · rw [if_neg d1]
    · have hS := MS.of hV (XK.rf (q := q) (g := g))
      unfold f_X12_born
      generalize f_X12_keepDay = kf
      rw [gd_t (show kd 83 = 12 from rfl), th_lt]
      simp only [r_83_1, r_83_2, r_83_3, r_83_4, r_83_6, r_83_8, r_83_11, r_83_13, r_83_15, r_83_19, r_83_20, r_83_21, r_83_22, r_83_24, r_83_25, r_83_26, r_83_28, r_83_29, k_83, n_83, k_84, n_84, k_85, n_85, k_86, n_86, k_87, n_87, k_88, n_88, k_89, n_89, k_90, n_90, k_91, n_91, k_92, n_92, k_93, n_93, k_94, n_94, k_95, n_95, k_96, n_96, k_97, n_97, k_98, n_98, k_99, n_99, k_100, n_100, k_101, n_101, gd, ci_0, ci_1, ci_2, ci_3, ci_4, ii_0, ii_1, ii_2, ii_3, ii_4, id_0, id_1, id_2, if_true, reduceIte, hS.2.1, eb, I_s, mN ds (th g) hS.1, bd_w, e2b]
      by_cases d1 : g 86 1 = 0
      · rw [if_neg (show ¬ g 86 1 = 1 by rw [d1]; decide)]
        by_cases d2 : b < n
        · rw [if_pos (show 1 ≤ ((b + 1 : Nat) : Int) ∧ ((b + 1 : Nat) : Int) ≤ n by omega), if_pos rfl, if_pos (I_in (show 3 + b < 51 by omega) (show 51 < 1000000 by decide)), I_ix (show 3 + b < 1000000 by omega), if_neg (show ¬ g 86 (3 + b) = (-4 : Int32) from fun z => hy ⟨d1, d2, z⟩)]
        · rw [if_neg (show ¬ (1 ≤ ((b + 1 : Nat) : Int) ∧ ((b + 1 : Nat) : Int) ≤ n) by omega), if_neg z1]
      · rcases hV.dw.2.2.1 with d | d
        · exact absurd d d1
        · rw [if_pos d]
def lnT (T : Nat → Int32) (j i k : Nat) : Int32 := if k = 27 + j then I (i : Int) else T k
theorem DR_lend {d0 d1 d2 T : Nat → Int32} {j i : Nat} (hD : DR d0 d1 d2 T) (hb : j < 24) (hfree : T (27 + j) = I (-4)) (hi : i < 6) : DR d0 d1 (upd d2 i (d2 i ||| b1 j)) (lnT T j i) := by
  obtain ⟨a, e, c⟩ := hD
  have ot : ∀ k, k ≠ 27 + j → lnT T j i k = T k := fun k hk => by unfold lnT; rw [if_neg hk]
  refine ⟨⟨by rw [a.1, ot 2 (by omega)], by rw [a.2.1, ot 0 (by omega)], by rw [a.2.2, ot 1 (by omega)]⟩, fun k hk l hl => ?_, fun k hk l hl => ?_⟩
  · rw [e k hk l hl]
    by_cases q : l < 24
    · rw [ot (3 + l) (by omega)]
    · rw [decide_eq_false q, Bool.false_and, Bool.false_and]
  · have hb' := c k hk l hl
    have eT : lnT T j i (27 + l) = if l = j then I (i : Int) else T (27 + l) := by
      unfold lnT
      by_cases q : l = j
      · rw [if_pos q, if_pos (by omega)]
      · rw [if_neg q, if_neg (by omega)]
    rw [eT]
    by_cases ek : k = i
    · subst ek
      rw [upd_s, bt_or, hb', bt_b1 (by omega) hl]
      by_cases q : l = j
      · rw [if_pos q, decide_eq_true q, decide_eq_true (show l < 24 by omega), decide_eq_true rfl, Bool.or_true]; rfl
      · rw [if_neg q, decide_eq_false q, Bool.or_false]
    · rw [upd_n ek, hb']
      by_cases q : l = j
      · rw [if_pos q]
        subst q
        have h1 : ¬ I (-4) = I (k : Int) := fun z => I_ne4 (k := k) (by omega) z.symm
        have h2 : ¬ I (i : Int) = I (k : Int) := fun z => ek ((I_eqn (a := i) (b := k) (by omega) (by omega)).mp z).symm
        rw [hfree, decide_eq_false h1, decide_eq_false h2]
      · rw [if_neg q]
theorem DW_lend {T : Nat → Int32} {n np j i : Nat} (hW : DW T n np) (hn : n ≤ 24) (hb : j < n) (hi : i < 6) : DW (lnT T j i) n np := by
  obtain ⟨a, e, c, d, f⟩ := hW
  have ot : ∀ k, k ≠ 27 + j → lnT T j i k = T k := fun k hk => by unfold lnT; rw [if_neg hk]
  refine ⟨fun k h1 h2 => by rw [ot 2 (by omega)]; exact a k h1 h2, by rw [ot 0 (by omega)]; exact e, by rw [ot 1 (by omega)]; exact c, fun k hk => by rw [ot (3 + k) (by omega)]; exact d k hk, fun k hk => ?_⟩
  by_cases q : k = j
  · subst q
    exact Or.inr ⟨hb, i, hi, by unfold lnT; rw [if_pos rfl]⟩
  · rw [ot (27 + k) (by omega)]; exact f k hk
theorem ltM_bt {n : Nat} {T : Nat → Int32} (hn : n ≤ 24) {i : Nat} (hi : i < 32) : bt (ltM n T) i = (decide (i < n) && decide (T (27 + i) ≠ I (-4))) := bt_mk (by omega) _ hi
theorem M_lnd_lp {p q w v : Nat} {ds : Nat → Nat} {G : Nat → Nat → Int32} {n : Nat} {T : Nat → Int32} (hn : n ≤ 24) (h0 : G 84 0 = I n) (hT : ∀ j, j < 51 → G 86 j = T j) : ∀ (r fu k : Nat), r < fu → k + r = n →
    f_X12_lend_94 fu (G, RF p q w v ds) 83 (I (pc k (ltM n T) : Nat)) (I ((k + 1 : Nat) : Int)) = some (I (pc n (ltM n T) : Nat), (G, RF p q w v ds)) := by
  intro r
  induction r with
  | zero =>
    intro fu k hf hk
    obtain ⟨fu, rfl⟩ : ∃ k, fu = k + 1 := ⟨fu - 1, by omega⟩
    have c1 : I (n : Int) < I ((k + 1 : Nat) : Int) := by rw [I_ltn (by omega) (by omega)]; omega
    simp only [f_X12_lend_94, r_83_1, r_83_2, r_83_3, r_83_4, r_83_6, r_83_8, r_83_11, r_83_13, r_83_15, r_83_19, r_83_20, r_83_21, r_83_22, r_83_24, r_83_25, r_83_26, r_83_28, r_83_29, k_83, n_83, k_84, n_84, k_85, n_85, k_86, n_86, k_87, n_87, k_88, n_88, k_89, n_89, k_90, n_90, k_91, n_91, k_92, n_92, k_93, n_93, k_94, n_94, k_95, n_95, k_96, n_96, k_97, n_97, k_98, n_98, k_99, n_99, k_100, n_100, k_101, n_101, ci_0, ci_1, ci_2, ci_3, ci_4, ii_0, ii_1, ii_2, ii_3, ii_4, id_0, id_1, id_2, gd, if_true, reduceIte, h0, if_pos c1]
    rw [show k = n by omega]
  | succ r ih =>
    intro fu k hf hk
    obtain ⟨fu, rfl⟩ : ∃ k, fu = k + 1 := ⟨fu - 1, by omega⟩
    have c1 : ¬ I (n : Int) < I ((k + 1 : Nat) : Int) := by rw [I_ltn (by omega) (by omega)]; omega
    have e1 : (26 : Int32) + I ((k + 1 : Nat) : Int) = I ((27 + k : Nat) : Int) := by show I ((26 : Nat) : Int) + _ = _; rw [I_k]; congr 2; omega
    have nx := ih fu (k + 1) (by omega) (by omega)
    have hbk := ltM_bt (T := T) hn (show k < 32 by omega)
    rw [decide_eq_true (show k < n by omega), Bool.true_and] at hbk
    have hpc : pc (k + 1) (ltM n T) = pc k (ltM n T) + (if bt (ltM n T) k then 1 else 0) := rfl
    rw [hbk] at hpc
    simp only [f_X12_lend_94, r_83_1, r_83_2, r_83_3, r_83_4, r_83_6, r_83_8, r_83_11, r_83_13, r_83_15, r_83_19, r_83_20, r_83_21, r_83_22, r_83_24, r_83_25, r_83_26, r_83_28, r_83_29, k_83, n_83, k_84, n_84, k_85, n_85, k_86, n_86, k_87, n_87, k_88, n_88, k_89, n_89, k_90, n_90, k_91, n_91, k_92, n_92, k_93, n_93, k_94, n_94, k_95, n_95, k_96, n_96, k_97, n_97, k_98, n_98, k_99, n_99, k_100, n_100, k_101, n_101, ci_0, ci_1, ci_2, ci_3, ci_4, ii_0, ii_1, ii_2, ii_3, ii_4, id_0, id_1, id_2, gd, if_true, reduceIte, h0, if_neg c1, e1, I_in (show 27 + k < 51 by omega) (show 51 < 1000000 by decide), I_ix (show 27 + k < 1000000 by omega), hT (27 + k) (by omega), I_s, I_p0]
    by_cases c : T (27 + k) = I (-4)
    · rw [if_pos (show T (27 + k) = (-4 : Int32) from c)]
      rw [decide_eq_false (show ¬ T (27 + k) ≠ I (-4) from fun z => z c), if_neg (by decide), Nat.add_zero] at hpc
      rw [hpc] at nx
      exact nx
    · rw [if_neg (show ¬ T (27 + k) = (-4 : Int32) from c)]
      rw [decide_eq_true (show T (27 + k) ≠ I (-4) from c), if_pos rfl] at hpc
      rw [hpc] at nx
      exact nx
theorem S_lend : Sp2 Inv f_X11_lend f_X12_lend := by
  rintro h a a' ⟨g, p, q, w, v, ds, n, np, kind, rfl, hV⟩
  obtain ⟨kp, k1, k2, k3, l1, l2, l3⟩ := Pk hV.p
  obtain ⟨r5, r6, r7⟩ := Pr hV.p q w v ds
  have hn := hV.pw.2.1
  have hnp := hV.pw.2.2.2.1
  have z1 : ¬ (1 : Int32) = 0 := by decide
  have e0 : g p 0 = I n := by rw [hV.pr.1 0 (by decide)]; exact hV.pw.1
  have e1 : g p 1 = I np := by rw [hV.pr.1 1 (by decide)]; exact hV.pw.2.2.1
  have xN := X_isNumber (c := g p) (M := g p) (p := p) (q := q) (w := w) (v := v) (ds := ds) kp e0 hn.2 a
  have xP := X_isPerson (p := p) (q := q) (w := w) (v := v) (ds := ds) kp e1 hnp a'
  have mN : ∀ (ds : Nat → Nat) (G : Nat → Nat → Int32), G 84 = g 84 → f_X12_noNumber (G, RF p q w v ds) 83 a = some (if 1 ≤ a.toInt ∧ a.toInt ≤ n then 0 else 1, (G, RF p q w v ds)) := fun ds G e => M_noNumber (by rw [e]; exact hV.pw.1) hn.2 a
  have mP : ∀ (ds : Nat → Nat) (G : Nat → Nat → Int32), G 84 = g 84 → f_X12_noOne (G, RF p q w v ds) 83 a' = some (if 0 ≤ a'.toInt ∧ a'.toInt < np then 0 else 1, (G, RF p q w v ds)) := fun ds G e => M_noOne (by rw [e]; exact hV.pw.2.2.1) hnp a'
  by_cases hc : (1 ≤ a.toInt ∧ a.toInt ≤ n) ∧ (0 ≤ a'.toInt ∧ a'.toInt < np)
  · obtain ⟨x, hx, rfl⟩ := num_c hc.1
    obtain ⟨i, hi, rfl⟩ := per_c hc.2
    rw [if_pos hc.1] at xN
    rw [if_pos hc.2] at xP
    have o1 := X_holder (p := p) (q := q) (w := w) (v := v) (ds := ds) (g := g) (F := fun j => g 84 (29 + j)) (x := x) k2 l2 (by decide) hV.pr.2.2.1 (by omega) (by
      rcases hV.pw.2.2.2.2.2.2.2.2.2.1 (x - 1) (by omega) with e | ⟨-, i, hi, e⟩
      · exact Or.inl e
      · exact Or.inr ⟨i, by omega, e⟩)
    rw [show 29 + (x - 1) = 28 + x by omega] at o1
    have hbit : bt (tkM n (g 86) ||| ltM n (g 86)) (x - 1) = (decide (g 86 (2 + x) ≠ I (-4)) || decide (g 86 (26 + x) ≠ I (-4))) := by
      rw [bt_or, tkM_bt hn.2 (by omega), ltM_bt hn.2 (by omega), decide_eq_true (show x - 1 < n by omega), Bool.true_and, Bool.true_and, show 3 + (x - 1) = 2 + x by omega, show 27 + (x - 1) = 26 + x by omega]
    have e28 : (28 : Int32) + I (x : Int) = I ((28 + x : Nat) : Int) := by show I ((28 : Nat) : Int) + _ = _; rw [I_k]
    have e2x : (2 : Int32) + I (x : Int) = I ((2 + x : Nat) : Int) := by show I ((2 : Nat) : Int) + _ = _; rw [I_k]
    have e26 : (26 : Int32) + I (x : Int) = I ((26 + x : Nat) : Int) := by show I ((26 : Nat) : Int) + _ = _; rw [I_k]
    by_cases hy : (¬ g 84 (28 + x) = I (-4) ∧ ¬ g 84 (28 + x) = I i) ∧ g 86 (2 + x) = I (-4) ∧ g 86 (26 + x) = I (-4)
    · obtain ⟨⟨y1, y2⟩, y3, y4⟩ := hy
      have hbf : bt (tkM n (g 86) ||| ltM n (g 86)) (x - 1) = false := by rw [hbit, decide_eq_false (show ¬ g 86 (2 + x) ≠ I (-4) from fun z => z y3), decide_eq_false (show ¬ g 86 (26 + x) ≠ I (-4) from fun z => z y4)]; rfl
      have hfr : g 86 (27 + (x - 1)) = I (-4) := by rw [show 27 + (x - 1) = 26 + x by omega]; exact y4
      obtain ⟨m, m1, m2, m3, m4⟩ := hV.2.2.2.2.2.2.1
      obtain ⟨g2, ds', c1, c2, c3, c4, c5, c6, c7⟩ := X_pk (p := p) (q := q) (w := w) (v := v) (ds := ds) hV Sb.rf m1 m2 (fun k hk => (m4 k hk).1)
      have hSX2 : SX (g 84) n g2 := hV.sx.same (fun a h1 h2 => c4 a (by unfold DAYS; simp only [List.mem_cons, List.not_mem_nil, or_false]; omega))
      obtain ⟨g3, hg3⟩ : ∃ g3, g3 = uc g2 15 (upd (g2 15) i (g2 15 i ||| b1 (x - 1))) := ⟨_, rfl⟩
      have s3 : Sb [15] g2 g3 := by rw [hg3]; exact Sb.rf.uc (by decide)
      have sX : Sb DX g g3 := Sb.tr c3 (s3.mono (by decide))
      have hDR : DR (g3 13) (g3 14) (g3 15) (lnT (g 86) (x - 1) i) := by
        rw [hg3, uc_n (show 13 ≠ 15 by decide), uc_n (show 14 ≠ 15 by decide), uc_s]
        exact DR_lend c7 (by omega) hfr (by omega)
      have hDW : DW (lnT (g 86) (x - 1) i) n np := DW_lend hV.dw hn.2 (by omega) (by omega)
      have xl : f_X2_lent (g3, RF p q w v ds') 13 = some (ltM n (lnT (g 86) (x - 1) i), (g3, RF p q w v ds')) := by
        unfold f_X2_lent
        simp only [r_13_0, r_13_1, k_13, n_13, k_14, n_14, k_15, n_15, gd, if_true, reduceIte, X_together (g := g3) (p := p) (q := q) (w := w) (v := v) (ds := ds') (a := 15) (m := 6) rfl rfl (by decide), bd_w, lt_eq hn.2 hDR hDW]
      have hpc : pc 32 (ltM n (lnT (g 86) (x - 1) i)) = pc n (ltM n (lnT (g 86) (x - 1) i)) := by
        have hl := LO_mk hn.2 (fun j => decide (lnT (g 86) (x - 1) i (27 + j) ≠ I (-4)))
        have := pc_more (n := n) (x := ltM n (lnT (g 86) (x - 1) i)) (32 - n) (fun k hk => by
          rcases Nat.lt_or_ge k 32 with q | q
          · exact hl k hk q
          · exact bt_big q)
        rwa [show n + (32 - n) = 32 by omega] at this
      have X1 : f_X11_lend (g, RF p q w v ds) 1 (I x) (I i) = some (I (pc n (ltM n (lnT (g 86) (x - 1) i)) : Nat), (g3, RF p q w v ds')) := by
        unfold f_X11_lend
        revert c1
        generalize f_X3_push = pf
        intro c1
        simp only [r_1_0, r_1_1, r_1_2, r_1_3, r_1_4, r_1_5, r_1_6, r_1_7, r_1_8, r_1_9, r_1_10, r_1_11, k_1, n_1, k_13, k_16, kp, gd, if_true, reduceIte, xN, bd_w, if_neg z1, xP, r6, k2, o1, if_neg (show ¬ g 84 (28 + x) = (-4 : Int32) from y1), if_neg y2, X_tk hV.2.2.2.1, X_lent hV.2.2.2.1, I_p hx.1, X_hasBit _ _ (show x - 1 < 32 by omega), hbf, Bool.false_eq_true, if_false, c1]
        simp only [r_13_0, r_13_1, k_13, n_13, k_14, n_14, k_15, n_15, if_true, reduceIte, I_in (show i < 6 by omega) (show 6 < 1000000 by decide), I_ix (show i < 1000000 by omega), b1_I (show x - 1 < 1000 by omega)]
        rw [lt_w, ← hg3]
        simp only [r_1_0, r_1_1, r_1_2, r_1_3, r_1_4, r_1_5, r_1_6, r_1_7, r_1_8, r_1_9, r_1_10, r_1_11, k_1, n_1, k_13, if_true, reduceIte, xl, bd_w, Xbc, hpc]
      have hS : MS (th g3) g := ⟨by rw [th_n (by decide)]; exact sX 84 (by decide), by rw [th_n (by decide)]; exact sX 86 (by decide), by rw [th_83 (by decide), sX 83 (by decide)]; exact hV.2.2.2.2.1⟩
      have e5 : th g3 83 5 = I m := by rw [th_83 (by decide), sX 83 (by decide)]; exact m3
      obtain ⟨g5, d1, d2, d3, d4, d5⟩ := M_keepDay (p := p) (q := q) (w := w) (v := v) (ds := ds') m1 e5
      rw [hS.2.1, show th g3 87 = g 87 by rw [th_n (by decide)]; exact sX 87 (by decide)] at d5
      have e586 : g5 86 = g 86 := by rw [d2 86 (by decide)]; exact hS.2.1
      have e584 : g5 84 = g 84 := by rw [d2 84 (by decide)]; exact hS.1
      have mN := mN ds' (th g3) hS.1
      rw [if_pos hc.1] at mN
      have mP := mP ds' (th g3) hS.1
      rw [if_pos hc.2] at mP
      obtain ⟨g6, hg6⟩ : ∃ g6, g6 = uc g5 86 (upd (g 86) (26 + x) (I i)) := ⟨_, rfl⟩
      have s6 : Sb [86] g5 g6 := by rw [hg6]; exact Sb.rf.uc (by decide)
      have h86 : ∀ j, j < 51 → g6 86 j = lnT (g 86) (x - 1) i j := by
        intro j hj
        rw [hg6, uc_s]
        unfold lnT
        by_cases c : j = 26 + x
        · rw [if_pos (by omega), c, upd_s]
        · rw [if_neg (by omega), upd_n c]
      have lp := M_lnd_lp (p := p) (q := q) (w := w) (v := v) (ds := ds') (G := g6) (T := lnT (g 86) (x - 1) i) hn.2 (by rw [s6 84 (by decide), e584]; exact hV.pw.1) h86 n FU 0 (FU_lt (by omega)) (by omega)
      have lp : f_X12_lend_94 FU (g6, RF p q w v ds') 83 0 1 = _ := lp
      have M1 : f_X12_lend (g3, RF p q w v ds') 83 (I x) (I i) = some (I (pc n (ltM n (lnT (g 86) (x - 1) i)) : Nat), (g6, RF p q w v ds')) := by
        unfold f_X12_lend
        revert d1 lp
        generalize f_X12_keepDay = kf
        generalize f_X12_lend_94 FU = lf
        intro d1 lp
        rw [gd_t (show kd 83 = 12 from rfl), th_lt]
        simp only [mN, mP, bd_w, if_true, reduceIte, r_83_1, r_83_2, r_83_3, r_83_4, r_83_6, r_83_8, r_83_11, r_83_13, r_83_15, r_83_19, r_83_20, r_83_21, r_83_22, r_83_24, r_83_25, r_83_26, r_83_28, r_83_29, k_83, n_83, k_84, n_84, k_85, n_85, k_86, n_86, k_87, n_87, k_88, n_88, k_89, n_89, k_90, n_90, k_91, n_91, k_92, n_92, k_93, n_93, k_94, n_94, k_95, n_95, k_96, n_96, k_97, n_97, k_98, n_98, k_99, n_99, k_100, n_100, k_101, n_101, gd, hS.1, hS.2.1, e28, e2x, e26, I_in (show 28 + x < 59 by omega) (show 59 < 1000000 by decide), I_ix (show 28 + x < 1000000 by omega), I_in (show 2 + x < 51 by omega) (show 51 < 1000000 by decide), I_ix (show 2 + x < 1000000 by omega), I_in (show 26 + x < 51 by omega) (show 51 < 1000000 by decide), I_ix (show 26 + x < 1000000 by omega), if_neg (show ¬ g 84 (28 + x) = (-4 : Int32) from y1), if_neg y2, if_pos (show g 86 (2 + x) = (-4 : Int32) from y3), if_pos (show g 86 (26 + x) = (-4 : Int32) from y4), d1]
        rw [lt_w, e586, ← hg6, lp]
      refine ⟨_, _, _, X1, M1, g6, p, q, w, v, ds', n, np, kind, rfl, ?_⟩
      refine hV.after (fun k hk => (m4 k hk).2) sX c2 (by rw [s3 16 (by decide)]; exact c5) m1 (DRs_keep c2 s3 (by decide) c6) (T' := lnT (g 86) (x - 1) i) hDR hDW (hSX2.same (fun a h1 h2 => s3 a (by simp only [List.mem_cons, List.not_mem_nil, or_false]; omega))) (Sb.tr (Sb.tr (th_sb g3) (d2.mono (by decide))) (s6.mono (by decide))) (by rw [s6 83 (by decide)]; exact d3) ?_ ?_ h86
      · intro j hj
        rw [s6 83 (by decide), d4 j (fun e => by subst e; revert hj; decide), th_83 (fun e => by subst e; revert hj; decide)]
      · intro k hk j hj
        rw [s6 87 (by decide)]
        exact d5 k hk j hj
    · refine ⟨-2, (g, RF p q w v ds), (th g, RF p q w v ds), ?_, ?_, hV.ask (th_mk g)⟩
      · unfold f_X11_lend
        generalize f_X3_push = pf
        simp only [r_1_0, r_1_1, r_1_2, r_1_3, r_1_4, r_1_5, r_1_6, r_1_7, r_1_8, r_1_9, r_1_10, r_1_11, k_1, n_1, k_13, kp, gd, if_true, reduceIte, xN, bd_w, if_neg z1, xP, r6, k2, o1, X_tk hV.2.2.2.1, X_lent hV.2.2.2.1, I_p hx.1, X_hasBit _ _ (show x - 1 < 32 by omega), hbit]
        by_cases d1 : g 84 (28 + x) = I (-4)
        · rw [if_pos (show g 84 (28 + x) = (-4 : Int32) from d1)]
        · rw [if_neg (show ¬ g 84 (28 + x) = (-4 : Int32) from d1)]
          by_cases d2 : g 84 (28 + x) = I i
          · rw [if_pos d2]
          · rw [if_neg d2]
            have d3 : (decide (g 86 (2 + x) ≠ I (-4)) || decide (g 86 (26 + x) ≠ I (-4))) = true := by
              rw [Bool.or_eq_true, decide_eq_true_eq, decide_eq_true_eq]
              by_cases d4 : g 86 (2 + x) = I (-4)
              · exact Or.inr (fun z => hy ⟨⟨d1, d2⟩, d4, z⟩)
              · exact Or.inl d4
            rw [d3, if_neg (by decide)]
      · have hS := MS.of hV (XK.rf (q := q) (g := g))
        have mN := mN ds (th g) hS.1
        rw [if_pos hc.1] at mN
        have mP := mP ds (th g) hS.1
        rw [if_pos hc.2] at mP
        unfold f_X12_lend
        generalize f_X12_keepDay = kf
        generalize f_X12_lend_94 FU = lf
        rw [gd_t (show kd 83 = 12 from rfl), th_lt]
        simp only [mN, mP, bd_w, if_true, reduceIte, r_83_1, r_83_2, r_83_3, r_83_4, r_83_6, r_83_8, r_83_11, r_83_13, r_83_15, r_83_19, r_83_20, r_83_21, r_83_22, r_83_24, r_83_25, r_83_26, r_83_28, r_83_29, k_83, n_83, k_84, n_84, k_85, n_85, k_86, n_86, k_87, n_87, k_88, n_88, k_89, n_89, k_90, n_90, k_91, n_91, k_92, n_92, k_93, n_93, k_94, n_94, k_95, n_95, k_96, n_96, k_97, n_97, k_98, n_98, k_99, n_99, k_100, n_100, k_101, n_101, gd, hS.1, hS.2.1, e28, e2x, e26, I_in (show 28 + x < 59 by omega) (show 59 < 1000000 by decide), I_ix (show 28 + x < 1000000 by omega), I_in (show 2 + x < 51 by omega) (show 51 < 1000000 by decide), I_ix (show 2 + x < 1000000 by omega), I_in (show 26 + x < 51 by omega) (show 51 < 1000000 by decide), I_ix (show 26 + x < 1000000 by omega)]
        by_cases d1 : g 84 (28 + x) = I (-4)
        · rw [if_pos (show g 84 (28 + x) = (-4 : Int32) from d1)]
        · rw [if_neg (show ¬ g 84 (28 + x) = (-4 : Int32) from d1)]
          by_cases d2 : g 84 (28 + x) = I i
          · rw [if_pos d2]
          · rw [if_neg d2]
            by_cases d4 : g 86 (2 + x) = I (-4)
            · rw [if_pos (show g 86 (2 + x) = (-4 : Int32) from d4), if_neg (show ¬ g 86 (26 + x) = (-4 : Int32) from fun z => hy ⟨⟨d1, d2⟩, d4, z⟩)]
            · rw [if_neg (show ¬ g 86 (2 + x) = (-4 : Int32) from d4)]
  · refine ⟨-1, (g, RF p q w v ds), (th g, RF p q w v ds), ?_, ?_, hV.ask (th_mk g)⟩
    · unfold f_X11_lend
      generalize f_X3_push = pf
      simp only [r_1_0, r_1_1, r_1_2, r_1_3, r_1_4, r_1_5, r_1_6, r_1_7, r_1_8, r_1_9, r_1_10, r_1_11, k_1, n_1, kp, gd, if_true, reduceIte, xN, bd_w, xP]
      by_cases d1 : 1 ≤ a.toInt ∧ a.toInt ≤ n
      · rw [if_pos d1, if_neg z1, if_neg (fun z => hc ⟨d1, z⟩), if_pos rfl]
      · rw [if_neg d1, if_pos rfl]
    · unfold f_X12_lend
      generalize f_X12_keepDay = kf
      generalize f_X12_lend_94 FU = lf
      rw [gd_t (show kd 83 = 12 from rfl), th_lt]
      simp only [mN ds (th g) (th_n (by decide)), mP ds (th g) (th_n (by decide)), bd_w]
      by_cases d1 : 1 ≤ a.toInt ∧ a.toInt ≤ n
      · rw [if_pos d1, if_pos rfl, if_neg (fun z => hc ⟨d1, z⟩), if_neg z1]
      · rw [if_neg d1, if_neg z1]
