/-! deny: the reference, and both -/
section T
variable {p q w v : Nat} {ds : Nat → Nat}
theorem mbw_best {st : Option (Nat × Nat × Nat)} {s : Nat} (h6 : D6 st) (hs : s ≤ 6) : (I (s : Nat) ≤ mbest st) = (mbw (stm st) s = false) := by
  apply propext
  cases st with
  | none => exact ⟨fun z => absurd ((I_le (b := -1) (by omega) (by omega)).mp z) (by omega), fun z => by cases z⟩
  | some t =>
    have := (h6 t rfl).1
    show (I (s : Int) ≤ I (t.1 : Int)) ↔ decide (t.1 < s) = false
    rw [I_len (by omega) (by omega), decide_eq_false_iff_not]
    omega
theorem M_den_in {g : Nat → Nat → Int32} {n np kind N x : Nat} {what : Int32} (k50 : Hp → Nat → Int32 → Int32 → Int32 → Int32 → Int32 → Int32 → Int32 → Option (Int32 × Hp)) (hP : PW (g 84) n np kind) (hN : N = 1 ∨ N = 2) (hx : 1 ≤ x ∧ x ≤ n) : ∀ (r fu y : Nat) (G : Nat → Nat → Int32) (st : Option (Nat × Nat × Nat)), r < fu → y + r = (if N = 1 then x else n) + 1 → 1 ≤ y → MS G g → D6 st →
    ∃ G', f_X12_deny_77 k50 fu (G, RF p q w v ds) 83 (I N) what (tkM n (g 86)) (mbest st) (mlow st) (mhigh st) (I x) (I y) = k50 (G', RF p q w v ds) 83 (I N) what (tkM n (g 86)) (mbest (dI (dV n (tkM n (g 86))) (fun x y => nst (g 84) kind (owM n (g 84) (g 86) 0) (slM np (g 86)) (tkM n (g 86) ||| (b1 (x - 1) ||| b1 (y - 1))) np) x r y st)) (mlow (dI (dV n (tkM n (g 86))) (fun x y => nst (g 84) kind (owM n (g 84) (g 86) 0) (slM np (g 86)) (tkM n (g 86) ||| (b1 (x - 1) ||| b1 (y - 1))) np) x r y st)) (mhigh (dI (dV n (tkM n (g 86))) (fun x y => nst (g 84) kind (owM n (g 84) (g 86) 0) (slM np (g 86)) (tkM n (g 86) ||| (b1 (x - 1) ||| b1 (y - 1))) np) x r y st)) (I ((x + 1 : Nat) : Int)) ∧ MF G G' ∧ D6 (dI (dV n (tkM n (g 86))) (fun x y => nst (g 84) kind (owM n (g 84) (g 86) 0) (slM np (g 86)) (tkM n (g 86) ||| (b1 (x - 1) ||| b1 (y - 1))) np) x r y st) := by
  have hn := hP.2.1
  have hnp := hP.2.2.2.1
  have ek : g 84 2 = I kind := hP.2.2.2.2.1
  intro r
  induction r with
  | zero =>
    intro fu y G st hf hk h1 hG h6
    obtain ⟨fu, rfl⟩ : ∃ k, fu = k + 1 := ⟨fu - 1, by omega⟩
    refine ⟨G, ?_, MF.rf, h6⟩
    rcases hN with rfl | rfl
    · rw [if_pos rfl] at hk
      have c1 : I (x : Int) < I (y : Int) := by rw [I_ltn (by omega) (by omega)]; omega
      simp only [f_X12_deny_77, f_X12_deny_95, if_pos (show I ((1 : Nat) : Int) = (1 : Int32) from rfl), if_pos c1, I_s, dI]
    · rw [if_neg (by decide)] at hk
      have c1 : I (n : Int) < I (y : Int) := by rw [I_ltn (by omega) (by omega)]; omega
      simp only [f_X12_deny_77, f_X12_deny_95, if_neg (show ¬ I ((2 : Nat) : Int) = (1 : Int32) by decide), r_83_1, r_83_2, r_83_3, r_83_4, r_83_6, r_83_8, r_83_11, r_83_13, r_83_15, r_83_19, r_83_20, r_83_21, r_83_22, r_83_24, r_83_25, r_83_26, r_83_28, r_83_29, k_83, n_83, k_84, n_84, k_85, n_85, k_86, n_86, k_87, n_87, k_88, n_88, k_89, n_89, k_90, n_90, k_91, n_91, k_92, n_92, k_93, n_93, k_94, n_94, k_95, n_95, k_96, n_96, k_97, n_97, k_98, n_98, k_99, n_99, k_100, n_100, k_101, n_101, ci_0, ci_1, ci_2, ci_3, ci_4, ii_0, ii_1, ii_2, ii_3, ii_4, id_0, id_1, id_2, gd, if_true, reduceIte, hG.1, hP.1, if_pos c1, I_s, dI]
  | succ r ih =>
    intro fu y G st hf hk h1 hG h6
    obtain ⟨fu, rfl⟩ : ∃ k, fu = k + 1 := ⟨fu - 1, by omega⟩
    have hy : y ≤ n := by rcases hN with rfl | rfl <;> simp at hk <;> omega
    have e0 : f_X12_deny_77 k50 (fu + 1) (G, RF p q w v ds) 83 (I N) what (tkM n (g 86)) (mbest st) (mlow st) (mhigh st) (I x) (I y) = bd (f_X12_has (G, RF p q w v ds) (tkM n (g 86)) (I (x : Int) - 1)) fun r1 h2 => if r1 = 0 then bd (f_X12_has h2 (tkM n (g 86)) (I (y : Int) - 1)) fun r4 h5 => if r4 = 0 then bd (f_X12_silent h5 83) fun r7 h8 => gd (kd (h8.2 83 1) = 16) <| gd (inr (2 : Int32) (ln (h8.2 83 1)) = true) <| bd (f_X12_stuckOf h8 83 r7 ((tkM n (g 86) ||| ((1 : Int32) <<< ((I (x : Int) - (1 : Int32)) &&& 31))) ||| ((1 : Int32) <<< ((I (y : Int) - (1 : Int32)) &&& 31))) (h8.1 (h8.2 83 1) (2 : Int32).toNatClampNeg)) fun r12 h13 => bd (f_X12_bits h13 r12) fun r15 h16 => if r15 ≤ mbest st then f_X12_deny_168 k50 (f_X12_deny_77 k50 fu) h16 83 (I N) what (tkM n (g 86)) (mbest st) (mhigh st) (I x) (I y) r15 (mlow st) else f_X12_deny_168 k50 (f_X12_deny_77 k50 fu) h16 83 (I N) what (tkM n (g 86)) (mbest st) (mhigh st) (I x) (I y) r15 (I x) else f_X12_deny_77 k50 fu h5 83 (I N) what (tkM n (g 86)) (mbest st) (mlow st) (mhigh st) (I x) (I (y : Int) + 1) else f_X12_deny_77 k50 fu h2 83 (I N) what (tkM n (g 86)) (mbest st) (mlow st) (mhigh st) (I x) (I (y : Int) + 1) := by
      rcases hN with rfl | rfl
      · rw [if_pos rfl] at hk
        have c1 : ¬ I (x : Int) < I (y : Int) := by rw [I_ltn (by omega) (by omega)]; omega
        simp only [f_X12_deny_77, f_X12_deny_95, if_pos (show I ((1 : Nat) : Int) = (1 : Int32) from rfl), if_neg c1]
      · rw [if_neg (by decide)] at hk
        have c1 : ¬ I (n : Int) < I (y : Int) := by rw [I_ltn (by omega) (by omega)]; omega
        simp only [f_X12_deny_77, f_X12_deny_95, if_neg (show ¬ I ((2 : Nat) : Int) = (1 : Int32) by decide), r_83_1, r_83_2, r_83_3, r_83_4, r_83_6, r_83_8, r_83_11, r_83_13, r_83_15, r_83_19, r_83_20, r_83_21, r_83_22, r_83_24, r_83_25, r_83_26, r_83_28, r_83_29, k_83, n_83, k_84, n_84, k_85, n_85, k_86, n_86, k_87, n_87, k_88, n_88, k_89, n_89, k_90, n_90, k_91, n_91, k_92, n_92, k_93, n_93, k_94, n_94, k_95, n_95, k_96, n_96, k_97, n_97, k_98, n_98, k_99, n_99, k_100, n_100, k_101, n_101, ci_0, ci_1, ci_2, ci_3, ci_4, ii_0, ii_1, ii_2, ii_3, ii_4, id_0, id_1, id_2, gd, if_true, reduceIte, hG.1, hP.1, if_neg c1]
    rw [e0]
    have hk' : y + 1 + r = (if N = 1 then x else n) + 1 := by omega
    have nx := fun G' st' hG' h6' => ih fu (y + 1) G' st' (by omega) hk' (by omega) hG' h6'
    have hdV : dV n (tkM n (g 86)) x y = (!bt (tkM n (g 86)) (x - 1) && !bt (tkM n (g 86)) (y - 1)) := by
      unfold dV
      rw [decide_eq_true hx.2, decide_eq_true hy]
      simp
    rw [dI, hdV, I_p hx.1, I_p h1, M_has _ _ (show x - 1 < 32 by omega), bd_s, I_s]
    cases hbx : bt (tkM n (g 86)) (x - 1) with
    | true =>
      rw [if_neg (show ¬ (if true = true then (1 : Int32) else 0) = 0 by decide), if_neg (by simp)]
      exact nx G st hG h6
    | false =>
      rw [if_pos (show (if false = true then (1 : Int32) else 0) = 0 by decide), M_has _ _ (show y - 1 < 32 by omega), bd_s]
      cases hby : bt (tkM n (g 86)) (y - 1) with
      | true =>
        rw [if_neg (show ¬ (if true = true then (1 : Int32) else 0) = 0 by decide), if_neg (by simp)]
        exact nx G st hG h6
      | false =>
        rw [if_pos (show (if false = true then (1 : Int32) else 0) = 0 by decide), if_pos (by simp)]
        have ms := M_silent (p := p) (q := q) (w := w) (v := v) (ds := ds) (g := G) (np := np) (by rw [hG.1]; exact hP.2.2.1)
        rw [hG.2.1] at ms
        obtain ⟨G2, t1', t2⟩ := M_stk (p := p) (q := q) (w := w) (v := v) (ds := ds) (g := G) (kind := kind) (slM np (g 86)) (tkM n (g 86) ||| (b1 (x - 1) ||| b1 (y - 1))) (by rw [hG.1]; exact hP) hP.2.2.2.2.2.1 (by decide : 0 ≤ 24) hG.2.2
        rw [hG.1, hG.2.1] at t1'
        have hs6 := nst_6 (M := g 84) (kind := kind) (O := owM n (g 84) (g 86) 0) (who := slM np (g 86)) (t := tkM n (g 86) ||| (b1 (x - 1) ||| b1 (y - 1))) hnp
        have en : pc 24 (stk (g 84) kind (owM n (g 84) (g 86) 0) (am (g 84)) (whl (slM np (g 86)) 0 np) (tkM n (g 86) ||| (b1 (x - 1) ||| b1 (y - 1))) 0) = nst (g 84) kind (owM n (g 84) (g 86) 0) (slM np (g 86)) (tkM n (g 86) ||| (b1 (x - 1) ||| b1 (y - 1))) np := rfl
        obtain ⟨G3, w1, w2, w3⟩ := nx G2 (dst st (nst (g 84) kind (owM n (g 84) (g 86) 0) (slM np (g 86)) (tkM n (g 86) ||| (b1 (x - 1) ||| b1 (y - 1))) np) x y) (hG.mf t2) (D6_dst h6 hs6 (by omega) (by omega))
        refine ⟨G3, ?_, t2.tr w2, w3⟩
        rw [← w1]
        simp only [ms, bd_s, r_83_1, r_83_2, r_83_3, r_83_4, r_83_6, r_83_8, r_83_11, r_83_13, r_83_15, r_83_19, r_83_20, r_83_21, r_83_22, r_83_24, r_83_25, r_83_26, r_83_28, r_83_29, k_83, n_83, k_84, n_84, k_85, n_85, k_86, n_86, k_87, n_87, k_88, n_88, k_89, n_89, k_90, n_90, k_91, n_91, k_92, n_92, k_93, n_93, k_94, n_94, k_95, n_95, k_96, n_96, k_97, n_97, k_98, n_98, k_99, n_99, k_100, n_100, k_101, n_101, ci_0, ci_1, ci_2, ci_3, ci_4, ii_0, ii_1, ii_2, ii_3, ii_4, id_0, id_1, id_2, gd, if_true, reduceIte, hG.1, ek, b1_I (show x - 1 < 1000 by omega), b1_I (show y - 1 < 1000 by omega), or_as, t1', Mbits, en, f_X12_deny_168, f_X12_deny_184, mbw_best h6 hs6, I_s]
        unfold dst
        cases hb : mbw (stm st) (nst (g 84) kind (owM n (g 84) (g 86) 0) (slM np (g 86)) (tkM n (g 86) ||| (b1 (x - 1) ||| b1 (y - 1))) np) with
        | false => simp only [if_true, reduceIte, Bool.false_eq_true, if_false]
        | true =>
          simp only [Bool.true_eq_false, if_false, if_true, reduceIte]
          rfl
theorem M_den_out {g : Nat → Nat → Int32} {n np kind N : Nat} {what : Int32} (hP : PW (g 84) n np kind) (hN : N = 1 ∨ N = 2) : ∀ (r fu x : Nat) (G : Nat → Nat → Int32) (st : Option (Nat × Nat × Nat)), r < fu → x + r = n + 1 → 1 ≤ x → MS G g → D6 st →
    ∃ G', f_X12_deny_50 fu (G, RF p q w v ds) 83 (I N) what (tkM n (g 86)) (mbest st) (mlow st) (mhigh st) (I x) = some ((match dO (dV n (tkM n (g 86))) (fun x y => nst (g 84) kind (owM n (g 84) (g 86) 0) (slM np (g 86)) (tkM n (g 86) ||| (b1 (x - 1) ||| b1 (y - 1))) np) (fun x => if N = 1 then x else x + 1) (fun x => if N = 1 then 1 else n - x) r x st with | none => I (-4) | some t => if what = 0 then I (t.1 : Nat) else if what = (1 : Int32) then I (t.2.1 : Nat) else I (t.2.2 : Nat)), (G', RF p q w v ds)) ∧ MF G G' := by
  have hn := hP.2.1
  intro r
  induction r with
  | zero =>
    intro fu x G st hf hk h1 hG h6
    obtain ⟨fu, rfl⟩ : ∃ k, fu = k + 1 := ⟨fu - 1, by omega⟩
    refine ⟨G, ?_, MF.rf⟩
    have c1 : I (n : Int) < I (x : Int) := by rw [I_ltn (by omega) (by omega)]; omega
    simp only [f_X12_deny_50, r_83_1, r_83_2, r_83_3, r_83_4, r_83_6, r_83_8, r_83_11, r_83_13, r_83_15, r_83_19, r_83_20, r_83_21, r_83_22, r_83_24, r_83_25, r_83_26, r_83_28, r_83_29, k_83, n_83, k_84, n_84, k_85, n_85, k_86, n_86, k_87, n_87, k_88, n_88, k_89, n_89, k_90, n_90, k_91, n_91, k_92, n_92, k_93, n_93, k_94, n_94, k_95, n_95, k_96, n_96, k_97, n_97, k_98, n_98, k_99, n_99, k_100, n_100, k_101, n_101, ci_0, ci_1, ci_2, ci_3, ci_4, ii_0, ii_1, ii_2, ii_3, ii_4, id_0, id_1, id_2, gd, if_true, reduceIte, hG.1, hP.1, if_pos c1, ite_som]
    show some (_, _) = some ((match st with | none => I (-4) | some t => if what = 0 then I (t.1 : Nat) else if what = (1 : Int32) then I (t.2.1 : Nat) else I (t.2.2 : Nat)), _)
    cases st with
    | none => rw [if_pos (show mlow none = (-4 : Int32) from rfl)]; rfl
    | some t =>
      have := (h6 t rfl).2.1
      rw [if_neg (show ¬ mlow (some t) = (-4 : Int32) from fun z => I_ne4 (k := t.2.1) (by omega) z)]
      rfl
  | succ r ih =>
    intro fu x G st hf hk h1 hG h6
    obtain ⟨fu, rfl⟩ : ∃ k, fu = k + 1 := ⟨fu - 1, by omega⟩
    have c1 : ¬ I (n : Int) < I (x : Int) := by rw [I_ltn (by omega) (by omega)]; omega
    obtain ⟨G1, a1, a2, a3⟩ := M_den_in (p := p) (q := q) (w := w) (v := v) (ds := ds) (what := what) (f_X12_deny_50 fu) hP hN (show 1 ≤ x ∧ x ≤ n by omega) (if N = 1 then 1 else n - x) FU (if N = 1 then x else x + 1) G st (FU_lt (by split <;> omega)) (by rcases hN with rfl | rfl <;> simp <;> omega) (by split <;> omega) hG h6
    obtain ⟨G2, b1', b2⟩ := ih fu (x + 1) G1 _ (by omega) (by omega) (by omega) (hG.mf a2) a3
    refine ⟨G2, ?_, a2.tr b2⟩
    show _ = some ((match dO _ _ _ _ r (x + 1) (dI _ _ x (if N = 1 then 1 else n - x) (if N = 1 then x else x + 1) st) with | none => I (-4) | some t => if what = 0 then I (t.1 : Nat) else if what = (1 : Int32) then I (t.2.1 : Nat) else I (t.2.2 : Nat)), _)
    rw [← b1', ← a1]
    rcases hN with rfl | rfl
    · simp only [f_X12_deny_50, r_83_1, r_83_2, r_83_3, r_83_4, r_83_6, r_83_8, r_83_11, r_83_13, r_83_15, r_83_19, r_83_20, r_83_21, r_83_22, r_83_24, r_83_25, r_83_26, r_83_28, r_83_29, k_83, n_83, k_84, n_84, k_85, n_85, k_86, n_86, k_87, n_87, k_88, n_88, k_89, n_89, k_90, n_90, k_91, n_91, k_92, n_92, k_93, n_93, k_94, n_94, k_95, n_95, k_96, n_96, k_97, n_97, k_98, n_98, k_99, n_99, k_100, n_100, k_101, n_101, ci_0, ci_1, ci_2, ci_3, ci_4, ii_0, ii_1, ii_2, ii_3, ii_4, id_0, id_1, id_2, gd, if_true, reduceIte, hG.1, hP.1, if_neg c1, if_pos (show I ((1 : Nat) : Int) = (1 : Int32) from rfl)]
    · simp only [f_X12_deny_50, r_83_1, r_83_2, r_83_3, r_83_4, r_83_6, r_83_8, r_83_11, r_83_13, r_83_15, r_83_19, r_83_20, r_83_21, r_83_22, r_83_24, r_83_25, r_83_26, r_83_28, r_83_29, k_83, n_83, k_84, n_84, k_85, n_85, k_86, n_86, k_87, n_87, k_88, n_88, k_89, n_89, k_90, n_90, k_91, n_91, k_92, n_92, k_93, n_93, k_94, n_94, k_95, n_95, k_96, n_96, k_97, n_97, k_98, n_98, k_99, n_99, k_100, n_100, k_101, n_101, ci_0, ci_1, ci_2, ci_3, ci_4, ii_0, ii_1, ii_2, ii_3, ii_4, id_0, id_1, id_2, gd, if_true, reduceIte, hG.1, hP.1, if_neg c1, if_neg (show ¬ I ((2 : Nat) : Int) = (1 : Int32) by decide), I_s, Nat.reduceEqDiff, if_false]
end T
def dval (what : Int32) (st : Option (Nat × Nat × Nat)) : Int32 := match st with | none => I (-4) | some t => if what = 0 then I (t.1 : Nat) else if what = (1 : Int32) then I (t.2.1 : Nat) else I (t.2.2 : Nat)
theorem X_d59 {p q w v : Nat} {ds : Nat → Nat} {G : Nat → Nat → Int32} {b : Int32} {st : Option (Nat × Nat × Nat)} (hD : XD G st) : (if sN st = 0 then some ((-4 : Int32), ((G, RF p q w v ds) : Hp)) else f_X11_deny_59 (G, RF p q w v ds) 1 b) = some (dval b st, (G, RF p q w v ds)) := by
  cases st with
  | none => rw [if_pos (show sN none = 0 from rfl)]; rfl
  | some t =>
    obtain ⟨h1, h2⟩ := hD
    obtain ⟨h2, h3⟩ := h2 t rfl
    rw [if_neg (show ¬ sN (some t) = 0 by show ¬ (1 : Int32) = 0; decide)]
    unfold f_X11_deny_59
    simp only [r_1_0, r_1_1, r_1_2, r_1_3, r_1_4, r_1_5, r_1_6, r_1_7, r_1_8, r_1_9, r_1_10, r_1_11, k_1, n_1, k_78, gd, if_true, reduceIte, h1, h2, h3, ite_som]
    rfl
theorem S_deny : Sp2 Inv f_X11_deny f_X12_deny := by
  rintro h a b ⟨g, p, q, w, v, ds, n, np, kind, rfl, hV⟩
  have hn := hV.pw.2.1
  have hnp := hV.pw.2.2.2.1
  have z1 : ¬ (1 : Int32) = 0 := by decide
  have l1 : (a < (1 : Int32)) = (a.toInt < 1) := lt_out (z := 1) (by decide)
  have l2 : ((2 : Int32) < a) = (2 < a.toInt) := gt_out (z := 2) (by decide)
  have c0 : (b < (0 : Int32)) = (b.toInt < 0) := lt_out (z := 0) (by decide)
  have c2 : (b ≤ (2 : Int32)) = (b.toInt ≤ 2) := le_out (z := 2) (by decide)
  by_cases hc : (1 ≤ a.toInt ∧ a.toInt ≤ 2) ∧ (0 ≤ b.toInt ∧ b.toInt ≤ 2)
  · obtain ⟨N, hN, rfl⟩ := num_c (n := 2) hc.1
    have hN2 : N = 1 ∨ N = 2 := by omega
    obtain ⟨g1, n1, n2, n3, n4, n5, n6⟩ := X_now (p := p) (q := q) (w := w) (v := v) (ds := ds) hV.2.2.2.1
    obtain ⟨g2, hg2⟩ : ∃ g2, g2 = uc g1 78 (upd (g1 78) 0 (-4)) := ⟨_, rfl⟩
    have s2 : Sb [78] g1 g2 := by rw [hg2]; exact Sb.rf.uc (by decide)
    have hC2 : XC g2 (g 84) n (slM np (g 86)) kind (owM n (g 84) (g 86) 0) := ⟨n3.2.2.2.2.2.sc (s2.mono (by decide)), n4.keep (s2 75 (by decide)) (s2 76 (by decide)) (s2 77 (by decide)), by rw [s2 75 (by decide)]; exact n5⟩
    have hD2 : XD g2 none := ⟨by rw [hg2, uc_s, upd_s]; rfl, fun t e => by cases e⟩
    have h60 : D6 none := fun t e => by cases e
    obtain ⟨st, hst⟩ : ∃ st, st = dO (dV n (tkM n (g 86))) (fun x y => nst (g 84) kind (owM n (g 84) (g 86) 0) (slM np (g 86)) (tkM n (g 86) ||| (b1 (x - 1) ||| b1 (y - 1))) np) (fun x => if N = 1 then x else x + 1) (fun x => if N = 1 then 1 else n - x) n 1 none := ⟨_, rfl⟩
    have X0 : ∃ g3, f_X11_deny (g, RF p q w v ds) 1 (I N) b = some (dval b st, (g3, RF p q w v ds)) ∧ XC g3 (g 84) n (slM np (g 86)) kind (owM n (g 84) (g 86) 0) ∧ Sb GWC g2 g3 := by
      rcases hN2 with rfl | rfl
      · obtain ⟨g3, a1, a2, a3, a4⟩ := X_one_lp (p := p) (q := q) (w := w) (v := v) (ds := ds) (t := tkM n (g 86)) hV.pw (slM_lo hnp) 24 FU 1 g2 none (FU_lt (by omega)) (by omega) (by omega) hC2 hD2 h60
        rw [d_one hn.2] at a1 a3
        simp only [if_true, reduceIte] at hst
        rw [← hst] at a1 a3
        have a1 : f_X1_denyOne_13 FU (g2, RF p q w v ds) 78 75 (tkM n (g 86)) 1 = _ := a1
        refine ⟨g3, ?_, a2, a4⟩
        have e1 : f_X1_denyOne (g1, RF p q w v ds) 78 75 = some (sN st, (g3, RF p q w v ds)) := by
          unfold f_X1_denyOne
          revert a1
          generalize f_X1_denyOne_13 FU = lf
          intro a1
          rw [gd_t (show kd 78 = 1 from rfl), gd_t (show kd 75 = 6 from rfl), lt_w, ← hg2]
          simp only [n6, a1]
        rw [← X_d59 a3]
        unfold f_X11_deny
        revert e1
        generalize f_X1_denyOne = df
        intro e1
        simp only [r_1_0, r_1_1, r_1_2, r_1_3, r_1_4, r_1_5, r_1_6, r_1_7, r_1_8, r_1_9, r_1_10, r_1_11, k_1, n_1, k_75, k_78, gd, if_true, reduceIte, l1, l2, c0, c2, if_neg (show ¬ (I ((1 : Nat) : Int)).toInt < 1 by omega), if_neg (show ¬ 2 < (I ((1 : Nat) : Int)).toInt by omega), if_neg (show ¬ b.toInt < 0 by omega), if_pos hc.2.2, n1, bd_w, if_pos (show I ((1 : Nat) : Int) = (1 : Int32) from rfl), e1]
      · obtain ⟨g3, a1, a2, a3, a4⟩ := X_two_lp (p := p) (q := q) (w := w) (v := v) (ds := ds) (t := tkM n (g 86)) hV.pw (slM_lo hnp) 23 FU 1 g2 none (FU_lt (by omega)) (by omega) (by omega) hC2 hD2 h60
        rw [d_two hn.1 hn.2] at a1 a3
        simp only [Nat.reduceEqDiff, if_false] at hst
        rw [← hst] at a1 a3
        have a1 : f_X1_denyTwo_13 FU (g2, RF p q w v ds) 78 75 (tkM n (g 86)) 1 = _ := a1
        refine ⟨g3, ?_, a2, a4⟩
        have e1 : f_X1_denyTwo (g1, RF p q w v ds) 78 75 = some (sN st, (g3, RF p q w v ds)) := by
          unfold f_X1_denyTwo
          revert a1
          generalize f_X1_denyTwo_13 FU = lf
          intro a1
          rw [gd_t (show kd 78 = 1 from rfl), gd_t (show kd 75 = 6 from rfl), lt_w, ← hg2]
          simp only [n6, a1]
        rw [← X_d59 a3]
        unfold f_X11_deny
        revert e1
        generalize f_X1_denyTwo = df
        intro e1
        simp only [r_1_0, r_1_1, r_1_2, r_1_3, r_1_4, r_1_5, r_1_6, r_1_7, r_1_8, r_1_9, r_1_10, r_1_11, k_1, n_1, k_75, k_78, gd, if_true, reduceIte, l1, l2, c0, c2, if_neg (show ¬ (I ((2 : Nat) : Int)).toInt < 1 by omega), if_neg (show ¬ 2 < (I ((2 : Nat) : Int)).toInt by omega), if_neg (show ¬ b.toInt < 0 by omega), if_pos hc.2.2, n1, bd_w, if_neg (show ¬ I ((2 : Nat) : Int) = (1 : Int32) by decide), e1]
    obtain ⟨g3, X0, hC3, s3⟩ := X0
    have hX : XK q g g3 := (((n2.mono (B := QC) (by decide)).tr (s2.mono (by decide))).tr (s3.mono (by decide))).qc
    have hS := MS.of hV hX
    obtain ⟨g4, y1, y2⟩ := M_den_out (p := p) (q := q) (w := w) (v := v) (ds := ds) (what := b) hV.pw hN2 n FU 1 (th g3) none (FU_lt (by omega)) (by omega) (by omega) hS h60
    rw [← hst] at y1
    have y1 : f_X12_deny_50 FU (th g3, RF p q w v ds) 83 (I N) b (tkM n (g 86)) (-1) (-4) (-4) 1 = some (dval b st, (g4, RF p q w v ds)) := y1
    have mt := M_taken (p := p) (q := q) (w := w) (v := v) (ds := ds) (g := th g3) hn.2 (by rw [hS.1]; exact hV.pw.1)
    rw [hS.2.1] at mt
    refine ⟨_, _, _, X0, ?_, hV.q1 hX hC3.1 ((th_mk g3).tr y2.mk)⟩
    rotate_left
    · unfold f_X12_deny
      revert y1
      generalize f_X12_deny_50 FU = lf
      intro y1
      rw [gd_t (show kd 83 = 12 from rfl), th_lt]
      simp only [M_in, Int32.toInt_toInt64, show (1 : Int64).toInt = 1 by decide, show (2 : Int64).toInt = 2 by decide, show (0 : Int64).toInt = 0 by decide, if_pos hc.1, if_pos hc.2, bd_w, if_neg z1, mt, y1]
  · refine ⟨-1, (g, RF p q w v ds), (th g, RF p q w v ds), ?_, ?_, hV.ask (th_mk g)⟩
    · unfold f_X11_deny
      generalize f_X1_denyTwo = df
      generalize f_X1_denyOne = df1
      simp only [r_1_0, r_1_1, r_1_2, r_1_3, r_1_4, r_1_5, r_1_6, r_1_7, r_1_8, r_1_9, r_1_10, r_1_11, k_1, n_1, gd, if_true, reduceIte, l1, l2, c0, c2]
      by_cases d1 : a.toInt < 1
      · rw [if_pos d1]
      · rw [if_neg d1]
        by_cases d2 : 2 < a.toInt
        · rw [if_pos d2]
        · rw [if_neg d2]
          by_cases d3 : b.toInt < 0
          · rw [if_pos d3]
          · rw [if_neg d3, if_neg (fun z => hc ⟨by omega, by omega⟩)]
    · unfold f_X12_deny
      generalize f_X12_deny_50 FU = lf
      rw [gd_t (show kd 83 = 12 from rfl), th_lt]
      simp only [M_in, Int32.toInt_toInt64, show (1 : Int64).toInt = 1 by decide, show (2 : Int64).toInt = 2 by decide, show (0 : Int64).toInt = 0 by decide, bd_w]
      by_cases d1 : 1 ≤ a.toInt ∧ a.toInt ≤ 2
      · rw [if_pos d1, if_neg z1, if_neg (fun z => hc ⟨d1, z⟩), if_pos rfl]
      · rw [if_neg d1, if_pos rfl]
