/-! year: the reference, and both -/
theorem ycan_c (M : Nat → Int32) (kind : Nat) (O : Nat → Int32) (A : Nat → Nat) (i : Nat) (l : List Nat) (t : Int32) : ycan M kind O A (i :: l) t = (if BT M kind (O i &&& (t ^^^ (-1))) (A i) = [] then 0 else 1) + ycan M kind O A l (t ||| us (BT M kind (O i &&& (t ^^^ (-1))) (A i))) := rfl
theorem year65_s (k50 : Hp → Nat → Int32 → Int32 → Int32 → Int32 → Int32 → Int32 → Option (Int32 × Hp)) (fu : Nat) (h : Hp) (x0 : Nat) (x1 x2 x3 x4 x5 x6 x7 x8 x9 : Int32) : f_X12_year_65 k50 (fu + 1) h x0 x1 x2 x3 x4 x5 x6 x7 x8 x9 = gd (kd (h.2 x0 1) = 16) (gd (inr (1 : Int32) (ln (h.2 x0 1)) = true) (if (h.1 (h.2 x0 1) (1 : Int32).toNatClampNeg) ≤ x9 then gd (kd (h.2 x0 1) = 16) (gd (inr (1 : Int32) (ln (h.2 x0 1)) = true) (gd (kd (h.2 x0 1) = 16) (gd (inr (1 : Int32) (ln (h.2 x0 1)) = true) (if x8 = (h.1 (h.2 x0 1) (1 : Int32).toNatClampNeg) then k50 h x0 x1 x2 x3 (x4 + ((h.1 (h.2 x0 1) (1 : Int32).toNatClampNeg) - x8)) (x5 + (1 : Int32)) (x6 + (1 : Int32)) else k50 h x0 x1 x2 x3 (x4 + ((h.1 (h.2 x0 1) (1 : Int32).toNatClampNeg) - x8)) (x5 + (0 : Int32)) (x6 + (1 : Int32)))))) else f_X12_year_126 k50 (f_X12_year_65 k50 fu) FU h x0 x1 x2 x3 x4 x5 x6 x7 x8 x9 (dE x1 x6 x9) (0 : Int32) (1 : Int32))) := by
  rw [f_X12_year_65]
  rfl
section T
variable {p q w v : Nat} {ds : Nat → Nat}
theorem M_y126 {G : Nat → Nat → Int32} {n i : Nat} {x1 x2 x3 x4 x5 x6 x7 x8 x12 : Int32} (k50 : Hp → Nat → Int32 → Int32 → Int32 → Int32 → Int32 → Int32 → Option (Int32 × Hp)) (k65 : Hp → Nat → Int32 → Int32 → Int32 → Int32 → Int32 → Int32 → Int32 → Int32 → Int32 → Option (Int32 × Hp)) (hn : n ≤ 24) (h0 : G 84 0 = I n) : ∀ (r fu j : Nat), r < fu → j + r = n →
    f_X12_year_126 k50 k65 fu (G, RF p q w v ds) 83 x1 x2 x3 x4 x5 x6 x7 x8 (I i) x12 (mk j (fun j => decide (G 84 (29 + j) = I (-4) ∨ G 84 (29 + j) = I i))) (I ((j + 1 : Nat) : Int)) = bd (f_X12_bestOf (G, RF p q w v ds) 83 (mk n (fun j => decide (G 84 (29 + j) = I (-4) ∨ G 84 (29 + j) = I i)) &&& (x7 ^^^ (-1))) x12 (G 84 2)) (fun r5 h6 => if r5 = (-4 : Int32) then f_X12_year_217 k50 k65 h6 83 x1 x2 x3 x4 x5 x6 x7 x8 (I i) 0 else f_X12_year_217 k50 k65 h6 83 x1 x2 x3 x4 x5 x6 x7 x8 (I i) 1) := by
  intro r
  induction r with
  | zero =>
    intro fu j hf hj
    obtain ⟨fu, rfl⟩ : ∃ k, fu = k + 1 := ⟨fu - 1, by omega⟩
    have c1 : I (n : Int) < I ((j + 1 : Nat) : Int) := by rw [I_ltn (by omega) (by omega)]; omega
    simp only [f_X12_year_126, r_83_1, r_83_2, r_83_3, r_83_4, r_83_6, r_83_8, r_83_11, r_83_13, r_83_15, r_83_19, r_83_20, r_83_21, r_83_22, r_83_24, r_83_25, r_83_26, r_83_28, r_83_29, k_83, n_83, k_84, n_84, k_85, n_85, k_86, n_86, k_87, n_87, k_88, n_88, k_89, n_89, k_90, n_90, k_91, n_91, k_92, n_92, k_93, n_93, k_94, n_94, k_95, n_95, k_96, n_96, k_97, n_97, k_98, n_98, k_99, n_99, k_100, n_100, k_101, n_101, ci_0, ci_1, ci_2, ci_3, ci_4, ii_0, ii_1, ii_2, ii_3, ii_4, id_0, id_1, id_2, gd, if_true, reduceIte, h0, if_pos c1]
    rw [show j = n by omega]
  | succ r ih =>
    intro fu j hf hj
    obtain ⟨fu, rfl⟩ : ∃ k, fu = k + 1 := ⟨fu - 1, by omega⟩
    have c1 : ¬ I (n : Int) < I ((j + 1 : Nat) : Int) := by rw [I_ltn (by omega) (by omega)]; omega
    have e1 : (28 : Int32) + I ((j + 1 : Nat) : Int) = I ((29 + j : Nat) : Int) := by show I ((28 : Nat) : Int) + _ = _; rw [I_k]; congr 2; omega
    have nx := ih fu (j + 1) (by omega) (by omega)
    have ye : ∀ (hc : G 84 (29 + j) = I (-4) ∨ G 84 (29 + j) = I i), mk (j + 1) (fun j => decide (G 84 (29 + j) = I (-4) ∨ G 84 (29 + j) = I i)) = mk j (fun j => decide (G 84 (29 + j) = I (-4) ∨ G 84 (29 + j) = I i)) ||| b1 j := by
      intro hc
      show _ ||| (if decide (G 84 (29 + j) = I (-4) ∨ G 84 (29 + j) = I i) then b1 j else 0) = _
      rw [decide_eq_true hc]; rfl
    rw [← nx]
    clear nx
    simp only [f_X12_year_126, f_X12_year_169, r_83_1, r_83_2, r_83_3, r_83_4, r_83_6, r_83_8, r_83_11, r_83_13, r_83_15, r_83_19, r_83_20, r_83_21, r_83_22, r_83_24, r_83_25, r_83_26, r_83_28, r_83_29, k_83, n_83, k_84, n_84, k_85, n_85, k_86, n_86, k_87, n_87, k_88, n_88, k_89, n_89, k_90, n_90, k_91, n_91, k_92, n_92, k_93, n_93, k_94, n_94, k_95, n_95, k_96, n_96, k_97, n_97, k_98, n_98, k_99, n_99, k_100, n_100, k_101, n_101, ci_0, ci_1, ci_2, ci_3, ci_4, ii_0, ii_1, ii_2, ii_3, ii_4, id_0, id_1, id_2, gd, if_true, reduceIte, h0, if_neg c1, e1, I_in (show 29 + j < 59 by omega) (show 59 < 1000000 by decide), I_ix (show 29 + j < 1000000 by omega), b1_eq (show 1 ≤ j + 1 by omega), Nat.add_sub_cancel, I_s]
    by_cases c : G 84 (29 + j) = I (-4)
    · rw [if_pos (show G 84 (29 + j) = (-4 : Int32) from c), ye (Or.inl c)]
    · rw [if_neg (show ¬ G 84 (29 + j) = (-4 : Int32) from c)]
      by_cases d : G 84 (29 + j) = I i
      · rw [if_pos d, ye (Or.inr d)]
      · rw [if_neg d]
        have e : mk (j + 1) (fun j => decide (G 84 (29 + j) = I (-4) ∨ G 84 (29 + j) = I i)) = mk j (fun j => decide (G 84 (29 + j) = I (-4) ∨ G 84 (29 + j) = I i)) ||| 0 := by
          show _ ||| (if decide (G 84 (29 + j) = I (-4) ∨ G 84 (29 + j) = I i) then b1 j else 0) = _
          rw [decide_eq_false (by rintro (z | z) <;> contradiction)]; rfl
        rw [e]
theorem M_y65 {g : Nat → Nat → Int32} {n np kind z k : Nat} {x2 x3 x4 x5 : Int32} (k50 : Hp → Nat → Int32 → Int32 → Int32 → Int32 → Int32 → Int32 → Option (Int32 × Hp)) (hP : PW (g 84) n np kind) (hz : z ≤ 9999) (hk : k ≤ 100) : ∀ (m fu i c : Nat) (t : Int32) (G : Nat → Nat → Int32), m < fu → i + m = np → c ≤ i → MS G g →
    ∃ G', f_X12_year_65 k50 fu (G, RF p q w v ds) 83 (I z) x2 x3 x4 x5 (I k) t (I c) (I i) = k50 (G', RF p q w v ds) 83 (I z) x2 x3 (x4 + I ((np - (c + ycan (g 84) kind (owM n (g 84) (dawnT 0) 0) (dr z k) (List.range' i m) t) : Nat) : Int)) (if c + ycan (g 84) kind (owM n (g 84) (dawnT 0) 0) (dr z k) (List.range' i m) t = np then x5 + 1 else x5 + 0) (I ((k + 1 : Nat) : Int)) ∧ MF G G' := by
  have hn := hP.2.1
  have hnp := hP.2.2.2.1
  have ek : g 84 2 = I kind := hP.2.2.2.2.1
  intro m
  induction m with
  | zero =>
    intro fu i c t G hf hi hc hG
    obtain ⟨fu, rfl⟩ : ∃ k, fu = k + 1 := ⟨fu - 1, by omega⟩
    have c1 : I (np : Int) ≤ I (i : Int) := by rw [I_len (by omega) (by omega)]; omega
    have e1 : I (np : Int) - I (c : Int) = I ((np - c : Nat) : Int) := by rw [I_sub]; congr 1; omega
    refine ⟨G, ?_, MF.rf⟩
    show _ = k50 _ 83 _ _ _ (x4 + I ((np - (c + 0) : Nat) : Int)) (if c + 0 = np then _ else _) _
    rw [year65_s]
    simp only [r_83_1, r_83_2, r_83_3, r_83_4, r_83_6, r_83_8, r_83_11, r_83_13, r_83_15, r_83_19, r_83_20, r_83_21, r_83_22, r_83_24, r_83_25, r_83_26, r_83_28, r_83_29, k_83, n_83, k_84, n_84, k_85, n_85, k_86, n_86, k_87, n_87, k_88, n_88, k_89, n_89, k_90, n_90, k_91, n_91, k_92, n_92, k_93, n_93, k_94, n_94, k_95, n_95, k_96, n_96, k_97, n_97, k_98, n_98, k_99, n_99, k_100, n_100, k_101, n_101, ci_0, ci_1, ci_2, ci_3, ci_4, ii_0, ii_1, ii_2, ii_3, ii_4, id_0, id_1, id_2, gd, if_true, reduceIte, hG.1, hP.2.2.1, if_pos c1, I_eqn (show c < 1000000 by omega) (show np < 1000000 by omega), e1, I_s, Nat.add_zero]
    by_cases d : c = np
    · rw [if_pos d, if_pos d]
    · rw [if_neg d, if_neg d]
  | succ m ih =>
    intro fu i c t G hf hi hc hG
    obtain ⟨fu, rfl⟩ : ∃ k, fu = k + 1 := ⟨fu - 1, by omega⟩
    have c1 : ¬ I (np : Int) ≤ I (i : Int) := by rw [I_len (by omega) (by omega)]; omega
    have lp := M_y126 (p := p) (q := q) (w := w) (v := v) (ds := ds) (G := G) (i := i) (x1 := I z) (x2 := x2) (x3 := x3) (x4 := x4) (x5 := x5) (x6 := I k) (x7 := t) (x8 := I c) (x12 := I (dr z k i : Nat)) k50 (f_X12_year_65 k50 fu) hn.2 (by rw [hG.1]; exact hP.1) n FU 0 (FU_lt (by omega)) (by omega)
    rw [hG.1, owY hn.2 (by omega), ek] at lp
    obtain ⟨G1, v1, v2⟩ := M_bo (p := p) (q := q) (w := w) (v := v) (ds := ds) (g := G) (a := dr z k i) (may := owM n (g 84) (dawnT 0) 0 i &&& (t ^^^ (-1))) (by rw [hG.1]; exact hP) hP.2.2.2.2.2.1 (LO_and (LO_mk hn.2 _) _) (dr_b z k i)
    rw [hG.1] at v1 v2
    rw [v1, bd_w] at lp
    simp only [RES_4 (wM_WB hP)] at lp
    have hG1 := hG.mf v2.mf
    have lp : f_X12_year_126 k50 (f_X12_year_65 k50 fu) FU (G, RF p q w v ds) 83 (I z) x2 x3 x4 x5 (I k) t (I c) (I i) (I (dr z k i : Nat)) 0 1 = _ := lp
    rw [year65_s]
    simp only [r_83_1, r_83_2, r_83_3, r_83_4, r_83_6, r_83_8, r_83_11, r_83_13, r_83_15, r_83_19, r_83_20, r_83_21, r_83_22, r_83_24, r_83_25, r_83_26, r_83_28, r_83_29, k_83, n_83, k_84, n_84, k_85, n_85, k_86, n_86, k_87, n_87, k_88, n_88, k_89, n_89, k_90, n_90, k_91, n_91, k_92, n_92, k_93, n_93, k_94, n_94, k_95, n_95, k_96, n_96, k_97, n_97, k_98, n_98, k_99, n_99, k_100, n_100, k_101, n_101, ci_0, ci_1, ci_2, ci_3, ci_4, ii_0, ii_1, ii_2, ii_3, ii_4, id_0, id_1, id_2, gd, if_true, reduceIte, hG.1, hP.2.2.1, if_neg c1, dE_e hz hk (show i ≤ 100 by omega)]
    rw [lp, List.range'_succ, ycan_c]
    by_cases he : BT (g 84) kind (owM n (g 84) (dawnT 0) 0 i &&& (t ^^^ (-1))) (dr z k i) = []
    · obtain ⟨G2, w1, w2⟩ := ih fu (i + 1) c (t ||| us (BT (g 84) kind (owM n (g 84) (dawnT 0) 0 i &&& (t ^^^ (-1))) (dr z k i))) G1 (by omega) (by omega) (by omega) hG1
      refine ⟨G2, ?_, v2.mf.tr w2⟩
      rw [if_pos he, if_pos he, Nat.zero_add, ← w1, us_0.mpr he]
      simp only [f_X12_year_217, f_X12_year_234, if_true, reduceIte, I_p0, I_s]
    · obtain ⟨G2, w1, w2⟩ := ih fu (i + 1) (c + 1) (t ||| us (BT (g 84) kind (owM n (g 84) (dawnT 0) 0 i &&& (t ^^^ (-1))) (dr z k i))) G1 (by omega) (by omega) (by omega) hG1
      refine ⟨G2, ?_, v2.mf.tr w2⟩
      have hu : G1 83 16 ||| G1 83 17 ||| G1 83 18 = us (BT (g 84) kind (owM n (g 84) (dawnT 0) 0 i &&& (t ^^^ (-1))) (dr z k i)) := by rw [v2.1, v2.2.1, v2.2.2.1]; rfl
      rw [if_neg he, if_neg he, ← Nat.add_assoc, ← w1]
      clear w1 lp v1 v2
      generalize us (BT (g 84) kind (owM n (g 84) (dawnT 0) 0 i &&& (t ^^^ (-1))) (dr z k i)) = U at hu ⊢
      have z1 : ¬ (1 : Int32) = 0 := by decide
      simp only [f_X12_year_217, f_X12_year_234, if_neg z1, M_usedSet, bd_w, hu, I_s]
theorem M_yr {g : Nat → Nat → Int32} {n np kind z nd : Nat} {what : Int32} (hP : PW (g 84) n np kind) (hz : z ≤ 9999) (hd : nd ≤ 30) : ∀ (r fu k tm dy : Nat) (G : Nat → Nat → Int32), r < fu → k + r = nd → MS G g →
    ∃ G', f_X12_year_50 fu (G, RF p q w v ds) 83 (I z) (I nd) what (I tm) (I dy) (I k) = some (if what = 0 then I ((yR (g 84) n np kind z r k tm dy).1 : Nat) else I ((yR (g 84) n np kind z r k tm dy).2 : Nat), (G', RF p q w v ds)) ∧ MF G G' := by
  have hnp := hP.2.2.2.1
  intro r
  induction r with
  | zero =>
    intro fu k tm dy G hf hk hG
    obtain ⟨fu, rfl⟩ : ∃ k, fu = k + 1 := ⟨fu - 1, by omega⟩
    have c1 : I (nd : Int) ≤ I (k : Int) := by rw [I_len (by omega) (by omega)]; omega
    refine ⟨G, ?_, MF.rf⟩
    simp only [f_X12_year_50, if_pos c1, ite_som]
    rfl
  | succ r ih =>
    intro fu k tm dy G hf hk hG
    obtain ⟨fu, rfl⟩ : ∃ k, fu = k + 1 := ⟨fu - 1, by omega⟩
    have c1 : ¬ I (nd : Int) ≤ I (k : Int) := by rw [I_len (by omega) (by omega)]; omega
    obtain ⟨G1, a1, a2⟩ := M_y65 (p := p) (q := q) (w := w) (v := v) (ds := ds) (k := k) (x2 := I nd) (x3 := what) (x4 := I tm) (x5 := I dy) (f_X12_year_50 fu) hP hz (by omega) np FU 0 0 0 G (FU_lt (by omega)) (by omega) (by omega) hG
    have a1 : f_X12_year_65 (f_X12_year_50 fu) FU (G, RF p q w v ds) 83 (I z) (I nd) what (I tm) (I dy) (I k) 0 0 0 = _ := a1
    have hy := ycan_e (M := g 84) (kind := kind) (O := owM n (g 84) (dawnT 0) 0) (A := dr z k) np 0 0 0 (by omega) (fun j _ => bt_0 j)
    have hy : pc 32 (yst (g 84) n np kind z k) + ycan (g 84) kind (owM n (g 84) (dawnT 0) 0) (dr z k) (List.range' 0 np) 0 = 0 + np := hy
    generalize ycan (g 84) kind (owM n (g 84) (dawnT 0) 0) (dr z k) (List.range' 0 np) 0 = C at a1 hy
    obtain ⟨G2, w1, w2⟩ := ih fu (k + 1) (tm + pc 32 (yst (g 84) n np kind z k)) (if yst (g 84) n np kind z k = 0 then dy + 1 else dy) G1 (by omega) (by omega) (hG.mf a2)
    refine ⟨G2, ?_, a2.tr w2⟩
    rw [yR, ← w1]
    clear w1
    have hz0 := pc_0 (x := yst (g 84) n np kind z k)
    generalize yst (g 84) n np kind z k = S at hz0 hy ⊢
    have e1 : np - (0 + C) = pc 32 S := by omega
    have e2 : (0 + C = np) ↔ S = 0 := by rw [← hz0]; omega
    rw [e1] at a1
    simp only [f_X12_year_50, if_neg c1, a1, e2, I_k, I_s, I_p0]
    by_cases c : S = 0
    · rw [if_pos c, if_pos c]
    · rw [if_neg c, if_neg c]
end T
theorem S_year : Sp3 Inv f_X11_year f_X12_year := by
  rintro h a b c ⟨g, p, q, w, v, ds, n, np, kind, rfl, hV⟩
  have hn := hV.pw.2.1
  have hnp := hV.pw.2.2.2.1
  have z1 : ¬ (1 : Int32) = 0 := by decide
  have a0 : (a < (0 : Int32)) = (a.toInt < 0) := lt_out (z := 0) (by decide)
  have a9 : ((9999 : Int32) < a) = (9999 < a.toInt) := gt_out (z := 9999) (by decide)
  have b1' : (b < (1 : Int32)) = (b.toInt < 1) := lt_out (z := 1) (by decide)
  have b30 : ((30 : Int32) < b) = (30 < b.toInt) := gt_out (z := 30) (by decide)
  have c0 : (c < (0 : Int32)) = (c.toInt < 0) := lt_out (z := 0) (by decide)
  have c1 : (c ≤ (1 : Int32)) = (c.toInt ≤ 1) := le_out (z := 1) (by decide)
  by_cases hc : (0 ≤ a.toInt ∧ a.toInt ≤ 9999) ∧ (1 ≤ b.toInt ∧ b.toInt ≤ 30) ∧ (0 ≤ c.toInt ∧ c.toInt ≤ 1)
  · obtain ⟨z, hz, rfl⟩ := per_c (n := 10000) (a := a) (by omega)
    obtain ⟨nd, hd, rfl⟩ := num_c (n := 30) hc.2.1
    obtain ⟨g1, x1, x2, x3⟩ := X_yr (p := p) (q := q) (w := w) (v := v) (ds := ds) (what := c) (show z ≤ 9999 by omega) hd.2 nd FU 0 0 0 g (FU_lt (by omega)) (by omega) hV.2.2.2.1
    have x1 : f_X11_year_42 FU (g, RF p q w v ds) 1 (I z) (I nd) c 0 0 0 = _ := x1
    have hX : XK q g g1 := x2.qc
    have hS := MS.of hV hX
    obtain ⟨g2, y1, y2⟩ := M_yr (p := p) (q := q) (w := w) (v := v) (ds := ds) (what := c) hV.pw (show z ≤ 9999 by omega) hd.2 nd FU 0 0 0 (th g1) (FU_lt (by omega)) (by omega) hS
    have y1 : f_X12_year_50 FU (th g1, RF p q w v ds) 83 (I z) (I nd) c 0 0 0 = _ := y1
    generalize (if c = 0 then I ((yR (g 84) n np kind z nd 0 0 0).1 : Nat) else I ((yR (g 84) n np kind z nd 0 0 0).2 : Nat)) = R at x1 y1
    refine ⟨R, (g1, RF p q w v ds), (g2, RF p q w v ds), ?_, ?_, hV.q1 hX x3.2.2.2.2.2 ((th_mk g1).tr y2.mk)⟩
    · unfold f_X11_year
      revert x1
      generalize f_X11_year_42 FU = lf
      intro x1
      simp only [r_1_0, r_1_1, r_1_2, r_1_3, r_1_4, r_1_5, r_1_6, r_1_7, r_1_8, r_1_9, r_1_10, r_1_11, k_1, n_1, gd, if_true, reduceIte, a0, a9, b1', b30, c0, c1, if_neg (show ¬ (I (z : Int)).toInt < 0 by omega), if_neg (show ¬ 9999 < (I (z : Int)).toInt by omega), if_neg (show ¬ (I (nd : Int)).toInt < 1 by omega), if_neg (show ¬ 30 < (I (nd : Int)).toInt by omega), if_neg (show ¬ c.toInt < 0 by omega), if_pos hc.2.2.2, x1]
    · unfold f_X12_year
      revert y1
      generalize f_X12_year_50 FU = lf
      intro y1
      rw [gd_t (show kd 83 = 12 from rfl), th_lt]
      simp only [M_in, Int32.toInt_toInt64, show (1 : Int64).toInt = 1 by decide, show (0 : Int64).toInt = 0 by decide, show (9999 : Int64).toInt = 9999 by decide, show (30 : Int64).toInt = 30 by decide, if_pos hc.1, if_pos hc.2.1, if_pos hc.2.2, bd_w, if_neg z1, y1]
  · refine ⟨-1, (g, RF p q w v ds), (th g, RF p q w v ds), ?_, ?_, hV.ask (th_mk g)⟩
    · unfold f_X11_year
      generalize f_X11_year_42 FU = lf
      simp only [r_1_0, r_1_1, r_1_2, r_1_3, r_1_4, r_1_5, r_1_6, r_1_7, r_1_8, r_1_9, r_1_10, r_1_11, k_1, n_1, gd, if_true, reduceIte, a0, a9, b1', b30, c0, c1]
      by_cases d1 : a.toInt < 0
      · rw [if_pos d1]
      · rw [if_neg d1]
        by_cases d2 : 9999 < a.toInt
        · rw [if_pos d2]
        · rw [if_neg d2]
          by_cases d3 : b.toInt < 1
          · rw [if_pos d3]
          · rw [if_neg d3]
            by_cases d4 : 30 < b.toInt
            · rw [if_pos d4]
            · rw [if_neg d4]
              by_cases d5 : c.toInt < 0
              · rw [if_pos d5]
              · rw [if_neg d5, if_neg (fun z => hc ⟨by omega, by omega, by omega⟩)]
    · unfold f_X12_year
      generalize f_X12_year_50 FU = lf
      rw [gd_t (show kd 83 = 12 from rfl), th_lt]
      simp only [M_in, Int32.toInt_toInt64, show (1 : Int64).toInt = 1 by decide, show (0 : Int64).toInt = 0 by decide, show (9999 : Int64).toInt = 9999 by decide, show (30 : Int64).toInt = 30 by decide, bd_w]
      by_cases d1 : 0 ≤ a.toInt ∧ a.toInt ≤ 9999
      · rw [if_pos d1, if_neg z1]
        by_cases d2 : 1 ≤ b.toInt ∧ b.toInt ≤ 30
        · rw [if_pos d2, if_neg z1, if_neg (fun z => hc ⟨d1, d2, z⟩), if_pos rfl]
        · rw [if_neg d2, if_pos rfl]
      · rw [if_neg d1, if_pos rfl]
