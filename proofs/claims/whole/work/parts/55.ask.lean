/-! best, stuck, lowest, freed, value, changed -/
theorem bd_w {ρ α : Type} (v : ρ) (h : Hp) (k : ρ → Hp → Option α) : bd (some (v, h)) k = k v h := Eq.trans rfl rfl
section T
variable {p q w v : Nat} {ds : Nat → Nat}
theorem X_prc {g : Nat → Nat → Int32} {wt : Nat → Nat → Int} {L : List (Nat × Nat)} (h : FND g wt L) : f_X5_price (g, RF p q w v ds) 61 = some (I (spr wt L), (g, RF p q w v ds)) := by
  obtain ⟨s, h1, h2, h3⟩ := h
  unfold f_X5_price
  simp only [r_61_0, r_61_1, r_61_2, r_61_3, r_61_4, r_61_5, r_61_6, r_61_7, r_62_4, r_62_5, r_62_6, r_62_7, r_62_8, k_61, n_61, k_62, n_62, k_63, n_63, k_64, n_64, k_65, n_65, k_66, n_66, k_67, n_67, k_68, n_68, k_69, n_69, k_70, n_70, k_71, n_71, k_72, n_72, k_73, n_73, k_74, n_74, gd, lt, bd_s, if_true, if_false, reduceIte, si_uc, uc_s, uc_n, upd_s, upd_n, Nat.reduceEqDiff, ne_eq, not_false_eq_true, not_true_eq_false, h2, I_in (show s < 800 by omega) (show 800 < 1000000 by decide), I_ix (show s < 1000000 by omega), h3.2.2.2]
theorem X_inU {g : Nat → Nat → Int32} {wt : Nat → Nat → Int} {L : List (Nat × Nat)} (h : FND g wt L) {u : Nat} (hu : 1 ≤ u ∧ u ≤ 3) : f_X5_inUse (g, RF p q w v ds) 61 (I u) = some (su u L, (g, RF p q w v ds)) := by
  obtain ⟨s, h1, h2, h3⟩ := h
  unfold f_X5_inUse
  have : u = 1 ∨ u = 2 ∨ u = 3 := by omega
  rcases this with rfl | rfl | rfl
  · rw [if_pos (by decide)]
    simp only [r_61_0, r_61_1, r_61_2, r_61_3, r_61_4, r_61_5, r_61_6, r_61_7, r_62_4, r_62_5, r_62_6, r_62_7, r_62_8, k_61, n_61, k_62, n_62, k_63, n_63, k_64, n_64, k_65, n_65, k_66, n_66, k_67, n_67, k_68, n_68, k_69, n_69, k_70, n_70, k_71, n_71, k_72, n_72, k_73, n_73, k_74, n_74, gd, lt, bd_s, if_true, if_false, reduceIte, si_uc, uc_s, uc_n, upd_s, upd_n, Nat.reduceEqDiff, ne_eq, not_false_eq_true, not_true_eq_false, h2, I_in (show s < 800 by omega) (show 800 < 1000000 by decide), I_ix (show s < 1000000 by omega), h3.1]
  · rw [if_neg (by decide), if_pos (by decide)]
    simp only [r_61_0, r_61_1, r_61_2, r_61_3, r_61_4, r_61_5, r_61_6, r_61_7, r_62_4, r_62_5, r_62_6, r_62_7, r_62_8, k_61, n_61, k_62, n_62, k_63, n_63, k_64, n_64, k_65, n_65, k_66, n_66, k_67, n_67, k_68, n_68, k_69, n_69, k_70, n_70, k_71, n_71, k_72, n_72, k_73, n_73, k_74, n_74, gd, lt, bd_s, if_true, if_false, reduceIte, si_uc, uc_s, uc_n, upd_s, upd_n, Nat.reduceEqDiff, ne_eq, not_false_eq_true, not_true_eq_false, h2, I_in (show s < 800 by omega) (show 800 < 1000000 by decide), I_ix (show s < 1000000 by omega), h3.2.1]
  · rw [if_neg (by decide), if_neg (by decide)]
    simp only [r_61_0, r_61_1, r_61_2, r_61_3, r_61_4, r_61_5, r_61_6, r_61_7, r_62_4, r_62_5, r_62_6, r_62_7, r_62_8, k_61, n_61, k_62, n_62, k_63, n_63, k_64, n_64, k_65, n_65, k_66, n_66, k_67, n_67, k_68, n_68, k_69, n_69, k_70, n_70, k_71, n_71, k_72, n_72, k_73, n_73, k_74, n_74, gd, lt, bd_s, if_true, if_false, reduceIte, si_uc, uc_s, uc_n, upd_s, upd_n, Nat.reduceEqDiff, ne_eq, not_false_eq_true, not_true_eq_false, h2, I_in (show s < 800 by omega) (show 800 < 1000000 by decide), I_ix (show s < 1000000 by omega), h3.2.2.1]
theorem M_silent {g : Nat → Nat → Int32} {np : Nat} (h1 : g 84 1 = I np) : f_X12_silent (g, RF p q w v ds) 83 = some (slM np (g 86), (g, RF p q w v ds)) := by
  unfold f_X12_silent slM allM
  simp only [r_83_1, r_83_2, r_83_3, r_83_4, r_83_6, r_83_8, r_83_11, r_83_13, r_83_15, r_83_19, r_83_20, r_83_21, r_83_22, r_83_24, r_83_25, r_83_26, r_83_28, r_83_29, k_83, n_83, k_84, n_84, k_85, n_85, k_86, n_86, k_87, n_87, k_88, n_88, k_89, n_89, k_90, n_90, k_91, n_91, k_92, n_92, k_93, n_93, k_94, n_94, k_95, n_95, k_96, n_96, k_97, n_97, k_98, n_98, k_99, n_99, k_100, n_100, k_101, n_101, gd, lt, bd_s, if_true, if_false, reduceIte, si_uc, uc_s, uc_n, upd_s, upd_n, Nat.reduceEqDiff, ne_eq, not_false_eq_true, not_true_eq_false, ci_0, ci_1, ci_2, ci_3, ci_4, ii_0, ii_1, ii_2, ii_3, ii_4, id_0, id_1, id_2, h1]
end T
theorem Sb.qc {q : Nat} {g g' : Nat → Nat → Int32} (h : Sb QC g g') : XK q g g' := h.xk (by decide)
/-- the reference's side, as a question finds it -/
def MS (G g : Nat → Nat → Int32) : Prop := G 84 = g 84 ∧ G 86 = g 86 ∧ G 83 12 = I ((0 : Nat) : Int)
theorem MS.of {g g1 : Nat → Nat → Int32} {p q w v : Nat} {ds : Nat → Nat} {n np kind : Nat} (h : IV g p q w v ds n np kind) (hX : XK q g g1) : MS (th g1) g := ⟨by rw [th_n (by decide)]; exact hX.e84 h.q, by rw [th_n (by decide)]; exact hX.e86 h.q, by rw [th_83 (by decide), hX.2.2]; exact h.2.2.2.2.1⟩
theorem MS.mf {G G' g : Nat → Nat → Int32} (h : MS G g) (hm : MF G G') : MS G' g := ⟨by rw [hm.2 84 (by decide)]; exact h.1, by rw [hm.2 86 (by decide)]; exact h.2.1, by rw [hm.1 12 (by omega)]; exact h.2.2⟩
theorem S_best : Sp3 Inv f_X11_best f_X12_best := by
  rintro h a b c ⟨g, p, q, w, v, ds, n, np, kind, rfl, hV⟩
  obtain ⟨kp, -⟩ := Pk hV.p
  have hn := hV.pw.2.1
  have hnp := hV.pw.2.2.2.1
  have e0 : g p 1 = I np := by rw [hV.pr.1 1 (by decide)]; exact hV.pw.2.2.1
  have xN := X_isPerson (p := p) (q := q) (w := w) (v := v) (ds := ds) kp e0 hnp a
  have mN : ∀ G : Nat → Nat → Int32, G 84 = g 84 → f_X12_noOne (G, RF p q w v ds) 83 a = some (if 0 ≤ a.toInt ∧ a.toInt < np then 0 else 1, (G, RF p q w v ds)) := fun G e => M_noOne (by rw [e]; exact hV.pw.2.2.1) hnp a
  have z1 : ¬ (1 : Int32) = 0 := by decide
  have l1 : (b < (1 : Int32)) = (b.toInt < 1) := lt_out (z := 1) (by decide)
  have l99 : ((99 : Int32) < b) = (99 < b.toInt) := gt_out (z := 99) (by decide)
  have c0 : (c < (0 : Int32)) = (c.toInt < 0) := lt_out (z := 0) (by decide)
  have c4 : (c ≤ (4 : Int32)) = (c.toInt ≤ 4) := le_out (z := 4) (by decide)
  by_cases hc : (0 ≤ a.toInt ∧ a.toInt < np) ∧ (1 ≤ b.toInt ∧ b.toInt ≤ 99) ∧ (0 ≤ c.toInt ∧ c.toInt ≤ 4)
  · obtain ⟨i, hi, rfl⟩ := per_c hc.1
    obtain ⟨x, hx, rfl⟩ := num_c (n := 99) hc.2.1
    obtain ⟨k, hk, rfl⟩ := per_c (n := 5) (a := c) (by omega)
    rw [if_pos hc.1] at xN
    obtain ⟨g1, u1, u2, u3, u4⟩ := X_usedNow (p := p) (q := q) (w := w) (v := v) (ds := ds) hV.2.2.2.1 hi hx
    have hX : XK q g g1 := u2.qc
    have hS := MS.of hV hX
    have mN := mN (th g1) hS.1
    rw [if_pos hc.1] at mN
    obtain ⟨g2, v1, v2⟩ := M_bo (p := p) (q := q) (w := w) (v := v) (ds := ds) (g := th g1) (may := myM n (g 84) (g 86) i) (by rw [hS.1]; exact hV.pw) hV.pw.2.2.2.2.2.1 (myM_lo hn.2) hx
    rw [hS.1] at v1 v2
    have mm := M_mayOf (p := p) (q := q) (w := w) (v := v) (ds := ds) (g := th g1) (n := n) (fr := 0) (i := i) hn.2 (by decide) (by rw [hS.1]; exact hV.pw.1) hS.2.2
    rw [hS.1, hS.2.1] at mm
    have mm : f_X12_mayOf (th g1, RF p q w v ds) 83 (I i) = some (myM n (g 84) (g 86) i, (th g1, RF p q w v ds)) := mm
    have fin : Inv (g2, RF p q w v ds) := hV.q1 hX u3.2.2.2.2.2 ((th_mk g1).tr v2.mf.mk)
    have ek : g 84 2 = I kind := hV.pw.2.2.2.2.1
    have X0 : f_X11_best (g, RF p q w v ds) 1 (I i) (I x) (I k) = if us (BT (g 84) kind (myM n (g 84) (g 86) i) x) = 0 then some (-4, (g1, RF p q w v ds)) else if I (k : Int) = (0 : Int32) then some (I ((BT (g 84) kind (myM n (g 84) (g 86) i) x).length : Nat), (g1, RF p q w v ds)) else if I (k : Int) = (1 : Int32) then some (I (spr (wM (g 84)) (BT (g 84) kind (myM n (g 84) (g 86) i) x)), (g1, RF p q w v ds)) else bd (f_X5_inUse (g1, RF p q w v ds) 61 (I (k : Int) - 1)) (fun r16 h17 => some (r16, h17)) := by
      unfold f_X11_best
      simp only [r_1_0, r_1_1, r_1_2, r_1_3, r_1_4, r_1_5, r_1_6, r_1_7, r_1_8, r_1_9, r_1_10, r_1_11, k_1, n_1, k_61, kp, gd, if_true, reduceIte, xN, bd_s, if_neg z1, l1, l99, c0, c4, if_neg (show ¬ (I (x : Int)).toInt < 1 by omega), if_neg (show ¬ 99 < (I (x : Int)).toInt by omega), if_neg (show ¬ (I (k : Int)).toInt < 0 by omega), if_pos hc.2.2.2, u1, Xbc, pc_BS, X_prc u4]
    have M0 : f_X12_best (g1, RF p q w v ds) 83 (I i) (I x) (I k) = if RES (wM (g 84)) (BT (g 84) kind (myM n (g 84) (g 86) i) x) = (-4 : Int32) then some (-4, (g2, RF p q w v ds)) else if I (k : Int) = 0 then some (RES (wM (g 84)) (BT (g 84) kind (myM n (g 84) (g 86) i) x) / 1000, (g2, RF p q w v ds)) else if I (k : Int) = (1 : Int32) then some (RES (wM (g 84)) (BT (g 84) kind (myM n (g 84) (g 86) i) x) - RES (wM (g 84)) (BT (g 84) kind (myM n (g 84) (g 86) i) x) / 1000 * 1000, (g2, RF p q w v ds)) else if I (k : Int) = (2 : Int32) then some (g2 83 16, (g2, RF p q w v ds)) else if I (k : Int) = (3 : Int32) then some (g2 83 17, (g2, RF p q w v ds)) else some (g2 83 18, (g2, RF p q w v ds)) := by
      unfold f_X12_best
      rw [gd_t (show kd 83 = 12 from rfl), th_lt]
      simp only [mN, bd_s, if_true, reduceIte, M_in, Int32.toInt_toInt64, show (1 : Int64).toInt = 1 by decide, show (99 : Int64).toInt = 99 by decide, show (0 : Int64).toInt = 0 by decide, show (4 : Int64).toInt = 4 by decide, if_pos hc.2.1, if_pos hc.2.2, if_neg z1, mm, r_83_1, r_83_2, r_83_3, r_83_4, r_83_6, r_83_8, r_83_11, r_83_13, r_83_15, r_83_19, r_83_20, r_83_21, r_83_22, r_83_24, r_83_25, r_83_26, r_83_28, r_83_29, k_83, n_83, k_84, n_84, k_85, n_85, k_86, n_86, k_87, n_87, k_88, n_88, k_89, n_89, k_90, n_90, k_91, n_91, k_92, n_92, k_93, n_93, k_94, n_94, k_95, n_95, k_96, n_96, k_97, n_97, k_98, n_98, k_99, n_99, k_100, n_100, k_101, n_101, gd, ci_0, ci_1, ci_2, ci_3, ci_4, ii_0, ii_1, ii_2, ii_3, ii_4, id_0, id_1, id_2, hS.1, ek, v1]
    simp only [us_0, RES_4 (wM_WB hV.pw)] at X0 M0
    by_cases he : BT (g 84) kind (myM n (g 84) (g 86) i) x = []
    · rw [if_pos he] at X0 M0
      exact ⟨_, _, _, X0, M0, fin⟩
    · rw [if_neg he] at X0 M0
      rw [(RES_n (wM_WB hV.pw) he).2, (RES_n (wM_WB hV.pw) he).1, v2.1, v2.2.1, v2.2.2.1] at M0
      have : k = 0 ∨ k = 1 ∨ k = 2 ∨ k = 3 ∨ k = 4 := by omega
      rcases this with rfl | rfl | rfl | rfl | rfl
      · rw [if_pos (by decide)] at X0 M0; exact ⟨_, _, _, X0, M0, fin⟩
      · rw [if_neg (by decide), if_pos (by decide)] at X0 M0; exact ⟨_, _, _, X0, M0, fin⟩
      · rw [if_neg (by decide), if_neg (by decide)] at X0
        rw [if_neg (by decide), if_neg (by decide), if_pos (by decide)] at M0
        rw [show I ((2 : Nat) : Int) - 1 = I ((1 : Nat) : Int) from rfl, X_inU u4 (by decide), bd_s] at X0
        exact ⟨_, _, _, X0, M0, fin⟩
      · rw [if_neg (by decide), if_neg (by decide)] at X0
        rw [if_neg (by decide), if_neg (by decide), if_neg (by decide), if_pos (by decide)] at M0
        rw [show I ((3 : Nat) : Int) - 1 = I ((2 : Nat) : Int) from rfl, X_inU u4 (by decide), bd_s] at X0
        exact ⟨_, _, _, X0, M0, fin⟩
      · rw [if_neg (by decide), if_neg (by decide)] at X0
        rw [if_neg (by decide), if_neg (by decide), if_neg (by decide), if_neg (by decide)] at M0
        rw [show I ((4 : Nat) : Int) - 1 = I ((3 : Nat) : Int) from rfl, X_inU u4 (by decide), bd_s] at X0
        exact ⟨_, _, _, X0, M0, fin⟩
  · refine ⟨-1, (g, RF p q w v ds), (th g, RF p q w v ds), ?_, ?_, hV.ask (th_mk g)⟩
    · unfold f_X11_best
      simp only [r_1_0, r_1_1, r_1_2, r_1_3, r_1_4, r_1_5, r_1_6, r_1_7, r_1_8, r_1_9, r_1_10, r_1_11, k_1, n_1, kp, gd, if_true, reduceIte, xN, bd_s]
      by_cases d1 : 0 ≤ a.toInt ∧ a.toInt < np
      · rw [if_pos d1, if_neg z1]
        simp only [l1, l99, c0, c4]
        by_cases d2 : b.toInt < 1
        · rw [if_pos d2]
        · rw [if_neg d2]
          by_cases d3 : 99 < b.toInt
          · rw [if_pos d3]
          · rw [if_neg d3]
            by_cases d4 : c.toInt < 0
            · rw [if_pos d4]
            · rw [if_neg d4, if_neg (fun z => hc ⟨d1, by omega, by omega⟩)]
      · rw [if_neg d1, if_pos rfl]
    · unfold f_X12_best
      rw [gd_t (show kd 83 = 12 from rfl), th_lt]
      simp only [mN (th g) (th_n (by decide)), bd_s, M_in, Int32.toInt_toInt64, show (1 : Int64).toInt = 1 by decide, show (99 : Int64).toInt = 99 by decide, show (0 : Int64).toInt = 0 by decide, show (4 : Int64).toInt = 4 by decide]
      by_cases d1 : 0 ≤ a.toInt ∧ a.toInt < np
      · rw [if_pos d1, if_pos rfl]
        by_cases d2 : 1 ≤ b.toInt ∧ b.toInt ≤ 99
        · rw [if_pos d2, if_neg z1, if_neg (fun z => hc ⟨d1, d2, z⟩), if_pos rfl]
        · rw [if_neg d2, if_pos rfl]
      · rw [if_neg d1, if_neg z1]
theorem S_stuck : Sp0 Inv f_X11_stuck f_X12_stuck := by
  rintro h ⟨g, p, q, w, v, ds, n, np, kind, rfl, hV⟩
  have hn := hV.pw.2.1
  have hnp := hV.pw.2.2.2.1
  obtain ⟨g1, n1, n2, n3, n4, n5, n6⟩ := X_now (p := p) (q := q) (w := w) (v := v) (ds := ds) hV.2.2.2.1
  obtain ⟨g2, s1, s2, s3⟩ := X_stk (p := p) (q := q) (w := w) (v := v) (ds := ds) hV.pw n3.2.2.2.2.2 n4
  have hX : XK q g g2 := ((n2.mono (B := QC) (by decide)).tr (s3.mono (B := QC) (by decide))).qc
  have hS := MS.of hV hX
  obtain ⟨g3, t1', t2⟩ := M_stk (p := p) (q := q) (w := w) (v := v) (ds := ds) (g := th g2) (slM np (g 86)) (tkM n (g 86)) (by rw [hS.1]; exact hV.pw) hV.pw.2.2.2.2.2.1 (by decide : 0 ≤ 24) hS.2.2
  rw [hS.1, hS.2.1] at t1'
  rw [n6, whl_6 hnp (slM_lo hnp)] at s1
  have ms := M_silent (p := p) (q := q) (w := w) (v := v) (ds := ds) (g := th g2) (np := np) (by rw [hS.1]; exact hV.pw.2.2.1)
  have mt := M_taken (p := p) (q := q) (w := w) (v := v) (ds := ds) (g := th g2) hn.2 (by rw [hS.1]; exact hV.pw.1)
  rw [hS.2.1] at ms mt
  have ek : g 84 2 = I kind := hV.pw.2.2.2.2.1
  have X0 : f_X11_stuck (g, RF p q w v ds) 1 = some (stk (g 84) kind (owM n (g 84) (g 86) 0) (am (g 84)) (whl (slM np (g 86)) 0 np) (tkM n (g 86)) 0, (g2, RF p q w v ds)) := by
    unfold f_X11_stuck
    simp only [r_1_0, r_1_1, r_1_2, r_1_3, r_1_4, r_1_5, r_1_6, r_1_7, r_1_8, r_1_9, r_1_10, r_1_11, k_1, n_1, k_75, k_78, gd, if_true, reduceIte, n1, bd_s, s1]
  refine ⟨_, (g2, RF p q w v ds), (g3, RF p q w v ds), X0, ?_, hV.q1 hX s2 ((th_mk g2).tr t2.mk)⟩
  unfold f_X12_stuck
  rw [gd_t (show kd 83 = 12 from rfl), th_lt]
  simp only [ms, bd_s, mt, r_83_1, r_83_2, r_83_3, r_83_4, r_83_6, r_83_8, r_83_11, r_83_13, r_83_15, r_83_19, r_83_20, r_83_21, r_83_22, r_83_24, r_83_25, r_83_26, r_83_28, r_83_29, k_83, n_83, k_84, n_84, k_85, n_85, k_86, n_86, k_87, n_87, k_88, n_88, k_89, n_89, k_90, n_90, k_91, n_91, k_92, n_92, k_93, n_93, k_94, n_94, k_95, n_95, k_96, n_96, k_97, n_97, k_98, n_98, k_99, n_99, k_100, n_100, k_101, n_101, gd, ci_0, ci_1, ci_2, ci_3, ci_4, ii_0, ii_1, ii_2, ii_3, ii_4, id_0, id_1, id_2, if_true, reduceIte, hS.1, ek, t1']
def lowF (M : Nat → Int32) (kind : Nat) (may : Int32) (x : Nat) : Bool := decide (BT M kind may x = [])
def lowR (f : Nat → Bool) : Nat → Nat → Int32
  | 0, _ => -4
  | r + 1, k => if f k = true then I (k : Int) else lowR f r (k + 1)
section T
variable {p q w v : Nat} {ds : Nat → Nat}
theorem X_low {g : Nat → Nat → Int32} {M T : Nat → Int32} {n np kind i : Nat} (hi : i < np) : ∀ (r fu k : Nat) (G : Nat → Nat → Int32), r < fu → k + r = 100 → 1 ≤ k → XI G p M T n np kind → ∃ G', f_X11_lowest_15 fu (G, RF p q w v ds) 1 (I i) (I k) = some (lowR (lowF M kind (myM n M T i)) r k, (G', RF p q w v ds)) ∧ Sb QC G G' ∧ XI G' p M T n np kind := by
  intro r
  induction r with
  | zero =>
    intro fu k G hf hk h1 hG
    obtain ⟨fu, rfl⟩ : ∃ k, fu = k + 1 := ⟨fu - 1, by omega⟩
    have c1 : (99 : Int32) < I (k : Int) := (I_lt (a := 99) (by omega) (by omega)).mpr (by omega)
    refine ⟨G, ?_, Sb.rf, hG⟩
    simp only [f_X11_lowest_15, if_pos c1, lowR]
  | succ r ih =>
    intro fu k G hf hk h1 hG
    obtain ⟨fu, rfl⟩ : ∃ k, fu = k + 1 := ⟨fu - 1, by omega⟩
    have c1 : ¬ (99 : Int32) < I (k : Int) := fun z => by have := (I_lt (a := 99) (by omega) (by omega)).mp z; omega
    obtain ⟨G1, u1, u2, u3, u4⟩ := X_usedNow (p := p) (q := q) (w := w) (v := v) (ds := ds) (a := k) hG hi (by omega)
    simp only [f_X11_lowest_15, if_neg c1, u1, bd_s, us_0, I_s]
    rw [lowR]
    by_cases he : BT M kind (myM n M T i) k = []
    · refine ⟨G1, ?_, u2, u3⟩
      rw [if_pos he, if_pos (show lowF M kind (myM n M T i) k = true from decide_eq_true he)]
    · rw [if_neg he, if_neg (show ¬ lowF M kind (myM n M T i) k = true from fun z => he (of_decide_eq_true z))]
      obtain ⟨G2, w1, w2, w3⟩ := ih fu (k + 1) G1 (by omega) (by omega) (by omega) u3
      exact ⟨G2, w1, Sb.tr u2 w2, w3⟩
theorem M_low {g : Nat → Nat → Int32} {n np kind i : Nat} (hP : PW (g 84) n np kind) : ∀ (r fu k : Nat) (G : Nat → Nat → Int32), r < fu → k + r = 100 → 1 ≤ k → MS G g → ∃ G', f_X12_lowest_17 fu (G, RF p q w v ds) 83 (I i) (I k) = some (lowR (lowF (g 84) kind (myM n (g 84) (g 86) i)) r k, (G', RF p q w v ds)) ∧ MF G G' := by
  have hn := hP.2.1
  intro r
  induction r with
  | zero =>
    intro fu k G hf hk h1 hG
    obtain ⟨fu, rfl⟩ : ∃ k, fu = k + 1 := ⟨fu - 1, by omega⟩
    have c1 : (100 : Int32) ≤ I (k : Int) := (I_le (a := 100) (by omega) (by omega)).mpr (by omega)
    refine ⟨G, ?_, MF.rf⟩
    simp only [f_X12_lowest_17, if_pos c1, lowR]
  | succ r ih =>
    intro fu k G hf hk h1 hG
    obtain ⟨fu, rfl⟩ : ∃ k, fu = k + 1 := ⟨fu - 1, by omega⟩
    have c1 : ¬ (100 : Int32) ≤ I (k : Int) := fun z => by have := (I_le (a := 100) (by omega) (by omega)).mp z; omega
    obtain ⟨G1, v1, v2⟩ := M_bo (p := p) (q := q) (w := w) (v := v) (ds := ds) (g := G) (a := k) (may := myM n (g 84) (g 86) i) (by rw [hG.1]; exact hP) hP.2.2.2.2.2.1 (myM_lo hn.2) (by omega)
    rw [hG.1] at v1 v2
    have mm := M_mayOf (p := p) (q := q) (w := w) (v := v) (ds := ds) (g := G) (n := n) (fr := 0) (i := i) hn.2 (by decide) (by rw [hG.1]; exact hP.1) hG.2.2
    rw [hG.1, hG.2.1] at mm
    have mm : f_X12_mayOf (G, RF p q w v ds) 83 (I i) = some (myM n (g 84) (g 86) i, (G, RF p q w v ds)) := mm
    have ek : g 84 2 = I kind := hP.2.2.2.2.1
    simp only [f_X12_lowest_17, if_neg c1, mm, bd_s, r_83_1, r_83_2, r_83_3, r_83_4, r_83_6, r_83_8, r_83_11, r_83_13, r_83_15, r_83_19, r_83_20, r_83_21, r_83_22, r_83_24, r_83_25, r_83_26, r_83_28, r_83_29, k_83, n_83, k_84, n_84, k_85, n_85, k_86, n_86, k_87, n_87, k_88, n_88, k_89, n_89, k_90, n_90, k_91, n_91, k_92, n_92, k_93, n_93, k_94, n_94, k_95, n_95, k_96, n_96, k_97, n_97, k_98, n_98, k_99, n_99, k_100, n_100, k_101, n_101, gd, ci_0, ci_1, ci_2, ci_3, ci_4, ii_0, ii_1, ii_2, ii_3, ii_4, id_0, id_1, id_2, if_true, reduceIte, hG.1, ek, v1, RES_4 (wM_WB hP), I_s]
    rw [lowR]
    by_cases he : BT (g 84) kind (myM n (g 84) (g 86) i) k = []
    · refine ⟨G1, ?_, v2.mf⟩
      rw [if_pos he, if_pos (show lowF (g 84) kind (myM n (g 84) (g 86) i) k = true from decide_eq_true he)]
    · rw [if_neg he, if_neg (show ¬ lowF (g 84) kind (myM n (g 84) (g 86) i) k = true from fun z => he (of_decide_eq_true z))]
      obtain ⟨G2, w1, w2⟩ := ih fu (k + 1) G1 (by omega) (by omega) (by omega) (hG.mf v2.mf)
      exact ⟨G2, w1, v2.mf.tr w2⟩
end T
theorem S_lowest : Sp1 Inv f_X11_lowest f_X12_lowest := by
  rintro h a ⟨g, p, q, w, v, ds, n, np, kind, rfl, hV⟩
  obtain ⟨kp, -⟩ := Pk hV.p
  have hn := hV.pw.2.1
  have hnp := hV.pw.2.2.2.1
  have e0 : g p 1 = I np := by rw [hV.pr.1 1 (by decide)]; exact hV.pw.2.2.1
  have xN := X_isPerson (p := p) (q := q) (w := w) (v := v) (ds := ds) kp e0 hnp a
  have mN : ∀ G : Nat → Nat → Int32, G 84 = g 84 → f_X12_noOne (G, RF p q w v ds) 83 a = some (if 0 ≤ a.toInt ∧ a.toInt < np then 0 else 1, (G, RF p q w v ds)) := fun G e => M_noOne (by rw [e]; exact hV.pw.2.2.1) hnp a
  have z1 : ¬ (1 : Int32) = 0 := by decide
  by_cases hc : 0 ≤ a.toInt ∧ a.toInt < np
  · obtain ⟨i, hi, rfl⟩ := per_c hc
    rw [if_pos hc] at xN
    obtain ⟨g1, a1, a2, a3⟩ := X_low (g := g) (p := p) (q := q) (w := w) (v := v) (ds := ds) hi 99 FU 1 g (FU_lt (by omega)) (by omega) (by omega) hV.2.2.2.1
    have hX : XK q g g1 := a2.qc
    have hS := MS.of hV hX
    obtain ⟨g2, b1', b2⟩ := M_low (p := p) (q := q) (w := w) (v := v) (ds := ds) (i := i) hV.pw 99 FU 1 (th g1) (FU_lt (by omega)) (by omega) (by omega) hS
    have mN := mN (th g1) hS.1
    rw [if_pos hc] at mN
    generalize lowR (lowF (g 84) kind (myM n (g 84) (g 86) i)) 99 1 = R at a1 b1'
    refine ⟨R, (g1, RF p q w v ds), (g2, RF p q w v ds), ?_, ?_, hV.q1 hX a3.2.2.2.2.2 ((th_mk g1).tr b2.mk)⟩
    · have a1 : f_X11_lowest_15 FU (g, RF p q w v ds) 1 (I i) 1 = _ := a1
      unfold f_X11_lowest
      revert a1
      generalize f_X11_lowest_15 FU = lf
      intro a1
      simp only [r_1_0, r_1_1, r_1_2, r_1_3, r_1_4, r_1_5, r_1_6, r_1_7, r_1_8, r_1_9, r_1_10, r_1_11, k_1, n_1, kp, gd, if_true, reduceIte, xN, bd_w, if_neg z1, a1]
    · have b1' : f_X12_lowest_17 FU (th g1, RF p q w v ds) 83 (I i) 1 = _ := b1'
      unfold f_X12_lowest
      revert b1'
      generalize f_X12_lowest_17 FU = lf
      intro b1'
      rw [gd_t (show kd 83 = 12 from rfl), th_lt]
      simp only [mN, bd_w, if_true, reduceIte, b1']
  · refine ⟨-1, (g, RF p q w v ds), (th g, RF p q w v ds), ?_, ?_, hV.ask (th_mk g)⟩
    · unfold f_X11_lowest
      simp only [r_1_0, r_1_1, r_1_2, r_1_3, r_1_4, r_1_5, r_1_6, r_1_7, r_1_8, r_1_9, r_1_10, r_1_11, k_1, n_1, kp, gd, if_true, reduceIte, xN, bd_s, if_neg hc]
    · unfold f_X12_lowest
      rw [gd_t (show kd 83 = 12 from rfl), th_lt]
      simp only [mN (th g) (th_n (by decide)), bd_s, if_neg hc, if_neg z1]
