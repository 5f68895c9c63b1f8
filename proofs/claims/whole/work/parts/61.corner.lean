/-! corner -/
def XE (G : Nat → Nat → Int32) (st : Option (Nat × Nat × Nat)) : Prop := G 78 0 = mb0 (stm st) ∧ ∀ t, st = some t → G 78 3 = mlow st
def D7 (st : Option (Nat × Nat × Nat)) : Prop := ∀ t, st = some t → t.1 ≤ 6 ∧ t.2.1 ≤ 99
theorem D7_dst {st : Option (Nat × Nat × Nat)} {s x y : Nat} (h : D7 st) (hs : s ≤ 6) (hx : x ≤ 99) : D7 (dst st s x y) := by
  unfold dst
  split
  · intro t e; cases e; exact ⟨hs, hx⟩
  · exact h
def cV (M : Nat → Int32) (kind : Nat) (may : Int32) (x _y : Nat) : Bool := decide (BT M kind may x ≠ [])
def cS (M : Nat → Int32) (kind : Nat) (O : Nat → Int32) (who t may : Int32) (np x _y : Nat) : Nat := nst M kind O who (t ||| us (BT M kind may x)) np
def cR (M : Nat → Int32) (kind : Nat) (O : Nat → Int32) (who t may : Int32) (np r k : Nat) (st : Option (Nat × Nat × Nat)) : Option (Nat × Nat × Nat) := dO (cV M kind may) (cS M kind O who t may np) (fun x => x) (fun _ => 1) r k st
theorem cR_s (M : Nat → Int32) (kind : Nat) (O : Nat → Int32) (who t may : Int32) (np r k : Nat) (st : Option (Nat × Nat × Nat)) : cR M kind O who t may np (r + 1) k st = cR M kind O who t may np r (k + 1) (if BT M kind may k ≠ [] then dst st (nst M kind O who (t ||| us (BT M kind may k)) np) k k else st) := by
  show cR M kind O who t may np r (k + 1) (if decide (BT M kind may k ≠ []) = true then _ else st) = _
  simp only [decide_eq_true_eq]
  rfl
theorem mbw_best7 {st : Option (Nat × Nat × Nat)} {s : Nat} (h6 : D7 st) (hs : s ≤ 6) : (I (s : Nat) ≤ mbest st) = (mbw (stm st) s = false) := by
  apply propext
  cases st with
  | none => exact ⟨fun z => absurd ((I_le (b := -1) (by omega) (by omega)).mp z) (by omega), fun z => by cases z⟩
  | some t =>
    have := (h6 t rfl).1
    show (I (s : Int) ≤ I (t.1 : Int)) ↔ decide (t.1 < s) = false
    rw [I_len (by omega) (by omega), decide_eq_false_iff_not]
    omega
theorem cor16_x {fu : Nat} {h : Hp} {x0 x1 : Nat} {x2 x3 x4 x5 : Int32} (c : (99 : Int32) < x5) : f_X1_cornerBy_16 (fu + 1) h x0 x1 x2 x3 x4 x5 = lt ((si h x1 0 ((h.1 x1 0) &&& (((1 : Int32) <<< (x2 &&& 31)) ^^^ (-1 : Int32))))) (fun h1 => lt ((si h1 x0 0 (-4 : Int32))) fun h3 => f_X1_cornerBy_74 FU h3 x0 x1 x3 (1 : Int32)) := by
  rw [f_X1_cornerBy_16]
  exact if_pos c
section T
variable {p q w v : Nat} {ds : Nat → Nat}
theorem X_cor1 {M : Nat → Int32} {n np k0 kind : Nat} {who i' may t : Int32} {O : Nat → Int32} (hM : PW M n np k0) (hmy : LO n may) : ∀ (r fu a : Nat) (G : Nat → Nat → Int32), r < fu → a + r = 100 → 1 ≤ a → SX M n G → SC G M n who kind O (am M) → (∀ j, 1 ≤ j → j < a → G 80 j = us (BT M kind may j)) →
    ∃ G', f_X1_cornerBy_16 fu (G, RF p q w v ds) 78 75 i' t may (I a) = f_X1_cornerBy_74 FU (uc (uc G' 75 (upd (G' 75) 0 (who &&& (((1 : Int32) <<< (i' &&& 31)) ^^^ (-1))))) 78 (upd (G' 78) 0 (-4)), RF p q w v ds) 78 75 t 1 ∧ SX M n G' ∧ SC G' M n who kind O (am M) ∧ (∀ j, 1 ≤ j → j < 100 → G' 80 j = us (BT M kind may j)) ∧ Sb (80 :: SYC) G G' := by
  intro r
  induction r with
  | zero =>
    intro fu a G hf ha h1 hS hC hU
    obtain ⟨fu, rfl⟩ : ∃ k, fu = k + 1 := ⟨fu - 1, by omega⟩
    have c1 : (99 : Int32) < I (a : Int) := (I_lt (a := 99) (by omega) (by omega)).mpr (by omega)
    refine ⟨G, ?_, hS, hC, fun j h1 h2 => hU j h1 (by omega), Sb.rf⟩
    rw [cor16_x c1]
    generalize f_X1_cornerBy_74 FU = lf
    rw [lt_w, lt_w, uc_n (show 78 ≠ 75 by decide)]
    simp only [hC.1]
  | succ r ih =>
    intro fu a G hf ha h1 hS hC hU
    obtain ⟨fu, rfl⟩ : ∃ k, fu = k + 1 := ⟨fu - 1, by omega⟩
    have c1 : ¬ (99 : Int32) < I (a : Int) := fun z => by have := (I_lt (a := 99) (by omega) (by omega)).mp z; omega
    obtain ⟨G1, b1', b2, b3, b4⟩ := X_fd (p := p) (q := q) (w := w) (v := v) (ds := ds) (kind := kind) (may := may) (a := a) hM hC.2.2.1 hS hmy (by omega)
    obtain ⟨G2, hG2⟩ : ∃ G2, G2 = uc G1 80 (upd (G1 80) a (us (BT M kind may a))) := ⟨_, rfl⟩
    have s2 : Sb [80] G1 G2 := by rw [hG2]; exact Sb.rf.uc (by decide)
    obtain ⟨G3, w1, w2, w3, w4, w5⟩ := ih fu (a + 1) G2 (by omega) (by omega) (by omega) (b2.sc (s2.mono (by decide))) ((hC.keep (b3 75 (by decide)) (b3 76 (by decide)) (b3 77 (by decide))).keep (s2 75 (by decide)) (s2 76 (by decide)) (s2 77 (by decide))) (fun j h1 h2 => by
      rw [hG2, uc_s]
      by_cases e : j = a
      · subst e; rw [upd_s]
      · rw [upd_n e, b3 80 (by decide)]; exact hU j h1 (by omega))
    refine ⟨G3, ?_, w2, w3, w4, Sb.tr (Sb.tr (b3.mono (by decide)) (s2.mono (by decide))) w5⟩
    rw [← w1, hG2]
    clear w1 hG2 w4 w5 b4
    generalize us (BT M kind may a) = U at b1' ⊢
    simp only [f_X1_cornerBy_16, if_neg c1, r_75_5, r_75_6, r_78_5, r_78_6, r_78_7, r_78_8, r_78_9, k_75, n_75, k_76, n_76, k_77, n_77, k_78, n_78, k_79, n_79, k_80, n_80, k_81, n_81, k_82, n_82, k_61, gd, if_true, reduceIte, hC.2.1, b1', bd_w, I_in (show a < 100 by omega) (show 100 < 1000000 by decide), I_ix (show a < 1000000 by omega), I_s]
    rw [lt_w]
theorem X_cor2 {M : Nat → Int32} {n np k0 kind : Nat} {who may t : Int32} {O : Nat → Int32} (hM : PW M n np k0) (hw : LO np who) : ∀ (r fu a : Nat) (G : Nat → Nat → Int32) (st : Option (Nat × Nat × Nat)), r < fu → a + r = 100 → 1 ≤ a → SX M n G → SC G M n who kind O (am M) → (∀ j, 1 ≤ j → j < 100 → G 80 j = us (BT M kind may j)) → XE G st → D7 st →
    ∃ G', f_X1_cornerBy_74 fu (G, RF p q w v ds) 78 75 t (I a) = some (sN (cR M kind O who t may np r a st), (G', RF p q w v ds)) ∧ SX M n G' ∧ XE G' (cR M kind O who t may np r a st) ∧ Sb GWC G G' := by
  have hnp := hM.2.2.2.1
  intro r
  induction r with
  | zero =>
    intro fu a G st hf ha h1 hS hC hU hE h7
    obtain ⟨fu, rfl⟩ : ∃ k, fu = k + 1 := ⟨fu - 1, by omega⟩
    have c1 : (99 : Int32) < I (a : Int) := (I_lt (a := 99) (by omega) (by omega)).mpr (by omega)
    refine ⟨G, ?_, hS, hE, Sb.rf⟩
    simp only [f_X1_cornerBy_74, if_pos c1, hE.1]
    show _ = some (sN st, _)
    cases st with
    | none => rw [if_pos (show mb0 (stm none) = (-4 : Int32) from rfl)]; rfl
    | some t => rw [if_neg (show ¬ mb0 (stm (some t)) = (-4 : Int32) from fun z => I_ne4 (k := t.1) (by have := (h7 t rfl).1; omega) z)]; rfl
  | succ r ih =>
    intro fu a G st hf ha h1 hS hC hU hE h7
    obtain ⟨fu, rfl⟩ : ∃ k, fu = k + 1 := ⟨fu - 1, by omega⟩
    have c1 : ¬ (99 : Int32) < I (a : Int) := fun z => by have := (I_lt (a := 99) (by omega) (by omega)).mp z; omega
    have hs6 := nst_6 (M := M) (kind := kind) (O := O) (who := who) (t := t ||| us (BT M kind may a)) hnp
    rw [cR_s]
    simp only [f_X1_cornerBy_74, if_neg c1, r_75_5, r_75_6, r_78_5, r_78_6, r_78_7, r_78_8, r_78_9, k_75, n_75, k_76, n_76, k_77, n_77, k_78, n_78, k_79, n_79, k_80, n_80, k_81, n_81, k_82, n_82, gd, if_true, reduceIte, I_in (show a < 100 by omega) (show 100 < 1000000 by decide), I_ix (show a < 1000000 by omega), hU a h1 (by omega), us_0, I_s]
    by_cases he : BT M kind may a = []
    · rw [if_pos he, if_neg (fun z => z he)]
      exact ih fu (a + 1) G st (by omega) (by omega) (by omega) hS hC hU hE h7
    · rw [if_neg he, if_pos he]
      obtain ⟨G1, a1, a2, a3, a4, a5, a6, a7⟩ := X_gw (p := p) (q := q) (w := w) (v := v) (ds := ds) (t ||| us (BT M kind may a)) (stm st) hM hw hS hC hE.1 (fun b e => by
        cases st with
        | none => cases e
        | some t => cases e; exact (h7 t rfl).1)
      rw [a1, bd_s]
      have h7' := D7_dst (y := a) h7 hs6 (show a ≤ 99 by omega)
      unfold dst at h7' ⊢
      cases hb : mbw (stm st) (nst M kind O who (t ||| us (BT M kind may a)) np) with
      | false =>
        rw [hb] at a7 h7'
        rw [if_neg (by decide)] at h7'
        rw [if_pos (by decide), if_neg (by decide)]
        obtain ⟨G2, w1, w2, w3, w4⟩ := ih fu (a + 1) G1 st (by omega) (by omega) (by omega) a3 a4 (fun j j1 j2 => by rw [a2 80 (by decide)]; exact hU j j1 j2) ⟨a7, fun t e => by rw [a6 3 (by decide)]; exact hE.2 t e⟩ h7'
        exact ⟨G2, w1, w2, w3, Sb.tr a2 w4⟩
      | true =>
        rw [hb] at a7 h7'
        rw [if_pos rfl] at h7'
        rw [if_neg (by decide), if_pos rfl, lt_w]
        obtain ⟨G2, w1, w2, w3, w4⟩ := ih fu (a + 1) (uc G1 78 (upd (G1 78) 3 (I a))) (some (nst M kind O who (t ||| us (BT M kind may a)) np, a, a)) (by omega) (by omega) (by omega) (a3.sc (Sb.rf.uc (by decide))) (a4.keep (uc_n (by decide)) (uc_n (by decide)) (uc_n (by decide))) (fun j j1 j2 => by rw [uc_n (by decide), a2 80 (by decide)]; exact hU j j1 j2) ⟨by rw [uc_s, upd_n (by decide)]; exact a7, fun t e => by cases e; rw [uc_s, upd_s]; rfl⟩ h7'
        exact ⟨G2, w1, w2, w3, Sb.tr (a2.uc (by decide)) w4⟩
def cval (what : Int32) (st : Option (Nat × Nat × Nat)) : Int32 := match st with | none => I (-4) | some t => if what = 0 then I (t.2.1 : Nat) else I (t.1 : Nat)
theorem M_cor {g : Nat → Nat → Int32} {n np kind i : Nat} {what : Int32} (hP : PW (g 84) n np kind) (hi : i < np) : ∀ (r fu a : Nat) (G : Nat → Nat → Int32) (st : Option (Nat × Nat × Nat)), r < fu → a + r = 100 → 1 ≤ a → MS G g → D7 st →
    ∃ G', f_X12_corner_50 fu (G, RF p q w v ds) 83 (I i) what (mlow st) (mbest st) (I a) = some (cval what (cR (g 84) kind (owM n (g 84) (g 86) 0) (slM np (g 86) &&& (b1 i ^^^ (-1))) (tkM n (g 86)) (myM n (g 84) (g 86) i) np r a st), (G', RF p q w v ds)) ∧ MF G G' := by
  have hn := hP.2.1
  have hnp := hP.2.2.2.1
  have ek : g 84 2 = I kind := hP.2.2.2.2.1
  intro r
  induction r with
  | zero =>
    intro fu a G st hf ha h1 hG h7
    obtain ⟨fu, rfl⟩ : ∃ k, fu = k + 1 := ⟨fu - 1, by omega⟩
    have c1 : (100 : Int32) ≤ I (a : Int) := (I_le (a := 100) (by omega) (by omega)).mpr (by omega)
    refine ⟨G, ?_, MF.rf⟩
    simp only [f_X12_corner_50, if_pos c1, ite_som]
    show _ = some (cval what st, _)
    cases st with
    | none => rw [if_pos (show mlow none = (-4 : Int32) from rfl)]; rfl
    | some t =>
      have := (h7 t rfl).2
      rw [if_neg (show ¬ mlow (some t) = (-4 : Int32) from fun z => I_ne4 (k := t.2.1) (by omega) z)]
      rfl
  | succ r ih =>
    intro fu a G st hf ha h1 hG h7
    obtain ⟨fu, rfl⟩ : ∃ k, fu = k + 1 := ⟨fu - 1, by omega⟩
    have c1 : ¬ (100 : Int32) ≤ I (a : Int) := fun z => by have := (I_le (a := 100) (by omega) (by omega)).mp z; omega
    obtain ⟨G1, v1, v2⟩ := M_bo (p := p) (q := q) (w := w) (v := v) (ds := ds) (g := G) (a := a) (may := myM n (g 84) (g 86) i) (by rw [hG.1]; exact hP) hP.2.2.2.2.2.1 (myM_lo hn.2) (by omega)
    rw [hG.1] at v1 v2
    have mm := M_mayOf (p := p) (q := q) (w := w) (v := v) (ds := ds) (g := G) (n := n) (fr := 0) (i := i) hn.2 (by decide) (by rw [hG.1]; exact hP.1) hG.2.2
    rw [hG.1, hG.2.1] at mm
    have mm : f_X12_mayOf (G, RF p q w v ds) 83 (I i) = some (myM n (g 84) (g 86) i, (G, RF p q w v ds)) := mm
    have hG1 := hG.mf v2.mf
    rw [cR_s]
    simp only [f_X12_corner_50, if_neg c1, mm, bd_s, r_83_1, r_83_2, r_83_3, r_83_4, r_83_6, r_83_8, r_83_11, r_83_13, r_83_15, r_83_19, r_83_20, r_83_21, r_83_22, r_83_24, r_83_25, r_83_26, r_83_28, r_83_29, k_83, n_83, k_84, n_84, k_85, n_85, k_86, n_86, k_87, n_87, k_88, n_88, k_89, n_89, k_90, n_90, k_91, n_91, k_92, n_92, k_93, n_93, k_94, n_94, k_95, n_95, k_96, n_96, k_97, n_97, k_98, n_98, k_99, n_99, k_100, n_100, k_101, n_101, gd, ci_0, ci_1, ci_2, ci_3, ci_4, ii_0, ii_1, ii_2, ii_3, ii_4, id_0, id_1, id_2, if_true, reduceIte, hG.1, ek, v1, RES_4 (wM_WB hP), I_s]
    by_cases he : BT (g 84) kind (myM n (g 84) (g 86) i) a = []
    · rw [if_pos he, if_neg (fun z => z he)]
      obtain ⟨G2, w1, w2⟩ := ih fu (a + 1) G1 st (by omega) (by omega) (by omega) hG1 h7
      exact ⟨G2, w1, v2.mf.tr w2⟩
    · rw [if_neg he, if_pos he]
      have ms := M_silent (p := p) (q := q) (w := w) (v := v) (ds := ds) (g := G1) (np := np) (by rw [hG1.1]; exact hP.2.2.1)
      have mt := M_taken (p := p) (q := q) (w := w) (v := v) (ds := ds) (g := G1) hn.2 (by rw [hG1.1]; exact hP.1)
      rw [hG1.2.1] at ms mt
      obtain ⟨U, hU⟩ : ∃ U, U = us (BT (g 84) kind (myM n (g 84) (g 86) i) a) := ⟨_, rfl⟩
      have hu : G1 83 16 ||| G1 83 17 ||| G1 83 18 = U := by rw [hU, v2.1, v2.2.1, v2.2.2.1]; rfl
      obtain ⟨G2, t1', t2⟩ := M_stk (p := p) (q := q) (w := w) (v := v) (ds := ds) (g := G1) (kind := kind) (slM np (g 86) &&& (b1 i ^^^ (-1))) (tkM n (g 86) ||| U) (by rw [hG1.1]; exact hP) hP.2.2.2.2.2.1 (by decide : 0 ≤ 24) hG1.2.2
      rw [hG1.1, hG1.2.1] at t1'
      have hs6 := nst_6 (M := g 84) (kind := kind) (O := owM n (g 84) (g 86) 0) (who := slM np (g 86) &&& (b1 i ^^^ (-1))) (t := tkM n (g 86) ||| U) hnp
      have en : pc 24 (stk (g 84) kind (owM n (g 84) (g 86) 0) (am (g 84)) (whl (slM np (g 86) &&& (b1 i ^^^ (-1))) 0 np) (tkM n (g 86) ||| U) 0) = nst (g 84) kind (owM n (g 84) (g 86) 0) (slM np (g 86) &&& (b1 i ^^^ (-1))) (tkM n (g 86) ||| U) np := rfl
      rw [← hU]
      generalize nst (g 84) kind (owM n (g 84) (g 86) 0) (slM np (g 86) &&& (b1 i ^^^ (-1))) (tkM n (g 86) ||| U) np = s at hs6 en ⊢
      generalize stk (g 84) kind (owM n (g 84) (g 86) 0) (am (g 84)) (whl (slM np (g 86) &&& (b1 i ^^^ (-1))) 0 np) (tkM n (g 86) ||| U) 0 = S at t1' en
      have h7' := D7_dst (y := a) h7 hs6 (show a ≤ 99 by omega)
      obtain ⟨G3, w1, w2⟩ := ih fu (a + 1) G2 _ (by omega) (by omega) (by omega) (hG1.mf t2) h7'
      refine ⟨G3, ?_, (v2.mf.tr t2).tr w2⟩
      rw [← w1]
      clear w1 w2 h7' v1 v2 hU
      simp only [ms, mt, bd_w, M_usedSet, hu, r_83_1, r_83_2, r_83_3, r_83_4, r_83_6, r_83_8, r_83_11, r_83_13, r_83_15, r_83_19, r_83_20, r_83_21, r_83_22, r_83_24, r_83_25, r_83_26, r_83_28, r_83_29, k_83, n_83, k_84, n_84, k_85, n_85, k_86, n_86, k_87, n_87, k_88, n_88, k_89, n_89, k_90, n_90, k_91, n_91, k_92, n_92, k_93, n_93, k_94, n_94, k_95, n_95, k_96, n_96, k_97, n_97, k_98, n_98, k_99, n_99, k_100, n_100, k_101, n_101, gd, ci_0, ci_1, ci_2, ci_3, ci_4, ii_0, ii_1, ii_2, ii_3, ii_4, id_0, id_1, id_2, if_true, reduceIte, hG1.1, ek, b1_I (show i < 1000 by omega), t1', Mbits, en, f_X12_corner_126, mbw_best7 h7 hs6, I_s]
      unfold dst
      cases hb : mbw (stm st) s with
      | false => simp only [if_true, reduceIte, Bool.false_eq_true, if_false]
      | true =>
        simp only [Bool.true_eq_false, if_false, if_true, reduceIte]
        rfl
end T
theorem S_corner : Sp2 Inv f_X11_corner f_X12_corner := by
  rintro h a b ⟨g, p, q, w, v, ds, n, np, kind, rfl, hV⟩
  obtain ⟨kp, -⟩ := Pk hV.p
  have hn := hV.pw.2.1
  have hnp := hV.pw.2.2.2.1
  have e0 : g p 1 = I np := by rw [hV.pr.1 1 (by decide)]; exact hV.pw.2.2.1
  have xN := X_isPerson (p := p) (q := q) (w := w) (v := v) (ds := ds) kp e0 hnp a
  have mN : ∀ G : Nat → Nat → Int32, G 84 = g 84 → f_X12_noOne (G, RF p q w v ds) 83 a = some (if 0 ≤ a.toInt ∧ a.toInt < np then 0 else 1, (G, RF p q w v ds)) := fun G e => M_noOne (by rw [e]; exact hV.pw.2.2.1) hnp a
  have z1 : ¬ (1 : Int32) = 0 := by decide
  have c0 : (b < (0 : Int32)) = (b.toInt < 0) := lt_out (z := 0) (by decide)
  have c1 : (b ≤ (1 : Int32)) = (b.toInt ≤ 1) := le_out (z := 1) (by decide)
  by_cases hc : (0 ≤ a.toInt ∧ a.toInt < np) ∧ (0 ≤ b.toInt ∧ b.toInt ≤ 1)
  · obtain ⟨i, hi, rfl⟩ := per_c hc.1
    rw [if_pos hc.1] at xN
    have eb : g 13 2 = g 86 2 := hV.dr.1.1
    have X0 : f_X11_corner (g, RF p q w v ds) 1 (I i) b = if bt (g 86 2) i = true then some (-2, (g, RF p q w v ds)) else bd (f_X11_sceneNow (g, RF p q w v ds) 1) (fun r10 h11 => gd (kd r10 = 6) (bd (f_X1_cornerBy h11 78 r10 (I i)) (fun r14 h15 => if r14 = 0 then some (-4, h15) else if b = 0 then gd (kd (h15.2 1 11) = 1) (some ((h15.1 (h15.2 1 11) 3), h15)) else gd (kd (h15.2 1 11) = 1) (some ((h15.1 (h15.2 1 11) 0), h15))))) := by
      unfold f_X11_corner
      generalize f_X1_cornerBy = lf
      simp only [r_1_0, r_1_1, r_1_2, r_1_3, r_1_4, r_1_5, r_1_6, r_1_7, r_1_8, r_1_9, r_1_10, r_1_11, k_1, n_1, k_13, k_78, kp, gd, if_true, reduceIte, xN, bd_w, if_neg z1, c0, c1, if_neg (show ¬ b.toInt < 0 by omega), if_pos hc.2.2, eb, X_hasBit _ _ (show i < 32 by omega)]
      cases bt (g 86 2) i
      · rw [if_pos (by decide), if_neg (by decide)]
      · rw [if_neg (by decide), if_pos rfl]
    have M0 : ∀ G : Nat → Nat → Int32, MS (th G) g → f_X12_corner (G, RF p q w v ds) 83 (I i) b = if bt (g 86 2) i = true then some (-2, (th G, RF p q w v ds)) else f_X12_corner_50 FU (th G, RF p q w v ds) 83 (I i) b (-4) (-1) 1 := by
      intro G hG
      have mN := mN (th G) hG.1
      rw [if_pos hc.1] at mN
      unfold f_X12_corner
      generalize f_X12_corner_50 FU = lf
      rw [gd_t (show kd 83 = 12 from rfl), th_lt]
      simp only [mN, bd_w, if_true, reduceIte, M_in, Int32.toInt_toInt64, show (1 : Int64).toInt = 1 by decide, show (0 : Int64).toInt = 0 by decide, if_pos hc.2, if_neg z1, r_83_1, r_83_2, r_83_3, r_83_4, r_83_6, r_83_8, r_83_11, r_83_13, r_83_15, r_83_19, r_83_20, r_83_21, r_83_22, r_83_24, r_83_25, r_83_26, r_83_28, r_83_29, k_83, n_83, k_84, n_84, k_85, n_85, k_86, n_86, k_87, n_87, k_88, n_88, k_89, n_89, k_90, n_90, k_91, n_91, k_92, n_92, k_93, n_93, k_94, n_94, k_95, n_95, k_96, n_96, k_97, n_97, k_98, n_98, k_99, n_99, k_100, n_100, k_101, n_101, gd, ci_0, ci_1, ci_2, ci_3, ci_4, ii_0, ii_1, ii_2, ii_3, ii_4, id_0, id_1, id_2, hG.2.1, M_has _ _ (show i < 32 by omega)]
      cases bt (g 86 2) i
      · rw [if_pos (by decide), if_neg (by decide)]
      · rw [if_neg (by decide), if_pos rfl]
    by_cases hs : bt (g 86 2) i = true
    · have M1 := M0 g (MS.of hV XK.rf)
      rw [if_pos hs] at X0 M1
      exact ⟨_, _, _, X0, M1, hV.ask (th_mk g)⟩
    · rw [if_neg hs] at X0
      obtain ⟨g1, n1, n2, n3, n4, n5, n6⟩ := X_now (p := p) (q := q) (w := w) (v := v) (ds := ds) hV.2.2.2.1
      have em : g1 75 3 ||| g1 77 i = owM n (g 84) (g 86) 0 i := (n4.2.2.2.1 i (by omega)).1
      obtain ⟨g2, a1, a2, a3, a4, a5⟩ := X_cor1 (p := p) (q := q) (w := w) (v := v) (ds := ds) (i' := I i) (t := tkM n (g 86)) (may := myM n (g 84) (g 86) i) hV.pw (myM_lo hn.2) 99 FU 1 g1 (FU_lt (by omega)) (by omega) (by omega) n3.2.2.2.2.2 n4 (fun j j1 j2 => absurd j2 (by omega))
      obtain ⟨g3, hg3⟩ : ∃ g3, g3 = uc (uc g2 75 (upd (g2 75) 0 (slM np (g 86) &&& (b1 i ^^^ (-1))))) 78 (upd (g2 78) 0 (-4)) := ⟨_, rfl⟩
      have a1 : f_X1_cornerBy_16 FU (g1, RF p q w v ds) 78 75 (I i) (tkM n (g 86)) (myM n (g 84) (g 86) i) 1 = f_X1_cornerBy_74 FU (g3, RF p q w v ds) 78 75 (tkM n (g 86)) 1 := by rw [hg3]; exact a1
      have s3 : Sb [75, 78] g2 g3 := by rw [hg3]; exact (Sb.rf.uc (by decide)).uc (by decide)
      have hw : LO np (slM np (g 86) &&& (b1 i ^^^ (-1))) := LO_and (slM_lo hnp) _
      have b75 : g3 75 = upd (g2 75) 0 (slM np (g 86) &&& (b1 i ^^^ (-1))) := by rw [hg3, uc_n (by decide), uc_s]
      have hC3 : SC g3 (g 84) n (slM np (g 86) &&& (b1 i ^^^ (-1))) kind (owM n (g 84) (g 86) 0) (am (g 84)) := by
        unfold SC at a3 ⊢
        rw [b75, s3 76 (by decide), s3 77 (by decide), upd_s, upd_n (by decide), upd_n (by decide)]
        refine ⟨rfl, a3.2.1, a3.2.2.1, a3.2.2.2.1, fun j hj hb => a3.2.2.2.2 j hj ?_⟩
        rw [bt_and, Bool.and_eq_true] at hb
        exact hb.1
      obtain ⟨g4, d1, d2, d3, d4⟩ := X_cor2 (p := p) (q := q) (w := w) (v := v) (ds := ds) (t := tkM n (g 86)) (may := myM n (g 84) (g 86) i) hV.pw hw 99 FU 1 g3 none (FU_lt (by omega)) (by omega) (by omega) (a2.sc (s3.mono (by decide))) hC3 (fun j j1 j2 => by rw [s3 80 (by decide)]; exact a4 j j1 j2) ⟨by rw [hg3, uc_s, upd_s]; rfl, fun t e => by cases e⟩ (fun t e => by cases e)
      have d1 : f_X1_cornerBy_74 FU (g3, RF p q w v ds) 78 75 (tkM n (g 86)) 1 = _ := d1
      rw [d1] at a1
      obtain ⟨st, hst⟩ : ∃ st, st = cR (g 84) kind (owM n (g 84) (g 86) 0) (slM np (g 86) &&& (b1 i ^^^ (-1))) (tkM n (g 86)) (myM n (g 84) (g 86) i) np 99 1 none := ⟨_, rfl⟩
      rw [← hst] at a1 d3
      have e1 : f_X1_cornerBy (g1, RF p q w v ds) 78 75 (I i) = some (sN st, (g4, RF p q w v ds)) := by
        unfold f_X1_cornerBy
        revert a1
        generalize f_X1_cornerBy_16 FU = lf
        intro a1
        rw [gd_t (show kd 78 = 1 from rfl), gd_t (show kd 75 = 6 from rfl), X_mayUse (show i < 6 by omega), bd_w, em]
        simp only [n6]
        exact a1
      rw [n1, bd_w, gd_t (show kd 75 = 6 from rfl), e1, bd_w] at X0
      have X1 : f_X11_corner (g, RF p q w v ds) 1 (I i) b = some (cval b st, (g4, RF p q w v ds)) := by
        rw [X0]
        cases st with
        | none => rw [if_pos (show sN none = 0 from rfl)]; rfl
        | some t =>
          obtain ⟨k1, k2⟩ := d3
          have k2 := k2 t rfl
          rw [if_neg (show ¬ sN (some t) = 0 by show ¬ (1 : Int32) = 0; decide)]
          simp only [r_1_0, r_1_1, r_1_2, r_1_3, r_1_4, r_1_5, r_1_6, r_1_7, r_1_8, r_1_9, r_1_10, r_1_11, k_1, n_1, k_78, gd, if_true, reduceIte, k1, k2, ite_som]
          rfl
      have hX : XK q g g4 := ((((n2.mono (B := QC) (by decide)).tr (a5.mono (by decide))).tr (s3.mono (by decide))).tr (d4.mono (by decide))).qc
      have hS := MS.of hV hX
      have M1 := M0 g4 hS
      obtain ⟨g5, y1, y2⟩ := M_cor (p := p) (q := q) (w := w) (v := v) (ds := ds) (what := b) hV.pw hi 99 FU 1 (th g4) none (FU_lt (by omega)) (by omega) (by omega) hS (fun t e => by cases e)
      rw [← hst] at y1
      have y1 : f_X12_corner_50 FU (th g4, RF p q w v ds) 83 (I i) b (-4) (-1) 1 = _ := y1
      rw [if_neg hs, y1] at M1
      exact ⟨_, _, _, X1, M1, hV.q1 hX d2 ((th_mk g4).tr y2.mk)⟩
  · refine ⟨-1, (g, RF p q w v ds), (th g, RF p q w v ds), ?_, ?_, hV.ask (th_mk g)⟩
    · unfold f_X11_corner
      generalize f_X1_cornerBy = lf
      simp only [r_1_0, r_1_1, r_1_2, r_1_3, r_1_4, r_1_5, r_1_6, r_1_7, r_1_8, r_1_9, r_1_10, r_1_11, k_1, n_1, kp, gd, if_true, reduceIte, xN, bd_w, c0, c1]
      by_cases d1 : 0 ≤ a.toInt ∧ a.toInt < np
      · rw [if_pos d1, if_neg z1]
        by_cases d2 : b.toInt < 0
        · rw [if_pos d2]
        · rw [if_neg d2, if_neg (fun z => hc ⟨d1, by omega⟩)]
      · rw [if_neg d1, if_pos rfl]
    · unfold f_X12_corner
      generalize f_X12_corner_50 FU = lf
      rw [gd_t (show kd 83 = 12 from rfl), th_lt]
      simp only [mN (th g) (th_n (by decide)), bd_w, M_in, Int32.toInt_toInt64, show (1 : Int64).toInt = 1 by decide, show (0 : Int64).toInt = 0 by decide]
      by_cases d1 : 0 ≤ a.toInt ∧ a.toInt < np
      · rw [if_pos d1, if_pos rfl, if_neg (fun z => hc ⟨d1, z⟩), if_pos rfl]
      · rw [if_neg d1, if_neg z1]
