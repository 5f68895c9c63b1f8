/-! guard, getsWorse, deny -/
section T
variable {p q w v : Nat} {ds : Nat → Nat}
theorem X_grd_lp {M T : Nat → Int32} {n np kind : Nat} {who nb : Int32} (hw : LO np who) : ∀ (r fu k few : Nat) (best : Int32) (G : Nat → Nat → Int32), r < fu → k + r = n + 1 → 1 ≤ k → few ≤ 7 → XI G p M T n np kind → (∃ x, SC G M n who kind (owM n M T x) (am M)) → (∀ i, i < 6 → nb ||| G 77 i = owM n M T 0 i) → G 75 2 = tkM n T →
    ∃ G', f_X11_guard_20 fu (G, RF p q w v ds) 1 75 nb (I few) best (I k) = some (gdR (fun x => nst M kind (owM n M T x) who (tkM n T) np) (tkM n T) r k few best, (G', RF p q w v ds)) ∧ Sb QC G G' ∧ XI G' p M T n np kind := by
  intro r
  induction r with
  | zero =>
    intro fu k few best G hf hk h1 h7 hG hC hN ht
    obtain ⟨fu, rfl⟩ : ∃ k, fu = k + 1 := ⟨fu - 1, by omega⟩
    have kp := (Pk hG.1).1
    have hn := hG.2.1.2.1
    have e0 : G p 0 = I n := by rw [hG.2.2.2.1.1 0 (by decide)]; exact hG.2.1.1
    have c1 : I (n : Int) < I (k : Int) := by rw [I_ltn (by omega) (by omega)]; omega
    refine ⟨G, ?_, Sb.rf, hG⟩
    simp only [f_X11_guard_20, r_1_0, r_1_1, r_1_2, r_1_3, r_1_4, r_1_5, r_1_6, r_1_7, r_1_8, r_1_9, r_1_10, r_1_11, k_1, n_1, kp, gd, if_true, reduceIte, e0, if_pos c1, gdR]
  | succ r ih =>
    intro fu k few best G hf hk h1 h7 hG hC hN ht
    obtain ⟨fu, rfl⟩ : ∃ k, fu = k + 1 := ⟨fu - 1, by omega⟩
    have kp := (Pk hG.1).1
    have hn := hG.2.1.2.1
    have hnp := hG.2.1.2.2.2.1
    have e0 : G p 0 = I n := by rw [hG.2.2.2.1.1 0 (by decide)]; exact hG.2.1.1
    have c1 : ¬ I (n : Int) < I (k : Int) := by rw [I_ltn (by omega) (by omega)]; omega
    have f0 : (I (few : Int) ≤ 0) = (few ≤ 0) := I_len (b := 0) (by omega) (by omega)
    simp only [f_X11_guard_20, r_1_0, r_1_1, r_1_2, r_1_3, r_1_4, r_1_5, r_1_6, r_1_7, r_1_8, r_1_9, r_1_10, r_1_11, k_1, n_1, k_78, kp, gd, if_true, reduceIte, e0, if_neg c1, f0, ht, I_p h1, X_hasBit _ _ (show k - 1 < 32 by omega), bd_s, I_s]
    by_cases hf0 : few ≤ 0
    · have : few = 0 := by omega
      subst this
      rw [if_pos (Nat.le_refl _), gdR_0]
      exact ⟨G, rfl, Sb.rf, hG⟩
    · rw [if_neg hf0, gdR]
      cases hb : bt (tkM n T) (k - 1) with
      | true =>
        rw [if_neg (show ¬ (if true = true then (1 : Int32) else 0) = 0 by decide), if_pos rfl]
        exact ih fu (k + 1) few best G (by omega) (by omega) (by omega) h7 hG hC hN ht
      | false =>
        rw [if_pos (show (if false = true then (1 : Int32) else 0) = 0 by decide), if_neg (show ¬ false = true by decide), b1_I (show k - 1 < 1000 by omega), lt_w]
        obtain ⟨x0, hC⟩ := hC
        obtain ⟨G1, hG1⟩ : ∃ G1, G1 = uc G 75 (upd (G 75) 3 (nb ||| b1 (k - 1))) := ⟨_, rfl⟩
        rw [← hG1]
        have s1 : Sb [75] G G1 := by rw [hG1]; exact Sb.rf.uc (by decide)
        have a75 : G1 75 = upd (G 75) 3 (nb ||| b1 (k - 1)) := by rw [hG1, uc_s]
        have hC1 : SC G1 M n who kind (owM n M T k) (am M) := by
          unfold SC at hC ⊢
          rw [a75, s1 76 (by decide), s1 77 (by decide), upd_n (by decide), upd_n (by decide), upd_s]
          refine ⟨hC.1, hC.2.1, hC.2.2.1, fun i hi => ⟨?_, LO_mk hn.2 _⟩, hC.2.2.2.2⟩
          rw [or_sw, hN i hi]
          exact ow_fr hn.2 (by omega)
        have ht1 : G1 75 2 = tkM n T := by rw [a75, upd_n (by decide)]; exact ht
        obtain ⟨G2, s, b1', b2, b3, b4, b5⟩ := X_nst (p := p) (q := q) (w := w) (v := v) (ds := ds) hG.2.1 hw (hG.2.2.2.2.2.sc (s1.mono (by decide))) hC1
        rw [ht1] at b2
        have h6 := nst_6 (M := M) (kind := kind) (O := owM n M T k) (who := who) (t := tkM n T) hnp
        have hG2 : XI G2 p M T n np kind := hG.keep (Sb.tr (s1.mono (by decide)) (b5.mono (by decide))) b4
        have hC2 := hC1.keep (b5 75 (by decide)) (b5 76 (by decide)) (b5 77 (by decide))
        have ht2 : G2 75 2 = tkM n T := by rw [b5 75 (by decide)]; exact ht1
        have hN2 : ∀ i, i < 6 → nb ||| G2 77 i = owM n M T 0 i := fun i hi => by rw [b5 77 (by decide), s1 77 (by decide)]; exact hN i hi
        simp only [r_1_0, r_1_1, r_1_2, r_1_3, r_1_4, r_1_5, r_1_6, r_1_7, r_1_8, r_1_9, r_1_10, r_1_11, k_1, n_1, k_78, if_true, reduceIte, b1', bd_s, Xbc, b2, I_len (show few < 1000000 by omega) (show nst M kind (owM n M T k) who (tkM n T) np < 1000000 by omega)]
        by_cases c : nst M kind (owM n M T k) who (tkM n T) np < few
        · rw [if_neg (by omega), if_pos c]
          obtain ⟨G3, w1, w2, w3⟩ := ih fu (k + 1) (nst M kind (owM n M T k) who (tkM n T) np) (I k) G2 (by omega) (by omega) (by omega) (by omega) hG2 ⟨k, hC2⟩ hN2 ht2
          exact ⟨G3, w1, Sb.tr (Sb.tr (s1.mono (by decide)) (b5.mono (by decide))) w2, w3⟩
        · rw [if_pos (by omega), if_neg c]
          obtain ⟨G3, w1, w2, w3⟩ := ih fu (k + 1) few best G2 (by omega) (by omega) (by omega) (by omega) hG2 ⟨k, hC2⟩ hN2 ht2
          exact ⟨G3, w1, Sb.tr (Sb.tr (s1.mono (by decide)) (b5.mono (by decide))) w2, w3⟩
theorem M_grd_lp {g : Nat → Nat → Int32} {n np kind : Nat} (hP : PW (g 84) n np kind) : ∀ (r fu k few : Nat) (best : Int32) (G : Nat → Nat → Int32), r < fu → k + r = n + 1 → 1 ≤ k → few ≤ 99 → G 84 = g 84 → G 86 = g 86 →
    ∃ G', f_X12_guard_19 fu (G, RF p q w v ds) 83 (tkM n (g 86)) best (I few) (I k) = some (gdR (fun x => nst (g 84) kind (owM n (g 84) (g 86) x) (slM np (g 86)) (tkM n (g 86)) np) (tkM n (g 86)) r k few best, (G', RF p q w v ds)) ∧ Sb [83, 92] G G' ∧ G' 83 12 = I ((0 : Nat) : Int) ∧ ∀ j, j ∈ [5, 7, 9, 14, 27] → G' 83 j = G 83 j := by
  have hn := hP.2.1
  have hnp := hP.2.2.2.1
  intro r
  induction r with
  | zero =>
    intro fu k few best G hf hk h1 h7 e84 e86
    obtain ⟨fu, rfl⟩ : ∃ k, fu = k + 1 := ⟨fu - 1, by omega⟩
    have c1 : I (n : Int) < I (k : Int) := by rw [I_ltn (by omega) (by omega)]; omega
    refine ⟨uc G 83 (upd (G 83) 12 0), ?_, Sb.rf.uc (by decide), by rw [uc_s, upd_s]; rfl, fun j hj => ?_⟩
    · simp only [f_X12_guard_19, r_83_1, r_83_2, r_83_3, r_83_4, r_83_6, r_83_8, r_83_11, r_83_13, r_83_15, r_83_19, r_83_20, r_83_21, r_83_22, r_83_24, r_83_25, r_83_26, r_83_28, r_83_29, k_83, n_83, k_84, n_84, k_85, n_85, k_86, n_86, k_87, n_87, k_88, n_88, k_89, n_89, k_90, n_90, k_91, n_91, k_92, n_92, k_93, n_93, k_94, n_94, k_95, n_95, k_96, n_96, k_97, n_97, k_98, n_98, k_99, n_99, k_100, n_100, k_101, n_101, ci_0, ci_1, ci_2, ci_3, ci_4, ii_0, ii_1, ii_2, ii_3, ii_4, id_0, id_1, id_2, gd, if_true, reduceIte, e84, hP.1, if_pos c1, gdR, lt_w]
    · rw [uc_s, upd_n (fun e => by subst e; revert hj; decide)]
  | succ r ih =>
    intro fu k few best G hf hk h1 h7 e84 e86
    obtain ⟨fu, rfl⟩ : ∃ k, fu = k + 1 := ⟨fu - 1, by omega⟩
    have c1 : ¬ I (n : Int) < I (k : Int) := by rw [I_ltn (by omega) (by omega)]; omega
    have ek : g 84 2 = I kind := hP.2.2.2.2.1
    simp only [f_X12_guard_19, f_X12_guard_79, r_83_1, r_83_2, r_83_3, r_83_4, r_83_6, r_83_8, r_83_11, r_83_13, r_83_15, r_83_19, r_83_20, r_83_21, r_83_22, r_83_24, r_83_25, r_83_26, r_83_28, r_83_29, k_83, n_83, k_84, n_84, k_85, n_85, k_86, n_86, k_87, n_87, k_88, n_88, k_89, n_89, k_90, n_90, k_91, n_91, k_92, n_92, k_93, n_93, k_94, n_94, k_95, n_95, k_96, n_96, k_97, n_97, k_98, n_98, k_99, n_99, k_100, n_100, k_101, n_101, ci_0, ci_1, ci_2, ci_3, ci_4, ii_0, ii_1, ii_2, ii_3, ii_4, id_0, id_1, id_2, gd, if_true, reduceIte, e84, hP.1, if_neg c1, I_p h1, M_has _ _ (show k - 1 < 32 by omega), bd_s, I_s]
    rw [gdR]
    cases hb : bt (tkM n (g 86)) (k - 1) with
    | true =>
      rw [if_neg (show ¬ (if true = true then (1 : Int32) else 0) = 0 by decide), if_pos rfl]
      exact ih fu (k + 1) few best G (by omega) (by omega) (by omega) h7 e84 e86
    | false =>
      rw [if_pos (show (if false = true then (1 : Int32) else 0) = 0 by decide), if_neg (show ¬ false = true by decide), lt_w]
      obtain ⟨G1, hG1⟩ : ∃ G1, G1 = uc G 83 (upd (G 83) 12 (I k)) := ⟨_, rfl⟩
      rw [← hG1]
      have s1 : Sb [83, 92] G G1 := by rw [hG1]; exact Sb.rf.uc (by decide)
      have f84 : G1 84 = g 84 := by rw [s1 84 (by decide)]; exact e84
      have f86 : G1 86 = g 86 := by rw [s1 86 (by decide)]; exact e86
      have f12 : G1 83 12 = I k := by rw [hG1, uc_s, upd_s]
      have fj : ∀ j, j ∈ [5, 7, 9, 14, 27] → G1 83 j = G 83 j := fun j hj => by rw [hG1, uc_s, upd_n (fun e => by subst e; revert hj; decide)]
      have ms := M_silent (p := p) (q := q) (w := w) (v := v) (ds := ds) (g := G1) (np := np) (by rw [f84]; exact hP.2.2.1)
      rw [f86] at ms
      obtain ⟨G2, t1', t2⟩ := M_stk (p := p) (q := q) (w := w) (v := v) (ds := ds) (g := G1) (kind := kind) (fr := k) (slM np (g 86)) (tkM n (g 86)) (by rw [f84]; exact hP) hP.2.2.2.2.2.1 (by omega) f12
      rw [f84, f86] at t1'
      have h6 := nst_6 (M := g 84) (kind := kind) (O := owM n (g 84) (g 86) k) (who := slM np (g 86)) (t := tkM n (g 86)) hnp
      have en : pc 24 (stk (g 84) kind (owM n (g 84) (g 86) k) (am (g 84)) (whl (slM np (g 86)) 0 np) (tkM n (g 86)) 0) = nst (g 84) kind (owM n (g 84) (g 86) k) (slM np (g 86)) (tkM n (g 86)) np := rfl
      have hj : ∀ j, j ∈ [5, 7, 9, 14, 27] → G2 83 j = G 83 j := fun j hj => by rw [t2.1 j (by simp only [List.mem_cons, List.not_mem_nil, or_false] at hj; omega)]; exact fj j hj
      simp only [r_83_1, r_83_2, r_83_3, r_83_4, r_83_6, r_83_8, r_83_11, r_83_13, r_83_15, r_83_19, r_83_20, r_83_21, r_83_22, r_83_24, r_83_25, r_83_26, r_83_28, r_83_29, k_83, n_83, k_84, n_84, k_85, n_85, k_86, n_86, k_87, n_87, k_88, n_88, k_89, n_89, k_90, n_90, k_91, n_91, k_92, n_92, k_93, n_93, k_94, n_94, k_95, n_95, k_96, n_96, k_97, n_97, k_98, n_98, k_99, n_99, k_100, n_100, k_101, n_101, ci_0, ci_1, ci_2, ci_3, ci_4, ii_0, ii_1, ii_2, ii_3, ii_4, id_0, id_1, id_2, if_true, reduceIte, ms, f84, ek, t1', bd_s, Mbits, en, I_len (show few < 1000000 by omega) (show nst (g 84) kind (owM n (g 84) (g 86) k) (slM np (g 86)) (tkM n (g 86)) np < 1000000 by omega)]
      by_cases c : nst (g 84) kind (owM n (g 84) (g 86) k) (slM np (g 86)) (tkM n (g 86)) np < few
      · rw [if_neg (by omega), if_neg (by omega), if_pos c]
        obtain ⟨G3, w1, w2, w3, w4⟩ := ih fu (k + 1) (nst (g 84) kind (owM n (g 84) (g 86) k) (slM np (g 86)) (tkM n (g 86)) np) (I k) G2 (by omega) (by omega) (by omega) (by omega) (by rw [t2.2 84 (by decide)]; exact f84) (by rw [t2.2 86 (by decide)]; exact f86)
        exact ⟨G3, w1, Sb.tr (Sb.tr s1 t2.2) w2, w3, fun j h => by rw [w4 j h]; exact hj j h⟩
      · rw [if_pos (by omega), if_pos (by omega), if_neg c]
        obtain ⟨G3, w1, w2, w3, w4⟩ := ih fu (k + 1) few best G2 (by omega) (by omega) (by omega) (by omega) (by rw [t2.2 84 (by decide)]; exact f84) (by rw [t2.2 86 (by decide)]; exact f86)
        exact ⟨G3, w1, Sb.tr (Sb.tr s1 t2.2) w2, w3, fun j h => by rw [w4 j h]; exact hj j h⟩
end T
theorem S_guard : Sp0 Inv f_X11_guard f_X12_guard := by
  rintro h ⟨g, p, q, w, v, ds, n, np, kind, rfl, hV⟩
  have hn := hV.pw.2.1
  have hnp := hV.pw.2.2.2.1
  obtain ⟨g1, n1, n2, n3, n4, n5, n6⟩ := X_now (p := p) (q := q) (w := w) (v := v) (ds := ds) hV.2.2.2.1
  obtain ⟨g2, f1, f2, f3⟩ := X_grd_lp (p := p) (q := q) (w := w) (v := v) (ds := ds) (nb := g1 75 3) (slM_lo hnp) n FU 1 7 (-4) g1 (FU_lt (by omega)) (by omega) (by omega) (by omega) n3 ⟨0, n4⟩ (fun i hi => (n4.2.2.2.1 i hi).1) n6
  have hX : XK q g g2 := ((n2.mono (by decide)).tr f2).qc
  have hS := MS.of hV hX
  obtain ⟨g3, y1, y2, y3, y4⟩ := M_grd_lp (p := p) (q := q) (w := w) (v := v) (ds := ds) hV.pw n FU 1 99 (-4) (th g2) (FU_lt (by omega)) (by omega) (by omega) (by omega) hS.1 hS.2.1
  rw [gdR_few (fun k => nst_6 hnp)] at f1
  have f1 : f_X11_guard_20 FU (g1, RF p q w v ds) 1 75 (g1 75 3) 7 (-4) 1 = _ := f1
  have y1 : f_X12_guard_19 FU (th g2, RF p q w v ds) 83 (tkM n (g 86)) (-4) 99 1 = _ := y1
  have mt := M_taken (p := p) (q := q) (w := w) (v := v) (ds := ds) (g := th g2) hn.2 (by rw [hS.1]; exact hV.pw.1)
  rw [hS.2.1] at mt
  generalize gdR (fun x => nst (g 84) kind (owM n (g 84) (g 86) x) (slM np (g 86)) (tkM n (g 86)) np) (tkM n (g 86)) n 1 99 (-4) = R at f1 y1
  have hmk : MK (th g2) g3 := ⟨y2.mono (by decide), fun j hj => by
    by_cases e : j = 12
    · subst e; rw [y3]; exact hS.2.2.symm
    · refine y4 j ?_
      unfold S83 at hj
      simp only [List.mem_cons, List.not_mem_nil, or_false] at hj ⊢
      omega⟩
  refine ⟨R, (g2, RF p q w v ds), (g3, RF p q w v ds), ?_, ?_, hV.q1 hX f3.2.2.2.2.2 ((th_mk g2).tr hmk)⟩
  · unfold f_X11_guard
    revert f1
    generalize f_X11_guard_20 FU = lf
    intro f1
    simp only [r_1_0, r_1_1, r_1_2, r_1_3, r_1_4, r_1_5, r_1_6, r_1_7, r_1_8, r_1_9, r_1_10, r_1_11, k_1, n_1, k_75, gd, if_true, reduceIte, n1, bd_w, f1]
  · unfold f_X12_guard
    revert y1
    generalize f_X12_guard_19 FU = lf
    intro y1
    rw [gd_t (show kd 83 = 12 from rfl), th_lt, mt, bd_w, y1]
/-! getsWorse -/
theorem stk_mem {M : Nat → Int32} {kind : Nat} {O : Nat → Int32} {A : Nat → Nat} : ∀ (l : List Nat) (t s : Int32) (i : Nat), i < 32 → (∀ k ∈ l, k < 32) → bt (stk M kind O A l t s) i = true → bt s i = true ∨ i ∈ l := by
  intro l
  induction l with
  | nil => intro t s i _ _ h; exact Or.inl h
  | cons k l ih =>
    intro t s i hi hl h
    have hl' : ∀ k ∈ l, k < 32 := fun j hj => hl j (List.mem_cons_of_mem _ hj)
    rcases ih _ _ i hi hl' h with h1 | h1
    · split at h1
      · rw [bt_or, Bool.or_eq_true, bt_b1 (hl k List.mem_cons_self) hi, decide_eq_true_eq] at h1
        rcases h1 with h2 | h2
        · exact Or.inl h2
        · subst h2; exact Or.inr List.mem_cons_self
      · exact Or.inl h1
    · exact Or.inr (List.mem_cons_of_mem _ h1)
theorem pc_mono {x y : Int32} : ∀ n, (∀ i, i < n → bt x i = true → bt y i = true) → pc n x ≤ pc n y := by
  intro n
  induction n with
  | zero => intro _; exact Nat.le_refl _
  | succ n ih =>
    intro h
    have h1 := ih (fun i hi => h i (by omega))
    have h2 := h n (by omega)
    show pc n x + (if bt x n then 1 else 0) ≤ pc n y + (if bt y n then 1 else 0)
    cases hx : bt x n
    · have : (if false = true then 1 else 0) = 0 := rfl
      rw [this]; omega
    · rw [h2 hx]; omega
theorem nst_who {M : Nat → Int32} {kind : Nat} {O : Nat → Int32} {who t : Int32} {np : Nat} (h : np ≤ 6) (hw : LO np who) : nst M kind O who t np ≤ pc 32 who := by
  rw [pc_32 (x := who) (fun i h1 h2 => hw i (by omega) h2)]
  refine pc_mono 24 (fun i hi hb => ?_)
  rcases stk_mem _ _ _ i (by omega) (fun k hk => by have := whl_mem k hk; omega) hb with e | e
  · rw [bt_0] at e; cases e
  · exact (whl_mem i e).2.2
/-- the most that were stuck so far -/
def mb0 (m : Option Nat) : Int32 := match m with | none => I (-4) | some b => I (b : Int)
def mbw (m : Option Nat) (s : Nat) : Bool := match m with | none => true | some b => decide (b < s)
def GWC : List Nat := [61, 62, 63, 64, 65, 66, 68, 69, 70, 71, 72, 73, 74, 75, 78]
section T
variable {p q w v : Nat} {ds : Nat → Nat}
theorem X_gw {G : Nat → Nat → Int32} {M : Nat → Int32} {n np k0 kind : Nat} {who : Int32} {O : Nat → Int32} (t : Int32) (m : Option Nat) (hM : PW M n np k0) (hw : LO np who) (hS : SX M n G) (hC : SC G M n who kind O (am M)) (hm : G 78 0 = mb0 m) (hm6 : ∀ b, m = some b → b ≤ 6) :
    ∃ G', f_X1_getsWorse (G, RF p q w v ds) 78 75 t = some (if mbw m (nst M kind O who t np) then 1 else 0, (G', RF p q w v ds)) ∧ Sb GWC G G' ∧ SX M n G' ∧ SC G' M n who kind O (am M) ∧ (∀ j, j ≠ 2 → G' 75 j = G 75 j) ∧ (∀ j, j ≠ 0 → G' 78 j = G 78 j) ∧ G' 78 0 = (if mbw m (nst M kind O who t np) then I (nst M kind O who t np : Nat) else mb0 m) := by
  have hnp := hM.2.2.2.1
  have hpw := pc_le 32 who
  have hsw := nst_who (M := M) (kind := kind) (O := O) (t := t) hnp hw
  have h6 := nst_6 (M := M) (kind := kind) (O := O) (who := who) (t := t) hnp
  have hlt : mb0 m < I (pc 32 who : Nat) ↔ (match m with | none => true | some b => decide (b < pc 32 who)) = true := by
    cases m with
    | none => exact ⟨fun _ => rfl, fun _ => (I_lt (a := -4) (by omega) (by omega)).mpr (by omega)⟩
    | some b =>
      have := hm6 b rfl
      show I (b : Int) < _ ↔ decide (b < pc 32 who) = true
      rw [I_ltn (by omega) (by omega), decide_eq_true_eq]
  unfold f_X1_getsWorse
  simp only [k_78, k_75, gd, if_true, reduceIte, Xbc, bd_s, hC.1, hm]
  by_cases c : mb0 m < I (pc 32 who : Nat)
  · rw [if_pos c, lt_w]
    obtain ⟨G1, hG1⟩ : ∃ G1, G1 = uc G 75 (upd (G 75) 2 t) := ⟨_, rfl⟩
    rw [← hG1]
    have s1 : Sb [75] G G1 := by rw [hG1]; exact Sb.rf.uc (by decide)
    have a75 : G1 75 = upd (G 75) 2 t := by rw [hG1, uc_s]
    have hC1 : SC G1 M n who kind O (am M) := by
      unfold SC at hC ⊢
      rw [a75, s1 76 (by decide), s1 77 (by decide), upd_n (by decide), upd_n (by decide), upd_n (by decide)]
      exact hC
    have ht1 : G1 75 2 = t := by rw [a75, upd_s]
    obtain ⟨G2, s, b1', b2, b3, b4, b5⟩ := X_nst (p := p) (q := q) (w := w) (v := v) (ds := ds) hM hw (hS.sc (s1.mono (by decide))) hC1
    rw [ht1] at b2
    have hC2 := hC1.keep (b5 75 (by decide)) (b5 76 (by decide)) (b5 77 (by decide))
    have hm2 : G2 78 0 = mb0 m := by rw [b5 78 (by decide), s1 78 (by decide)]; exact hm
    have s2 : Sb GWC G G2 := Sb.tr (s1.mono (by decide)) (b5.mono (by decide))
    have e75 : ∀ j, j ≠ 2 → G2 75 j = G 75 j := fun j hj => by rw [b5 75 (by decide), a75, upd_n hj]
    have e78 : G2 78 = G 78 := by rw [b5 78 (by decide), s1 78 (by decide)]
    have hlt2 : mb0 m < I (nst M kind O who t np : Nat) ↔ mbw m (nst M kind O who t np) = true := by
      cases m with
      | none => exact ⟨fun _ => rfl, fun _ => (I_lt (a := -4) (by omega) (by omega)).mpr (by omega)⟩
      | some b =>
        have := hm6 b rfl
        show I (b : Int) < _ ↔ decide (b < nst M kind O who t np) = true
        rw [I_ltn (by omega) (by omega), decide_eq_true_eq]
    simp only [b1', bd_s, b2, hm2]
    by_cases c2 : mb0 m < I (nst M kind O who t np : Nat)
    · rw [if_pos c2, lt_w, hlt2.mp c2]
      refine ⟨uc G2 78 (upd (G2 78) 0 (I (nst M kind O who t np : Nat))), rfl, s2.uc (by decide), b4.sc (Sb.rf.uc (by decide)), hC2.keep (uc_n (by decide)) (uc_n (by decide)) (uc_n (by decide)), fun j hj => by rw [uc_n (by decide)]; exact e75 j hj, fun j hj => by rw [uc_s, upd_n hj, e78], by rw [uc_s, upd_s]; rfl⟩
    · have hb : mbw m (nst M kind O who t np) = false := by
        cases hb : mbw m (nst M kind O who t np)
        · rfl
        · exact absurd (hlt2.mpr hb) c2
      rw [if_neg c2, hb]
      exact ⟨G2, rfl, s2, b4, hC2, e75, fun j _ => by rw [e78], hm2⟩
  · rw [if_neg c]
    have hb : mbw m (nst M kind O who t np) = false := by
      cases m with
      | none => exact absurd (hlt.mpr rfl) c
      | some b =>
        have hb2 : ¬ b < pc 32 who := fun z => c (hlt.mpr (decide_eq_true z))
        show decide (b < nst M kind O who t np) = false
        exact decide_eq_false (by omega)
    rw [hb]
    exact ⟨G, rfl, Sb.rf, hS, hC, fun _ _ => rfl, fun _ _ => rfl, hm⟩
end T
