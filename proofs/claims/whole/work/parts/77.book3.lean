theorem S_book : Sp1 Inv f_X11_book f_X12_book := by
  rintro h a ⟨g, p, q, w, v, ds, n, np, kind, rfl, hV⟩
  have hp := hV.p
  obtain ⟨kp, -⟩ := Pk hV.p
  have hM := hV.pw
  have hn := hM.2.1
  have hnp := hM.2.2.2.1
  obtain ⟨m, m1, m2, m3, m4⟩ := hV.2.2.2.2.2.2.2.2.2.1
  have e1 : g p 1 = I np := by rw [hV.pr.1 1 (by decide)]; exact hM.2.2.1
  have e2 : g p 2 = I kind := by rw [hV.pr.1 2 (by decide)]; exact hM.2.2.2.2.1
  have e3 : ∀ i, i < 6 → g (p + 3) i = g 84 (53 + i) := hV.pr.2.2.2
  have cB : (a < (-1 : Int32)) = (a.toInt < -1) := lt_out (z := -1) (by omega)
  have cS : (a < I (m : Int)) = (a.toInt < m) := lt_out (by omega)
  have f27 : th g 83 27 = I (m : Int) := by rw [th_83 (by decide)]; exact m3
  have em1 : (I (m : Int) - 1).toInt64.toInt = (m : Int) - 1 := by rw [show I (m : Int) - 1 = I ((m : Int) - 1) by rw [I_lit, I_sub], I_64c _ (by omega)]
  by_cases hc : -1 ≤ a.toInt ∧ a.toInt < m
  · obtain ⟨g1, w', v', r1, hw', s1, b0, b1', b3⟩ := X_rd2 (q := q) (ds := ds) hp hM m1 m FU 0 w v g (FU_lt (by omega)) (by omega) hV.2.1 m2 e1 e2 e3 (fun t ht => absurd ht (by omega))
    have r1 : f_X0_read_2 FU (g, RF p q w v ds) 53 p 58 0 = _ := r1
    obtain ⟨C, hC⟩ : ∃ C, C = CB (g 84) (g 99) kind np := ⟨_, rfl⟩
    have hF : ∀ t j, F (Cr (CB (g 84) (g 54) kind np) t j) m 0 0 = F (Cr C t j) m 0 0 := fun t j => F_cg m 0 0 (fun t' h1 h2 i hi => by
      have : CB (g 84) (g 54) kind np t' = C t' := by rw [hC]; unfold CB; rw [(m4 t' (by omega)).1]
      unfold Cr
      rw [this])
    have hF0 : F (CB (g 84) (g 54) kind np) m 0 0 = F C m 0 0 := F_cg m 0 0 (fun t' h1 h2 i hi => by
      have : CB (g 84) (g 54) kind np t' = C t' := by rw [hC]; unfold CB; rw [(m4 t' (by omega)).1]
      rw [this])
    rw [hF0] at b1'
    have f27' : th g1 83 27 = I (m : Int) := by rw [th_83 (by decide), s1 83 (by decide)]; exact m3
    have e84 : th g1 84 = g 84 := by rw [th_n (by decide)]; exact s1 84 (by decide)
    have e99 : th g1 99 = g 99 := by rw [th_n (by decide)]; exact s1 99 (by decide)
    obtain ⟨g2, q1, q2, q3⟩ := M_bk27 (p := p) (q := q) (w := w') (v := v') (ds := ds) (x := a) m1 m FU 0 (th g1) (FU_lt (by omega)) (by omega) (by rw [e84]; exact hM) f27' (fun t ht => by rw [e99]; exact (m4 t ht).2.2) (fun t ht => absurd ht (by omega))
    have q1 : f_X12_book_27 FU (th g1, RF p q w' v' ds) 83 a 0 = _ := q1
    rw [e84, e99, ← hC] at q3
    obtain ⟨g3, t1', t2⟩ := M_rb (p := p) (q := q) (w := w') (v := v') (ds := ds) m1 (a := -4) (b := 0) (D := C) (g := g2) (by rw [q2 83 (by decide)]; exact f27') (fun t ht => by rw [if_neg (fun z => by have := (I_inj (b := -4) (by omega) (by omega)).mp z; omega)]; exact q3 t ht)
    have M0 : ∀ (r : Int32) (g4 : Nat → Nat → Int32), (if 0 ≤ a then f_X12_book_126 FU (g3, RF p q w' v' ds) 83 a (I ((F C m 0 0 : Nat) : Int)) 0 else some (I ((F C m 0 0 : Nat) : Int), (g3, RF p q w' v' ds))) = some (r, (g4, RF p q w' v' ds)) → f_X12_book (g1, RF p q w' v' ds) 83 a = some (r, (g4, RF p q w' v' ds)) := fun r g4 hh => by
      unfold f_X12_book
      unfold bkE at q1
      revert q1 t1' hh
      generalize f_X12_book_27 FU = lf
      generalize f_X12_book_126 FU = lf2
      generalize f_X12_readingsBy = rb
      intro q1 t1' hh
      rw [gd_t (show kd 83 = 12 from rfl), th_lt, M_in, bd_w, Int32.toInt_toInt64, show (-1 : Int64).toInt = -1 by decide, show (th g1, RF p q w' v' ds).1 83 27 = I m from f27', em1, if_pos (show -1 ≤ a.toInt ∧ a.toInt ≤ (m : Int) - 1 by omega), if_neg (by decide), q1, t1', bd_w]
      exact hh
    have K : ∀ g4, Sb [101] g3 g4 → Inv (g4, RF p q w' v' ds) := fun g4 s4 => by
      refine ⟨g4, p, q, w', v', ds, n, np, kind, rfl, hV.fin (g1 := g1) ⟨s1.nv (by decide), b0, s1 83 (by decide)⟩ ?_ ((th_mk g1).tr ⟨?_, ?_⟩) hw'⟩
      · exact hV.sx.same (fun a h1 h2 => s1 a (by simp; omega))
      · exact Sb.tr (q2.mono (by decide)) (Sb.tr (t2.mono (by decide)) (s4.mono (by decide)))
      · intro j hj; rw [s4 83 (by decide), t2 83 (by decide), q2 83 (by decide)]
    have X0 : f_X0_read (g, RF p q w v ds) 53 p 58 = some ((), (g1, RF p q w' v' ds)) := by
      unfold f_X0_read
      rw [gd_t (show kd 53 = 0 from rfl), gd_t kp, gd_t (show kd 58 = 9 from rfl)]
      exact r1
    by_cases ha : a.toInt < 0
    · have ha0 : ¬ 0 ≤ a := by rw [show (0 : Int32) = I 0 from rfl, ge_out (by omega)]; omega
      refine ⟨I (F C m 0 0 : Nat), (g1, RF p q w' v' ds), (g3, RF p q w' v' ds), ?_, M0 _ _ (if_neg ha0), K g3 Sb.rf⟩
      unfold f_X11_book
      revert X0
      generalize f_X0_read = rf
      generalize f_X0_surePerson = sf
      intro X0
      rw [gd_t (show kd 1 = 11 from rfl), if_neg (by rw [cB]; omega)]
      simp only [r_1_0, r_1_1, r_1_2, r_1_3, r_1_4, r_1_5, r_1_6, r_1_7, r_1_8, r_1_9, r_1_10, r_1_11, k_1, n_1, k_53, k_58, kp, gd, if_true, reduceIte, m2]
      rw [if_pos (by rw [cS]; omega), X0, bd_w, if_neg ha0]
      simp only [r_1_0, r_1_1, r_1_2, r_1_3, r_1_4, r_1_5, r_1_6, r_1_7, r_1_8, r_1_9, r_1_10, r_1_11, k_1, n_1, k_53, if_true, reduceIte, b1']
    · obtain ⟨t, t1, rfl⟩ := per_c (a := a) (n := m) ⟨by omega, hc.2⟩
      have ha0 : 0 ≤ I (t : Int) := (I_le (a := 0) (by omega) (by omega)).mpr (by omega)
      have hsp := F_split C m 0 t 0 (by omega) (by omega)
      have h8 := sure_c (N := fun i => F (Cr C t i) m 0 0) (X := g1 56 t) (fun j hj => by rw [b3 t t1 j hj, hF])
      rw [← hsp] at h8
      have X1 : ∀ r : Int32, f_X0_surePerson (g1, RF p q w' v' ds) 53 (I t) = some (r, (g1, RF p q w' v' ds)) → f_X11_book (g, RF p q w v ds) 1 (I t) = some (r, (g1, RF p q w' v' ds)) := fun r hr => by
        unfold f_X11_book
        revert X0 hr
        generalize f_X0_read = rf
        generalize f_X0_surePerson = sf
        intro X0 hr
        rw [gd_t (show kd 1 = 11 from rfl), if_neg (by rw [cB]; omega)]
        simp only [r_1_0, r_1_1, r_1_2, r_1_3, r_1_4, r_1_5, r_1_6, r_1_7, r_1_8, r_1_9, r_1_10, r_1_11, k_1, n_1, k_53, k_58, kp, gd, if_true, reduceIte, m2]
        rw [if_pos (by rw [cS]; omega), X0, bd_w, if_pos ha0]
        simp only [r_1_0, r_1_1, r_1_2, r_1_3, r_1_4, r_1_5, r_1_6, r_1_7, r_1_8, r_1_9, r_1_10, r_1_11, k_1, n_1, k_53, if_true, reduceIte, hr, bd_w]
      have sp0 : ∀ (r : Int32), (if I ((pc 32 (g1 56 t) : Nat) : Int) = 1 then bd (f_X11_firstBit (g1, RF p q w' v' ds) (g1 56 t)) (fun r8 h9 => some (r8, h9)) else some (-4, (g1, RF p q w' v' ds))) = some (r, (g1, RF p q w' v' ds)) → f_X0_surePerson (g1, RF p q w' v' ds) 53 (I t) = some (r, (g1, RF p q w' v' ds)) := fun r hr => by
        have l1 : ¬ I (t : Int) < 0 := fun z => by have := (I_lt (b := 0) (by omega) (by omega)).mp z; omega
        have l2 : ¬ I (m : Int) ≤ I (t : Int) := fun z => by have := (I_le (by omega) (by omega)).mp z; omega
        have m2' : g1 53 0 = I m := by rw [b0]; exact m2
        unfold f_X0_surePerson
        revert hr
        generalize f_X11_firstBit = fb
        intro hr
        rw [gd_t (show kd 53 = 0 from rfl), if_neg l1]
        simp only [m2', if_neg l2, r_53_2, r_53_3, r_53_4, r_53_5, k_53, n_53, k_54, n_54, k_55, n_55, k_56, n_56, k_57, n_57, gd, if_true, reduceIte, I_in (show t < 6 by omega) (show 6 < 1000000 by decide), I_ix (show t < 1000000 by omega), Xbc, bd_w]
        exact hr
      have hpc := pc_le 32 (g1 56 t)
      have q38 : ∀ t, t < m → g3 100 t = C t := fun t ht => by rw [t2 100 (by decide)]; exact q3 t ht
      have q84 : g3 84 1 = I np := by rw [t2 84 (by decide), q2 84 (by decide), e84]; exact hM.2.2.1
      have q27 : g3 83 27 = I m := by rw [t2 83 (by decide), q2 83 (by decide)]; exact f27'
      rcases h8 with ⟨i, i1, i2, i3, i4, i5, i6, i7⟩ | ⟨i1, i2⟩
      · have hin : i < np := by
          rcases Nat.lt_or_ge i np with z | z
          · exact z
          · exfalso
            have : F (Cr C t i) m 0 0 = 0 := by
              have hz : ∀ d k gv, k ≤ t → t < k + d → F (Cr C t i) d k gv = 0 := by
                intro d
                induction d with
                | zero => intro k gv h1 h2; omega
                | succ d ih =>
                  intro k gv h1 h2
                  show sm 6 _ = 0
                  refine Eq.trans (sm_congr (h := fun _ => 0) (fun j hj => ?_)) (sm_z 6)
                  by_cases c : k = t
                  · subst c
                    apply if_neg
                    rw [Cr_at i1 hj]
                    intro zz
                    rw [Bool.and_eq_true, Bool.and_eq_true, decide_eq_true_eq] at zz
                    have z1 := zz.1.1
                    rw [zz.1.2, hC] at z1
                    unfold CB at z1
                    rw [bt_mk (by omega) _ (by omega), decide_eq_false (by omega), Bool.false_and] at z1
                    cases z1
                  · show (if _ then _ else 0) = 0
                    split
                    · exact ih (k + 1) _ (by omega) (by omega)
                    · rfl
              exact hz m 0 0 (by omega) (by omega)
            omega
        obtain ⟨g4, y1, y2⟩ := M_bk126 (p := p) (q := q) (w := w') (v := v') (ds := ds) m1 hnp t1 (C := C) (rs := i) (Or.inr ⟨hin, i2, i3, fun j hj z => by have := i4 j (by omega) (by omega); omega⟩) i FU 0 g3 (FU_lt (by omega)) (by omega) q84 q27 q38
        rw [if_neg (by omega)] at y1
        refine ⟨I i, (g1, RF p q w' v' ds), (g4, RF p q w' v' ds), X1 _ (sp0 _ ?_), M0 _ _ ?_, K g4 y2⟩
        · rw [i5, if_pos (by decide), X_fb _ (show i < 24 by omega) i6 i7, bd_w]
        · rw [if_pos ha0]; exact y1
      · obtain ⟨g4, y1, y2⟩ := M_bk126 (p := p) (q := q) (w := w') (v := v') (ds := ds) m1 hnp t1 (C := C) (rs := np) (Or.inl ⟨rfl, fun j hj z => i2 j (by omega) z⟩) np FU 0 g3 (FU_lt (by omega)) (by omega) q84 q27 q38
        rw [if_pos rfl] at y1
        refine ⟨-4, (g1, RF p q w' v' ds), (g4, RF p q w' v' ds), X1 _ (sp0 _ ?_), M0 _ _ ?_, K g4 y2⟩
        · rw [if_neg (fun z => i1 (by have := (I_inj (b := 1) (by omega) (by omega)).mp z; omega))]
        · rw [if_pos ha0]; exact y1
  · refine ⟨-1, (g, RF p q w v ds), (th g, RF p q w v ds), ?_, ?_, hV.ask (th_mk g)⟩
    · unfold f_X11_book
      generalize f_X0_read = rf
      generalize f_X0_surePerson = sf
      rw [gd_t (show kd 1 = 11 from rfl)]
      by_cases h1 : a.toInt < -1
      · rw [if_pos (by rw [cB]; exact h1)]
      · rw [if_neg (by rw [cB]; exact h1)]
        simp only [r_1_0, r_1_1, r_1_2, r_1_3, r_1_4, r_1_5, r_1_6, r_1_7, r_1_8, r_1_9, r_1_10, r_1_11, k_1, n_1, k_53, gd, if_true, reduceIte, m2]
        rw [if_neg (by rw [cS]; omega)]
    · unfold f_X12_book
      generalize f_X12_book_27 FU = lf
      rw [gd_t (show kd 83 = 12 from rfl), th_lt, M_in, bd_w, Int32.toInt_toInt64, show (-1 : Int64).toInt = -1 by decide, show (th g, RF p q w v ds).1 83 27 = I m from f27, em1, if_neg (show ¬ (-1 ≤ a.toInt ∧ a.toInt ≤ (m : Int) - 1) by omega), if_pos rfl]
/-! twice -/
def bn (R : Nat → Int32) (x : Nat) : Nat → Nat
  | 0 => 0
  | k + 1 => bn R x k + (if bt (R k) x then 1 else 0)
section T
variable {p q w v : Nat} {ds : Nat → Nat}
theorem X_tw {m : Nat} (hm : m ≤ 6) {g : Nat → Nat → Int32} (h0 : g 53 0 = I m) : ∀ (r fu k : Nat) (a b : Int32), r < fu → k + r = m → (∀ j, j < 32 → bt a j = decide (1 ≤ bn (g 54) j k)) → (∀ j, j < 32 → bt b j = decide (2 ≤ bn (g 54) j k)) →
    ∃ c, f_X0_inTwoRows_6 fu (g, RF p q w v ds) 53 a b (I k) = some (c, (g, RF p q w v ds)) ∧ ∀ j, j < 32 → bt c j = decide (2 ≤ bn (g 54) j m) := by
  intro r
  induction r with
  | zero =>
    intro fu k a b hf hk ha hb
    obtain ⟨fu, rfl⟩ : ∃ k, fu = k + 1 := ⟨fu - 1, by omega⟩
    have : k = m := by omega
    subst this
    refine ⟨b, ?_, hb⟩
    simp only [f_X0_inTwoRows_6]
    rw [h0, if_pos ((I_le (by omega) (by omega)).mpr (by omega))]
  | succ r ih =>
    intro fu k a b hf hk ha hb
    obtain ⟨fu, rfl⟩ : ∃ k, fu = k + 1 := ⟨fu - 1, by omega⟩
    have c1 : ¬ I (m : Int) ≤ I (k : Int) := fun z => by have := (I_le (by omega) (by omega)).mp z; omega
    obtain ⟨c, e, hc⟩ := ih fu (k + 1) (a ||| g 54 k) (b ||| (a &&& g 54 k)) (by omega) (by omega) (fun j hj => by
      rw [bt_or, ha j hj]
      show _ = decide (1 ≤ bn (g 54) j k + (if bt (g 54 k) j then 1 else 0))
      cases bt (g 54 k) j
      · simp
      · simp) (fun j hj => by
      rw [bt_or, bt_and, ha j hj, hb j hj]
      show _ = decide (2 ≤ bn (g 54) j k + (if bt (g 54 k) j then 1 else 0))
      cases bt (g 54 k) j
      · simp
      · simp only [Bool.and_true, if_true]
        rw [← Bool.decide_or]
        apply decide_eq_decide.mpr
        omega)
    refine ⟨c, ?_, hc⟩
    rw [← e]
    simp only [f_X0_inTwoRows_6]
    rw [h0, if_neg c1]
    simp only [r_53_2, r_53_3, r_53_4, r_53_5, k_53, n_53, k_54, n_54, k_55, n_55, k_56, n_56, k_57, n_57, gd, if_true, reduceIte, I_in (show k < 6 by omega) (show 6 < 1000000 by decide), I_ix (show k < 1000000 by omega), I_s]
theorem M_tw21 (k7 : Hp → Nat → Int32 → Option (Int32 × Hp)) {m x : Nat} (hm : m ≤ 6) (hx : x < 24) {g : Nat → Nat → Int32} (h0 : g 83 27 = I m) : ∀ (r fu k : Nat), r < fu → k + r = m →
    f_X12_twice_21 k7 fu (g, RF p q w v ds) 83 (I ((x + 1 : Nat) : Int)) (I (bn (g 99) x k : Nat)) (I k) = if 2 ≤ bn (g 99) x m then some (I ((x + 1 : Nat) : Int), (g, RF p q w v ds)) else k7 (g, RF p q w v ds) 83 (I ((x + 1 + 1 : Nat) : Int)) := by
  have hbn : ∀ k, bn (g 99) x k ≤ k := by
    intro k
    induction k with
    | zero => exact Nat.le_refl _
    | succ k ih => unfold bn; split <;> omega
  intro r
  induction r with
  | zero =>
    intro fu k hf hk
    obtain ⟨fu, rfl⟩ : ∃ k, fu = k + 1 := ⟨fu - 1, by omega⟩
    have : k = m := by omega
    subst this
    have := hbn k
    simp only [f_X12_twice_21]
    rw [h0, if_pos ((I_le (by omega) (by omega)).mpr (by omega))]
    by_cases c : 2 ≤ bn (g 99) x k
    · rw [if_pos c, if_neg (fun z => by have := (I_le (b := 1) (by omega) (by omega)).mp z; omega)]
    · rw [if_neg c, if_pos (show I ((bn (g 99) x k : Nat) : Int) ≤ (1 : Int32) from (I_le (b := 1) (by omega) (by omega)).mpr (by omega)), I_s]
  | succ r ih =>
    intro fu k hf hk
    obtain ⟨fu, rfl⟩ : ∃ k, fu = k + 1 := ⟨fu - 1, by omega⟩
    have c1 : ¬ I (m : Int) ≤ I (k : Int) := fun z => by have := (I_le (by omega) (by omega)).mp z; omega
    rw [← ih fu (k + 1) (by omega) (by omega)]
    simp only [f_X12_twice_21]
    rw [h0, if_neg c1, I_p (show 1 ≤ x + 1 by omega), Nat.add_sub_cancel]
    simp only [r_83_1, r_83_2, r_83_3, r_83_4, r_83_6, r_83_8, r_83_11, r_83_13, r_83_15, r_83_19, r_83_20, r_83_21, r_83_22, r_83_24, r_83_25, r_83_26, r_83_28, r_83_29, k_83, n_83, k_84, n_84, k_85, n_85, k_86, n_86, k_87, n_87, k_88, n_88, k_89, n_89, k_90, n_90, k_91, n_91, k_92, n_92, k_93, n_93, k_94, n_94, k_95, n_95, k_96, n_96, k_97, n_97, k_98, n_98, k_99, n_99, k_100, n_100, k_101, n_101, gd, if_true, reduceIte, I_in (show k < 6 by omega) (show 6 < 1000000 by decide), I_ix (show k < 1000000 by omega), I_s, sshr_bit _ x (show x < 32 by omega)]
    show _ = f_X12_twice_21 k7 fu (g, RF p q w v ds) 83 (I ((x + 1 : Nat) : Int)) (I ((bn (g 99) x k + (if bt (g 99 k) x then 1 else 0) : Nat) : Int)) (I ((k + 1 : Nat) : Int))
    by_cases c : bt (g 99 k) x = true
    · rw [if_pos c, if_pos c, I_s]
    · rw [if_neg c, if_neg c, Int32.add_zero]; rfl
theorem M_tw7 {m n x : Nat} (hm : m ≤ 6) (hn : n ≤ 24) {g : Nat → Nat → Int32} (h0 : g 83 27 = I m) (h84 : g 84 0 = I n) (hx : (x = n) ∨ (x < n ∧ 2 ≤ bn (g 99) x m)) (hl : ∀ j, j < x → bn (g 99) j m < 2) : ∀ (r fu k : Nat), r < fu → k + r = x →
    f_X12_twice_7 fu (g, RF p q w v ds) 83 (I ((k + 1 : Nat) : Int)) = some (if x = n then -4 else I ((x + 1 : Nat) : Int), (g, RF p q w v ds)) := by
  intro r
  induction r with
  | zero =>
    intro fu k hf hk
    obtain ⟨fu, rfl⟩ : ∃ k, fu = k + 1 := ⟨fu - 1, by omega⟩
    have : k = x := by omega
    subst this
    rw [f_X12_twice_7]
    rcases hx with rfl | ⟨h1, h2⟩
    · simp only [r_83_1, r_83_2, r_83_3, r_83_4, r_83_6, r_83_8, r_83_11, r_83_13, r_83_15, r_83_19, r_83_20, r_83_21, r_83_22, r_83_24, r_83_25, r_83_26, r_83_28, r_83_29, k_83, n_83, k_84, n_84, k_85, n_85, k_86, n_86, k_87, n_87, k_88, n_88, k_89, n_89, k_90, n_90, k_91, n_91, k_92, n_92, k_93, n_93, k_94, n_94, k_95, n_95, k_96, n_96, k_97, n_97, k_98, n_98, k_99, n_99, k_100, n_100, k_101, n_101, ci_0, ci_1, ci_2, ci_3, ci_4, ii_0, ii_1, ii_2, ii_3, ii_4, id_0, id_1, id_2, gd, if_true, reduceIte, h84, if_pos (show I (k : Int) < I ((k + 1 : Nat) : Int) from (I_lt (by omega) (by omega)).mpr (by omega))]
    · simp only [r_83_1, r_83_2, r_83_3, r_83_4, r_83_6, r_83_8, r_83_11, r_83_13, r_83_15, r_83_19, r_83_20, r_83_21, r_83_22, r_83_24, r_83_25, r_83_26, r_83_28, r_83_29, k_83, n_83, k_84, n_84, k_85, n_85, k_86, n_86, k_87, n_87, k_88, n_88, k_89, n_89, k_90, n_90, k_91, n_91, k_92, n_92, k_93, n_93, k_94, n_94, k_95, n_95, k_96, n_96, k_97, n_97, k_98, n_98, k_99, n_99, k_100, n_100, k_101, n_101, ci_0, ci_1, ci_2, ci_3, ci_4, ii_0, ii_1, ii_2, ii_3, ii_4, id_0, id_1, id_2, gd, if_true, reduceIte, h84, if_neg (show ¬ I (n : Int) < I ((k + 1 : Nat) : Int) from fun z => by have := (I_lt (by omega) (by omega)).mp z; omega)]
      have := M_tw21 (p := p) (q := q) (w := w) (v := v) (ds := ds) (f_X12_twice_7 fu) hm (show k < 24 by omega) h0 m FU 0 (FU_lt (by omega)) (by omega)
      rw [if_pos h2] at this
      rw [if_neg (by omega)]
      exact this
  | succ r ih =>
    intro fu k hf hk
    obtain ⟨fu, rfl⟩ : ∃ k, fu = k + 1 := ⟨fu - 1, by omega⟩
    rw [← ih fu (k + 1) (by omega) (by omega), f_X12_twice_7]
    simp only [r_83_1, r_83_2, r_83_3, r_83_4, r_83_6, r_83_8, r_83_11, r_83_13, r_83_15, r_83_19, r_83_20, r_83_21, r_83_22, r_83_24, r_83_25, r_83_26, r_83_28, r_83_29, k_83, n_83, k_84, n_84, k_85, n_85, k_86, n_86, k_87, n_87, k_88, n_88, k_89, n_89, k_90, n_90, k_91, n_91, k_92, n_92, k_93, n_93, k_94, n_94, k_95, n_95, k_96, n_96, k_97, n_97, k_98, n_98, k_99, n_99, k_100, n_100, k_101, n_101, ci_0, ci_1, ci_2, ci_3, ci_4, ii_0, ii_1, ii_2, ii_3, ii_4, id_0, id_1, id_2, gd, if_true, reduceIte, h84, if_neg (show ¬ I (n : Int) < I ((k + 1 : Nat) : Int) from fun z => by have := (I_lt (by omega) (by omega)).mp z; omega)]
    have := M_tw21 (p := p) (q := q) (w := w) (v := v) (ds := ds) (f_X12_twice_7 fu) hm (show k < 24 by omega) h0 m FU 0 (FU_lt (by omega)) (by omega)
    rw [if_neg (by have := hl k (by omega); omega)] at this
    exact this
end T
theorem bn_cg {R S : Nat → Int32} {x m : Nat} (h : ∀ t, t < m → R t = S t) : bn R x m = bn S x m := by
  induction m with
  | zero => rfl
  | succ m ih => unfold bn; rw [ih (fun t ht => h t (by omega)), h m (by omega)]
theorem bn_lo {R : Nat → Int32} {n x m : Nat} (h : ∀ t, t < m → LO n (R t)) (hx : n ≤ x) (hx2 : x < 32) : bn R x m = 0 := by
  induction m with
  | zero => rfl
  | succ m ih => unfold bn; rw [ih (fun t ht => h t (by omega)), h m (by omega) x hx hx2]; rfl
/-- the first that holds, or the end -/
theorem first_ex (P : Nat → Bool) : ∀ n, ∃ x, x ≤ n ∧ (x = n ∨ (x < n ∧ P x = true)) ∧ ∀ j, j < x → P j = false := by
  intro n
  induction n with
  | zero => exact ⟨0, Nat.le_refl _, Or.inl rfl, fun j hj => absurd hj (by omega)⟩
  | succ n ih =>
    obtain ⟨x, h1, h2, h3⟩ := ih
    rcases h2 with h2 | h2
    · by_cases c : P n = true
      · exact ⟨n, by omega, Or.inr ⟨by omega, c⟩, fun j hj => h3 j (by omega)⟩
      · refine ⟨n + 1, Nat.le_refl _, Or.inl rfl, fun j hj => ?_⟩
        by_cases e : j = n
        · rw [e]; exact Bool.eq_false_iff.mpr c
        · exact h3 j (by omega)
    · exact ⟨x, by omega, Or.inr ⟨by omega, h2.2⟩, h3⟩
theorem S_twice : Sp0 Inv f_X11_twice f_X12_twice := by
  rintro h ⟨g, p, q, w, v, ds, n, np, kind, rfl, hV⟩
  have hn := hV.pw.2.1
  obtain ⟨m, m1, m2, m3, m4⟩ := hV.2.2.2.2.2.2.2.2.2.1
  obtain ⟨c, c1, c2⟩ := X_tw (p := p) (q := q) (w := w) (v := v) (ds := ds) m1 m2 m FU 0 0 0 (FU_lt (by omega)) (by omega) (fun j hj => by rw [bt_0]; rfl) (fun j hj => by rw [bt_0]; rfl)
  have c1 : f_X0_inTwoRows_6 FU (g, RF p q w v ds) 53 0 0 0 = _ := c1
  have c3 : ∀ j, j < 32 → bt c j = decide (2 ≤ bn (g 99) j m) := fun j hj => by rw [c2 j hj, bn_cg (fun t ht => (m4 t ht).1)]
  obtain ⟨x, x1, x2, x3⟩ := first_ex (fun j => decide (2 ≤ bn (g 99) j m)) n
  have hx2 : x = n ∨ (x < n ∧ 2 ≤ bn (g 99) x m) := by
    rcases x2 with z | z
    · exact Or.inl z
    · exact Or.inr ⟨z.1, of_decide_eq_true z.2⟩
  have x3' : ∀ j, j < x → bn (g 99) j m < 2 := fun j hj => by have := of_decide_eq_false (x3 j hj); omega
  have f27 : th g 83 27 = I (m : Int) := by rw [th_83 (by decide)]; exact m3
  have f84 : th g 84 0 = I n := by rw [th_n (by decide)]; exact hV.pw.1
  have f99 : th g 99 = g 99 := th_n (by decide)
  have t7 := M_tw7 (p := p) (q := q) (w := w) (v := v) (ds := ds) m1 hn.2 f27 f84 (by rw [f99]; exact hx2) (by rw [f99]; exact x3') x FU 0 (FU_lt (by omega)) (by omega)
  have t7 : f_X12_twice_7 FU (th g, RF p q w v ds) 83 1 = _ := t7
  refine ⟨if x = n then -4 else I ((x + 1 : Nat) : Int), (g, RF p q w v ds), (th g, RF p q w v ds), ?_, ?_, hV.ask (th_mk g)⟩
  · have X0 : f_X0_inTwoRows (g, RF p q w v ds) 53 = some (c, (g, RF p q w v ds)) := by
      unfold f_X0_inTwoRows
      rw [gd_t (show kd 53 = 0 from rfl)]
      exact c1
    unfold f_X11_twice
    rw [gd_t (show kd 1 = 11 from rfl)]
    simp only [r_1_0, r_1_1, r_1_2, r_1_3, r_1_4, r_1_5, r_1_6, r_1_7, r_1_8, r_1_9, r_1_10, r_1_11, k_1, n_1, k_53, gd, if_true, reduceIte]
    rw [X0, bd_w]
    by_cases hxn : x = n
    · rw [if_pos hxn, if_pos]
      apply bt_ext
      intro j hj
      rw [c3 j hj, bt_0]
      apply decide_eq_false
      rcases Nat.lt_or_ge j n with z | z
      · have := x3' j (by omega); omega
      · rw [bn_lo (fun t ht => (m4 t ht).2.2) z hj]; decide
    · have hxx : x < n ∧ 2 ≤ bn (g 99) x m := by rcases hx2 with z | z; exact absurd z hxn; exact z
      have hb : bt c x = true := by rw [c3 x (by omega)]; exact decide_eq_true hxx.2
      rw [if_neg hxn, if_neg (fun z => by rw [z, bt_0] at hb; cases hb), X_fb _ (show x < 24 by omega) hb (fun j hj => by rw [c3 j (by omega)]; exact x3 j hj), bd_w, I_s]
  · unfold f_X12_twice
    revert t7
    generalize f_X12_twice_7 FU = lf
    intro t7
    rw [gd_t (show kd 83 = 12 from rfl), th_lt, t7]
