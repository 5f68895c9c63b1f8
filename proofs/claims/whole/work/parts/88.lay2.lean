section T
variable {p q w v : Nat} {ds : Nat → Nat}
/-- the last steps of lay, once the row is copied -/
def layE (h : Hp) : Option (Int32 × Hp) :=
  bd (f_X12_dawn h 83 (0 : Int32)) <| fun _ h2 =>
  lt ((si h2 83 14 (0 : Int32))) <| fun h4 =>
  lt ((si h4 83 27 (0 : Int32))) <| fun h6 =>
  lt ((si h6 83 5 (0 : Int32))) <| fun h8 =>
  lt ((si h8 83 7 (0 : Int32))) <| fun h10 =>
  gd (kd (h10.2 83 1) = 16) <|
  gd (inr (0 : Int32) (ln (h10.2 83 1)) = true) <|
  some ((h10.1 (h10.2 83 1) (0 : Int32).toNatClampNeg), h10)
theorem M_ly28 : ∀ (r fu i : Nat) (g : Nat → Nat → Int32), r < fu → i + r = 59 → (∀ j, j < i → g 84 j = g 85 j) →
    ∃ g', f_X12_lay_28 fu (g, RF p q w v ds) 83 (I i) = layE (g', RF p q w v ds) ∧ Sb [84] g g' ∧ ∀ j, j < 59 → g' 84 j = g 85 j := by
  intro r
  induction r with
  | zero =>
    intro fu i g hf hi hI
    obtain ⟨fu, rfl⟩ : ∃ k, fu = k + 1 := ⟨fu - 1, by omega⟩
    have : i = 59 := by omega
    subst this
    refine ⟨g, ?_, Sb.rf, hI⟩
    rw [f_X12_lay_28]
    exact if_pos (by decide)
  | succ r ih =>
    intro fu i g hf hi hI
    obtain ⟨fu, rfl⟩ : ∃ k, fu = k + 1 := ⟨fu - 1, by omega⟩
    obtain ⟨g', e, s', h'⟩ := ih fu (i + 1) (uc g 84 (upd (g 84) i (g 85 i))) (by omega) (by omega) (fun j hj => by
      rw [uc_s, uc_n (by decide)]
      by_cases c : j = i
      · subst c; rw [upd_s]
      · rw [upd_n c]; exact hI j (by omega))
    refine ⟨g', ?_, fun b hb => by rw [s' b hb, uc_n (fun z => hb (by rw [z]; decide))], fun j hj => by rw [h' j hj, uc_n (by decide)]⟩
    rw [← e]
    simp only [f_X12_lay_28]
    generalize f_X12_lay_28 fu = lf
    rw [if_neg (fun z => by have := (I_le (a := 59) (by omega) (by omega)).mp z; omega)]
    simp only [r_83_1, r_83_2, r_83_3, r_83_4, r_83_6, r_83_8, r_83_11, r_83_13, r_83_15, r_83_19, r_83_20, r_83_21, r_83_22, r_83_24, r_83_25, r_83_26, r_83_28, r_83_29, k_83, n_83, k_84, n_84, k_85, n_85, k_86, n_86, k_87, n_87, k_88, n_88, k_89, n_89, k_90, n_90, k_91, n_91, k_92, n_92, k_93, n_93, k_94, n_94, k_95, n_95, k_96, n_96, k_97, n_97, k_98, n_98, k_99, n_99, k_100, n_100, k_101, n_101, gd, if_true, reduceIte, I_in (show i < 59 by omega) (show 59 < 1000000 by decide), I_ix (show i < 1000000 by omega)]
    rw [lt_w, I_s]
theorem M_layE {g : Nat → Nat → Int32} : ∃ g', layE (g, RF p q w v ds) = some (g 84 0, (g', RF p q w v ds)) ∧ Sb [83, 86] g g' ∧ (∀ j, j ≠ 5 → j ≠ 7 → j ≠ 14 → j ≠ 27 → g' 83 j = g 83 j) ∧ (g' 83 5 = 0 ∧ g' 83 7 = 0 ∧ g' 83 14 = 0 ∧ g' 83 27 = 0) ∧ ∀ j, j < 51 → g' 86 j = dawnT 0 j := by
  obtain ⟨g1, e1, s1, h1⟩ := M_dawn (p := p) (q := q) (w := w) (v := v) (ds := ds) (f := 0) (Or.inl rfl) 51 FU 0 g (FU_lt (by omega)) (by omega) (fun j hj => absurd hj (by omega))
  have e1 : f_X12_dawn_2 FU (g, RF p q w v ds) 83 0 0 = _ := e1
  obtain ⟨g2, hg2⟩ : ∃ g2, g2 = uc g1 83 (upd (upd (upd (upd (g1 83) 14 0) 27 0) 5 0) 7 0) := ⟨_, rfl⟩
  refine ⟨g2, ?_, ?_, fun j h5 h7 h14 h27 => ?_, ⟨?_, ?_, ?_, ?_⟩, fun j hj => ?_⟩
  · unfold layE f_X12_dawn
    revert e1
    generalize f_X12_dawn_2 FU = lf
    intro e1
    rw [gd_t (show kd 83 = 12 from rfl), e1, bd_w, lt_w, lt_w, lt_w, lt_w]
    simp only [uc_s, uc_uc]
    rw [← hg2]
    have e84 : g2 84 0 = g 84 0 := by rw [hg2, uc_n (by decide), s1 84 (by decide)]
    simp only [r_83_1, r_83_2, r_83_3, r_83_4, r_83_6, r_83_8, r_83_11, r_83_13, r_83_15, r_83_19, r_83_20, r_83_21, r_83_22, r_83_24, r_83_25, r_83_26, r_83_28, r_83_29, k_83, n_83, k_84, n_84, k_85, n_85, k_86, n_86, k_87, n_87, k_88, n_88, k_89, n_89, k_90, n_90, k_91, n_91, k_92, n_92, k_93, n_93, k_94, n_94, k_95, n_95, k_96, n_96, k_97, n_97, k_98, n_98, k_99, n_99, k_100, n_100, k_101, n_101, ci_0, ci_1, ci_2, ci_3, ci_4, ii_0, ii_1, ii_2, ii_3, ii_4, id_0, id_1, id_2, gd, if_true, reduceIte, e84]
  · rw [hg2]; exact (s1.mono (by decide)).uc (by decide)
  · rw [hg2, uc_s, upd_n h7, upd_n h5, upd_n h27, upd_n h14, s1 83 (by decide)]
  · rw [hg2, uc_s, upd_n (by decide), upd_s]
  · rw [hg2, uc_s, upd_s]
  · rw [hg2, uc_s, upd_n (by decide), upd_n (by decide), upd_n (by decide), upd_s]
  · rw [hg2, uc_s, upd_n (by decide), upd_n (by decide), upd_s]
  · rw [hg2, uc_n (by decide)]; exact h1 j hj
end T
theorem S_lay : Sp0 Inv f_X11_lay f_X12_lay := by
  rintro h ⟨g, p, q, w, v, ds, n, np, kind, rfl, hV⟩
  obtain ⟨m, t1, t2, t3, t4⟩ := hV.2.2.2.2.2.2.2.2.2.2
  obtain ⟨c, hX, hM⟩ := tx_of t1 t2 t3 t4
  have hq := hV.q
  have hp := hV.p
  have hpq := hV.1
  obtain ⟨kq, -⟩ := Pk hq
  obtain ⟨kp, -⟩ := Pk hp
  obtain ⟨g1, e1, s1, h1, r1⟩ := X_into (p := p) (q := q) (w := w) (v := v) (ds := ds) hq hX
  have e83 : g1 83 = g 83 := s1 83 (by simp; omega)
  have hTM : ∀ G : Nat → Nat → Int32, G 83 = g 83 → G 89 = g 89 → TM (th G) c m := fun G h1 h2 => ⟨by rw [th_83 (by decide), h1]; exact t3, t1, by rw [th_n (by decide), h2]; exact hM.2.2⟩
  by_cases hr : ∃ M', rdl c m = Sum.inr M' ∧ g1 q 1 ≠ 0
  · obtain ⟨M', hM', hn0⟩ := hr
    obtain ⟨R1, on', n', np', kind', hPW, -⟩ := r1 M' hM'
    have hnp' : 1 ≤ np' := by
      rcases Nat.eq_zero_or_pos np' with z | z
      · exfalso
        apply hn0
        rw [R1.1 1 (by decide), hPW.2.2.1, z]
        rfl
      · exact z
    have hrs : rsv (rdl c m) = -4 := by rw [hM']; rfl
    -- the class goes on
    obtain ⟨g2, e2, s2, d2⟩ := X_begin (p := q) (q := p) (w := w) (v := v) (ds := ds) (f := 0) (Or.inl rfl) g1
    obtain ⟨g3, hg3⟩ : ∃ g3, g3 = uc (uc (uc (uc g2 16 (upd (g2 16) 0 0)) 42 (upd (g2 42) 0 0)) 50 (upd (g2 50) 0 0)) 53 (upd (g2 53) 0 0) := ⟨_, rfl⟩
    have s3 : Sb [16, 42, 50, 53] g2 g3 := by rw [hg3]; exact (((Sb.rf.uc (by decide)).uc (by decide)).uc (by decide)).uc (by decide)
    have s13 : Sb [13, 14, 15, 16, 42, 50, 53] g1 g3 := Sb.tr (s2.mono (by decide)) (s3.mono (by decide))
    have eq : ∀ k, k < 4 → g3 (q + k) = g1 (q + k) := fun k hk => s13 _ (by simp; omega)
    have R3 : PRg g3 q M' := by
      unfold PRg
      rw [eq 1 (by decide), eq 2 (by decide), eq 3 (by decide), show g3 q = g1 q from eq 0 (by decide)]
      exact R1
    obtain ⟨g4, e4, s4, x4⟩ := X_forget (p := q) (q := p) (w := w) (v := v) (ds := ds) hq hPW R3 (fun x x1 x2 => by
      rw [s13 74 (by decide), s1 74 (by simp; omega)]
      exact hV.sx.2.2.2 x x1 x2)
    have s14 : Sb [13, 14, 15, 16, 42, 50, 53, 62, 67, 69] g1 g4 := Sb.tr (s13.mono (by decide)) (s4.mono (by decide))
    have eq4 : ∀ k, k < 4 → g4 (q + k) = g1 (q + k) := fun k hk => s14 _ (by simp; omega)
    have R4 : PRg g4 q M' := by
      unfold PRg
      rw [eq4 1 (by decide), eq4 2 (by decide), eq4 3 (by decide), show g4 q = g1 q from eq4 0 (by decide)]
      exact R1
    have q0 : g4 q 0 = I n' := by rw [R4.1 0 (by decide)]; exact hPW.1
    have X1 : f_X11_lay (g, RF p q w v ds) 1 = some (I n', (g4, RF q p w v ds)) := by
      unfold f_X11_lay
      revert e1 e2 e4
      generalize f_X8_readInto = rf
      generalize f_X2_begin = bf
      generalize f_X5_forget = ff
      intro e1 e2 e4
      rw [gd_t (show kd 1 = 11 from rfl)]
      simp only [r_1_0, r_1_1, r_1_2, r_1_3, r_1_4, r_1_5, r_1_6, r_1_7, r_1_8, r_1_9, r_1_10, r_1_11, k_1, n_1, k_2, kq, gd, if_true, reduceIte]
      rw [e1, bd_w, if_pos hrs]
      simp only [r_1_0, r_1_1, r_1_2, r_1_3, r_1_4, r_1_5, r_1_6, r_1_7, r_1_8, r_1_9, r_1_10, r_1_11, k_1, n_1, kq, kp, if_true, reduceIte]
      rw [if_neg hn0, lt_sp, lt_sq]
      simp only [r_1_0, r_1_1, r_1_2, r_1_3, r_1_4, r_1_5, r_1_6, r_1_7, r_1_8, r_1_9, r_1_10, r_1_11, k_1, n_1, k_13, if_true, reduceIte]
      rw [e2, bd_w]
      simp only [r_1_0, r_1_1, r_1_2, r_1_3, r_1_4, r_1_5, r_1_6, r_1_7, r_1_8, r_1_9, r_1_10, r_1_11, k_1, n_1, k_16, if_true, reduceIte]
      rw [lt_w]
      simp only [r_1_0, r_1_1, r_1_2, r_1_3, r_1_4, r_1_5, r_1_6, r_1_7, r_1_8, r_1_9, r_1_10, r_1_11, k_1, n_1, k_42, if_true, reduceIte]
      rw [lt_w]
      simp only [r_1_0, r_1_1, r_1_2, r_1_3, r_1_4, r_1_5, r_1_6, r_1_7, r_1_8, r_1_9, r_1_10, r_1_11, k_1, n_1, k_50, if_true, reduceIte]
      rw [lt_w]
      simp only [r_1_0, r_1_1, r_1_2, r_1_3, r_1_4, r_1_5, r_1_6, r_1_7, r_1_8, r_1_9, r_1_10, r_1_11, k_1, n_1, k_53, if_true, reduceIte]
      rw [lt_w, uc_n (show 42 ≠ 16 by decide), uc_n (show 50 ≠ 42 by decide), uc_n (show 50 ≠ 16 by decide), uc_n (show 53 ≠ 50 by decide), uc_n (show 53 ≠ 42 by decide), uc_n (show 53 ≠ 16 by decide), ← hg3]
      simp only [r_1_0, r_1_1, r_1_2, r_1_3, r_1_4, r_1_5, r_1_6, r_1_7, r_1_8, r_1_9, r_1_10, r_1_11, k_1, n_1, k_61, kq, if_true, reduceIte]
      rw [e4, bd_w]
      simp only [r_1_0, r_1_1, r_1_2, r_1_3, r_1_4, r_1_5, r_1_6, r_1_7, r_1_8, r_1_9, r_1_10, r_1_11, k_1, n_1, kq, if_true, reduceIte, q0]
    -- the reference
    have e483 : g4 83 = g 83 := by rw [s14 83 (by decide)]; exact e83
    obtain ⟨g5, e5, m5, f5⟩ := M_rdA (p := q) (q := p) (w := w) (v := v) (ds := ds) (hTM g4 e483 (by rw [s14 89 (by decide), s1 89 (by simp; omega)]))
    have F5 := f5 M' hM'
    obtain ⟨g6, e6, s6, f6⟩ := M_ly28 (p := q) (q := p) (w := w) (v := v) (ds := ds) 59 FU 0 g5 (FU_lt (by omega)) (by omega) (fun j hj => absurd hj (by omega))
    have e6 : f_X12_lay_28 FU (g5, RF q p w v ds) 83 0 = _ := e6
    obtain ⟨g7, e7, s7, h7, z7, d7⟩ := M_layE (p := q) (q := p) (w := w) (v := v) (ds := ds) (g := g6)
    have f84 : ∀ j, j < 59 → g7 84 j = M' j := fun j hj => by rw [s7 84 (by decide), f6 j hj]; exact F5 j hj
    have M1 : f_X12_lay (g4, RF q p w v ds) 83 = some (I n', (g7, RF q p w v ds)) := by
      have h51 : ¬ g5 85 1 = 0 := by
        rw [F5 1 (by decide), ← R1.1 1 (by decide)]
        exact hn0
      have e67 : f_X12_lay_28 FU (g5, RF q p w v ds) 83 0 = some (I n', (g7, RF q p w v ds)) := by
        rw [e6, e7, f6 0 (by decide), F5 0 (by decide), hPW.1]
      unfold f_X12_lay
      revert e5 e67
      generalize f_X12_readAll = rf
      generalize f_X12_lay_28 FU = lf
      intro e5 e67
      rw [gd_t (show kd 83 = 12 from rfl), th_lt, e5, bd_w, if_pos hrs]
      simp only [r_83_1, r_83_2, r_83_3, r_83_4, r_83_6, r_83_8, r_83_11, r_83_13, r_83_15, r_83_19, r_83_20, r_83_21, r_83_22, r_83_24, r_83_25, r_83_26, r_83_28, r_83_29, k_83, n_83, k_84, n_84, k_85, n_85, k_86, n_86, k_87, n_87, k_88, n_88, k_89, n_89, k_90, n_90, k_91, n_91, k_92, n_92, k_93, n_93, k_94, n_94, k_95, n_95, k_96, n_96, k_97, n_97, k_98, n_98, k_99, n_99, k_100, n_100, k_101, n_101, ci_0, ci_1, ci_2, ci_3, ci_4, ii_0, ii_1, ii_2, ii_3, ii_4, id_0, id_1, id_2, gd, if_true, reduceIte]
      rw [if_neg h51]
      exact e67
    have s47 : Sb [83, 84, 85, 86, 90] g4 g7 := Sb.tr (Sb.tr (Sb.tr (by unfold th; exact Sb.rf.uc (by decide)) (m5.1.mono (by decide))) (s6.mono (by decide))) (s7.mono (by decide))
    have f83 : ∀ j, j ≠ 0 → j ≠ 10 → j ≠ 5 → j ≠ 7 → j ≠ 14 → j ≠ 27 → g7 83 j = g 83 j := fun j h0 h10 h5 h77 h14 h27 => by rw [h7 j h5 h77 h14 h27, s6 83 (by decide), m5.2 j h10, th_83 h0, e483]
    have P7 : PW (g7 84) n' np' kind' := hPW.cg f84
    have o4 : ∀ x, x ∉ [83, 84, 85, 86, 90] → g7 x = g4 x := s47
    have oq : ∀ k, k < 4 → g7 (q + k) = g4 (q + k) := fun k hk => s47 _ (by simp; omega)
    refine ⟨I n', (g4, RF q p w v ds), (g7, RF q p w v ds), X1, M1, g7, q, p, w, v, ds, n', np', kind', rfl, by omega, hV.2.1, hnp', ⟨hq, P7, ?_, ?_, ?_, ?_⟩, ?_, hV.2.2.2.2.2.1, ⟨0, by omega, ?_, z7.1, fun k hk => absurd hk (by omega)⟩, ⟨0, by omega, ?_, z7.2.1, fun k hk => absurd hk (by omega)⟩, ⟨0, by omega, ?_, z7.2.2.1, fun k hk => absurd hk (by omega)⟩, ⟨0, by omega, ?_, z7.2.2.2, fun k hk => absurd hk (by omega)⟩, ⟨m, t1, ?_, ?_, fun k hk => ?_⟩⟩
    · exact (dawnT_w (Or.inl rfl) n' np').cg d7
    · have := R4.cg f84
      unfold PRg at this
      rw [oq 1 (by decide), oq 2 (by decide), oq 3 (by decide), show g7 q = g4 q from oq 0 (by decide)]
      exact this
    · rw [o4 13 (by decide), o4 14 (by decide), o4 15 (by decide), s4 13 (by decide), s4 14 (by decide), s4 15 (by decide), s3 13 (by decide), s3 14 (by decide), s3 15 (by decide)]
      exact d2.cg ⟨rfl, rfl, rfl⟩ (fun _ _ => rfl) (fun _ _ => rfl) d7
    · have hw : ∀ x u, wC (g7 84) n' x u = wC M' n' x u := fun x u => by
        unfold wC wM
        by_cases hx : 1 ≤ x ∧ x ≤ 24
        · rw [if_pos hx, if_pos hx, f84 (4 + x) (by omega), f84 3 (by decide), f84 4 (by decide)]
        · rw [if_neg hx, if_neg hx]
      have : SX (g7 84) n' g4 := by
        unfold SX at x4 ⊢
        rw [show wC (g7 84) n' = wC M' n' from funext (fun x => funext (fun u => hw x u))]
        exact x4
      exact this.same (fun a h1 h2 => s47 a (by simp; omega))
    · rw [f83 12 (by decide) (by decide) (by decide) (by decide) (by decide) (by decide)]; exact hV.2.2.2.2.1
    · rw [o4 16 (by decide), s4 16 (by decide), hg3, uc_n (by decide), uc_n (by decide), uc_n (by decide), uc_s, upd_s]; rfl
    · rw [o4 42 (by decide), s4 42 (by decide), hg3, uc_n (by decide), uc_n (by decide), uc_s, upd_s]; rfl
    · rw [o4 50 (by decide), s4 50 (by decide), hg3, uc_n (by decide), uc_s, upd_s]; rfl
    · rw [o4 53 (by decide), s4 53 (by decide), hg3, uc_s, upd_s]; rfl
    · rw [o4 2 (by decide), s14 2 (by decide), h1 0 (by decide) (by decide)]; exact t2
    · rw [f83 9 (by decide) (by decide) (by decide) (by decide) (by decide) (by decide)]; exact t3
    · rw [o4 3 (by decide), o4 89 (by decide), s14 3 (by decide), s14 89 (by decide), s1 3 (by simp; omega), s1 89 (by simp; omega)]; exact t4 k hk
  · -- refused
    obtain ⟨g5, e5, m5, f5⟩ := M_rdA (p := p) (q := q) (w := w) (v := v) (ds := ds) (hTM g1 e83 (s1 89 (by simp; omega)))
    refine ⟨-2, (g1, RF p q w v ds), (g5, RF p q w v ds), ?_, ?_, g5, p, q, w, v, ds, n, np, kind, rfl, hV.rd ?_ ?_ ?_⟩
    · unfold f_X11_lay
      revert e1
      generalize f_X8_readInto = rf
      generalize f_X2_begin = bf
      generalize f_X5_forget = ff
      intro e1
      rw [gd_t (show kd 1 = 11 from rfl)]
      simp only [r_1_0, r_1_1, r_1_2, r_1_3, r_1_4, r_1_5, r_1_6, r_1_7, r_1_8, r_1_9, r_1_10, r_1_11, k_1, n_1, k_2, kq, gd, if_true, reduceIte]
      rw [e1, bd_w]
      cases hc : rdl c m with
      | inl a =>
        have ha : a < 1000 := by
          have : ∀ r a on M x, prs c m r a on M = Sum.inl x → x < m := by
            intro r
            induction r with
            | zero => intro a on M x hz; cases hz
            | succ r ih =>
              intro a on M x hz
              by_cases hla : m ≤ a
              · rw [show prs c m (r + 1) a on M = Sum.inr M from if_pos hla] at hz; cases hz
              · cases hi : itm c m a on M with
                | none => simp only [prs, if_neg hla, hi] at hz; have := Sum.inl.inj hz; omega
                | some y => simp only [prs, if_neg hla, hi] at hz; exact ih _ _ _ _ hz
          have := this _ _ _ _ _ hc
          omega
        rw [if_neg (show ¬ rsv (Sum.inl a) = (-4 : Int32) from fun z => I_ne4 ha z)]
      | inr M' =>
        have hz : g1 q 1 = 0 := Classical.byContradiction (fun z => hr ⟨M', hc, z⟩)
        rw [if_pos (show rsv (Sum.inr M') = (-4 : Int32) from rfl)]
        simp only [r_1_0, r_1_1, r_1_2, r_1_3, r_1_4, r_1_5, r_1_6, r_1_7, r_1_8, r_1_9, r_1_10, r_1_11, k_1, n_1, kq, if_true, reduceIte]
        rw [if_pos hz]
    · unfold f_X12_lay
      revert e5
      generalize f_X12_readAll = rf
      generalize f_X12_lay_28 FU = lf
      intro e5
      rw [gd_t (show kd 83 = 12 from rfl), th_lt, e5, bd_w]
      cases hc : rdl c m with
      | inl a =>
        have ha : a < 1000 := by
          have : ∀ r a on M x, prs c m r a on M = Sum.inl x → x < m := by
            intro r
            induction r with
            | zero => intro a on M x hz; cases hz
            | succ r ih =>
              intro a on M x hz
              by_cases hla : m ≤ a
              · rw [show prs c m (r + 1) a on M = Sum.inr M from if_pos hla] at hz; cases hz
              · cases hi : itm c m a on M with
                | none => simp only [prs, if_neg hla, hi] at hz; have := Sum.inl.inj hz; omega
                | some y => simp only [prs, if_neg hla, hi] at hz; exact ih _ _ _ _ hz
          have := this _ _ _ _ _ hc
          omega
        rw [if_neg (show ¬ rsv (Sum.inl a) = (-4 : Int32) from fun z => I_ne4 ha z)]
      | inr M' =>
        have hz : g1 q 1 = 0 := Classical.byContradiction (fun z => hr ⟨M', hc, z⟩)
        have h51 : g5 85 1 = 0 := by rw [f5 M' hc 1 (by decide), ← (r1 M' hc).1.1 1 (by decide)]; exact hz
        rw [if_pos (show rsv (Sum.inr M') = (-4 : Int32) from rfl)]
        simp only [r_83_1, r_83_2, r_83_3, r_83_4, r_83_6, r_83_8, r_83_11, r_83_13, r_83_15, r_83_19, r_83_20, r_83_21, r_83_22, r_83_24, r_83_25, r_83_26, r_83_28, r_83_29, k_83, n_83, k_84, n_84, k_85, n_85, k_86, n_86, k_87, n_87, k_88, n_88, k_89, n_89, k_90, n_90, k_91, n_91, k_92, n_92, k_93, n_93, k_94, n_94, k_95, n_95, k_96, n_96, k_97, n_97, k_98, n_98, k_99, n_99, k_100, n_100, k_101, n_101, ci_0, ci_1, ci_2, ci_3, ci_4, ii_0, ii_1, ii_2, ii_3, ii_4, id_0, id_1, id_2, gd, if_true, reduceIte]
        rw [if_pos h51]
    · exact Sb.tr (Sb.tr (s1.mono (by simp)) (by unfold th; exact Sb.rf.uc (by simp))) (m5.1.mono (by simp))
    · intro j h3 h4; rw [m5.1 2 (by decide), th_n (by decide)]; exact h1 j h3 h4
    · intro j h0 h10; rw [m5.2 j h10, th_83 h0, e83]
