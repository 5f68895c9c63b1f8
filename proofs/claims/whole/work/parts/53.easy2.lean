/-! number, person, count, enter, twice -/
section T
variable {p q w v : Nat} {ds : Nat → Nat} {g : Nat → Nat → Int32}
theorem X_holder {a m : Nat} {F : Nat → Int32} (hk : kd a = 13) (hl : ln a = m) (hm : m ≤ 8) (hb : ∀ i, i < m → ∀ j, j < 32 → bt (g a i) j = (decide (j < 24) && decide (F j = I i))) {x : Nat} (hx : 1 ≤ x ∧ x ≤ 24) (hF : F (x - 1) = I (-4) ∨ ∃ i : Nat, i < m ∧ F (x - 1) = I i) :
    f_X11_holderOf (g, RF p q w v ds) (I x) a = some (F (x - 1), (g, RF p q w v ds)) := by
  have lp : ∀ (r fu k : Nat), r < fu → k + r = m → (∀ i, i < k → ¬ F (x - 1) = I i) → f_X11_holderOf_2 fu (g, RF p q w v ds) (I x) a (I (k : Int)) = some (F (x - 1), (g, RF p q w v ds)) := by
    intro r
    induction r with
    | zero =>
      intro fu k hf hk' hn
      obtain ⟨fu, rfl⟩ : ∃ k, fu = k + 1 := ⟨fu - 1, by omega⟩
      have c1 : I (m : Int) ≤ I (k : Int) := by rw [I_len (by omega) (by omega)]; omega
      simp only [f_X11_holderOf_2, hl, I_nI, if_pos c1]
      rcases hF with e | ⟨i, h1, h2⟩
      · rw [e]; rfl
      · exact absurd h2 (hn i (by omega))
    | succ r ih =>
      intro fu k hf hk' hn
      obtain ⟨fu, rfl⟩ : ∃ k, fu = k + 1 := ⟨fu - 1, by omega⟩
      have c1 : ¬ I (m : Int) ≤ I (k : Int) := by rw [I_len (by omega) (by omega)]; omega
      have hbk := hb k (by omega) (x - 1) (by omega)
      rw [decide_eq_true (show x - 1 < 24 by omega), Bool.true_and] at hbk
      simp only [f_X11_holderOf_2, hl, I_nI, if_neg c1, I_in (show k < m by omega) (show m < 1000000 by omega), I_ix (show k < 1000000 by omega), I_p hx.1, X_hasBit _ _ (show x - 1 < 32 by omega), hbk, bd_s, gd, if_true, reduceIte, I_s]
      by_cases e : F (x - 1) = I k
      · rw [decide_eq_true e, if_neg (by decide), e]
      · rw [decide_eq_false e, if_pos (by decide)]
        exact ih fu (k + 1) (by omega) (by omega) (fun i hi => by
          by_cases ei : i = k
          · subst ei; exact e
          · exact hn i (by omega))
  unfold f_X11_holderOf
  simp only [hk, gd, if_true, reduceIte]
  exact lp m FU 0 (FU_lt (by omega)) (by omega) (fun i hi => absurd hi (by omega))
end T
theorem num_c {a : Int32} {n : Nat} (h : 1 ≤ a.toInt ∧ a.toInt ≤ n) : ∃ x : Nat, (1 ≤ x ∧ x ≤ n) ∧ a = I x := by
  rcases arg_c a n with ⟨k, h1, h2⟩ | ho
  · refine ⟨k, ⟨?_, h1⟩, h2⟩
    have b := I_bd a
    have := I_of a
    rw [h2] at h
    rcases Nat.eq_zero_or_pos k with e | e
    · subst e
      have : (I ((0 : Nat) : Int)).toInt = 0 := by decide
      omega
    · exact e
  · omega
theorem per_c {a : Int32} {n : Nat} (h : 0 ≤ a.toInt ∧ a.toInt < n) : ∃ x : Nat, x < n ∧ a = I x := by
  refine ⟨a.toInt.toNat, by omega, ?_⟩
  have e : ((a.toInt.toNat : Nat) : Int) = a.toInt := by omega
  rw [e]
  exact I_of a
theorem I_tN {k : Nat} (h : k < 1000000) : (I (k : Int)).toInt = k := I_toInt (by omega) (by omega)
theorem S_number : Sp2 Inv f_X11_number f_X12_number := by
  rintro h a b ⟨g, p, q, w, v, ds, n, np, kind, rfl, hV⟩
  obtain ⟨kp, k1, k2, k3, l1, l2, l3⟩ := Pk hV.p
  obtain ⟨r5, r6, r7⟩ := Pr hV.p q w v ds
  have hn := hV.pw.2.1
  have e0 : g p 0 = I n := by rw [hV.pr.1 0 (by decide)]; exact hV.pw.1
  have mN : f_X12_noNumber (th g, RF p q w v ds) 83 a = _ := M_noNumber (by rw [th_n (by decide)]; exact hV.pw.1) hn.2 a
  have xN := X_isNumber (c := g p) (M := g p) (p := p) (q := q) (w := w) (v := v) (ds := ds) kp e0 hn.2 a
  by_cases hc : 1 ≤ a.toInt ∧ a.toInt ≤ n
  · rw [if_pos hc] at mN xN
    obtain ⟨x, hx, rfl⟩ := num_c hc
    have hx24 : 1 ≤ x ∧ x ≤ 24 := by omega
    have z1 : ¬ (1 : Int32) = 0 := by decide
    have X0 : f_X11_number (g, RF p q w v ds) 1 (I x) b = (if b = (0 : Int32) then some (g (p + 1) x, (g, RF p q w v ds)) else if b = (1 : Int32) then some (g 84 (28 + x), (g, RF p q w v ds)) else if b = (2 : Int32) then some (g 86 (2 + x), (g, RF p q w v ds)) else if b = (3 : Int32) then some (g 86 (26 + x), (g, RF p q w v ds)) else some (-1, (g, RF p q w v ds))) := by
      have o1 := X_holder (p := p) (q := q) (w := w) (v := v) (ds := ds) (g := g) (F := fun j => g 84 (29 + j)) k2 l2 (by decide) hV.pr.2.2.1 hx24 (by
        rcases hV.pw.2.2.2.2.2.2.2.2.2.1 (x - 1) (by omega) with e | ⟨-, i, hi, e⟩
        · exact Or.inl e
        · exact Or.inr ⟨i, by have := hV.pw.2.2.2.1; omega, e⟩)
      have o2 := X_holder (p := p) (q := q) (w := w) (v := v) (ds := ds) (g := g) (a := 14) (m := 8) (F := fun j => g 86 (3 + j)) rfl rfl (by decide) hV.dr.2.1 hx24 (by
        rcases hV.dw.2.2.2.1 (x - 1) (by omega) with e | ⟨-, i, hi, e⟩
        · exact Or.inl e
        · exact Or.inr ⟨i, hi, e⟩)
      have o3 := X_holder (p := p) (q := q) (w := w) (v := v) (ds := ds) (g := g) (a := 15) (m := 6) (F := fun j => g 86 (27 + j)) rfl rfl (by decide) hV.dr.2.2 hx24 (by
        rcases hV.dw.2.2.2.2 (x - 1) (by omega) with e | ⟨-, i, hi, e⟩
        · exact Or.inl e
        · exact Or.inr ⟨i, hi, e⟩)
      rw [show 29 + (x - 1) = 28 + x by omega] at o1
      rw [show 3 + (x - 1) = 2 + x by omega] at o2
      rw [show 27 + (x - 1) = 26 + x by omega] at o3
      unfold f_X11_number
      simp only [r_1_0, r_1_1, r_1_2, r_1_3, r_1_4, r_1_5, r_1_6, r_1_7, r_1_8, r_1_9, r_1_10, r_1_11, k_1, n_1, r_13_0, r_13_1, k_13, n_13, k_14, n_14, k_15, n_15, kp, gd, lt, bd_s, if_true, if_false, reduceIte, si_uc, uc_s, uc_n, upd_s, upd_n, Nat.reduceEqDiff, ne_eq, not_false_eq_true, not_true_eq_false, xN, z1, r5, r6, k1, k2, l1, I_in (show x < 25 by omega) (show 25 < 1000000 by decide), I_ix (show x < 1000000 by omega), o1, o2, o3]
    have M0 : f_X12_number (g, RF p q w v ds) 83 (I x) b = (if b = (0 : Int32) then some (g 84 (4 + x), (th g, RF p q w v ds)) else if b = (1 : Int32) then some (g 84 (28 + x), (th g, RF p q w v ds)) else if b = (2 : Int32) then some (g 86 (2 + x), (th g, RF p q w v ds)) else if b = (3 : Int32) then some (g 86 (26 + x), (th g, RF p q w v ds)) else some (-1, (th g, RF p q w v ds))) := by
      have s4 : (4 : Int32) + I (x : Int) = I ((4 + x : Nat) : Int) := by show I ((4 : Nat) : Int) + _ = _; rw [I_k]
      have s28 : (28 : Int32) + I (x : Int) = I ((28 + x : Nat) : Int) := by show I ((28 : Nat) : Int) + _ = _; rw [I_k]
      have s2 : (2 : Int32) + I (x : Int) = I ((2 + x : Nat) : Int) := by show I ((2 : Nat) : Int) + _ = _; rw [I_k]
      have s26 : (26 : Int32) + I (x : Int) = I ((26 + x : Nat) : Int) := by show I ((26 : Nat) : Int) + _ = _; rw [I_k]
      unfold f_X12_number
      rw [gd_t (show kd 83 = 12 from rfl), th_lt]
      simp only [mN, bd_s, if_true, reduceIte, r_83_1, r_83_2, r_83_3, r_83_4, r_83_6, r_83_8, r_83_11, r_83_13, r_83_15, r_83_19, r_83_20, r_83_21, r_83_22, r_83_24, r_83_25, r_83_26, r_83_28, r_83_29, k_83, n_83, k_84, n_84, k_85, n_85, k_86, n_86, k_87, n_87, k_88, n_88, k_89, n_89, k_90, n_90, k_91, n_91, k_92, n_92, k_93, n_93, k_94, n_94, k_95, n_95, k_96, n_96, k_97, n_97, k_98, n_98, k_99, n_99, k_100, n_100, k_101, n_101, gd, s4, s28, s2, s26, I_in (show 4 + x < 59 by omega) (show 59 < 1000000 by decide), I_ix (show 4 + x < 1000000 by omega), I_in (show 28 + x < 59 by omega) (show 59 < 1000000 by decide), I_ix (show 28 + x < 1000000 by omega), I_in (show 2 + x < 51 by omega) (show 51 < 1000000 by decide), I_ix (show 2 + x < 1000000 by omega), I_in (show 26 + x < 51 by omega) (show 51 < 1000000 by decide), I_ix (show 26 + x < 1000000 by omega), th_n (show 84 ≠ 83 by decide), th_n (show 86 ≠ 83 by decide)]
    have e4 : g (p + 1) x = g 84 (4 + x) := by
      have := hV.pr.2.1 (x - 1) (by omega)
      rwa [show x - 1 + 1 = x by omega, show 5 + (x - 1) = 4 + x by omega] at this
    rw [e4] at X0
    unfold Sp2 at *
    by_cases c0 : b = (0 : Int32)
    · rw [if_pos c0] at X0 M0; exact ⟨_, _, _, X0, M0, hV.ask (th_mk g)⟩
    · rw [if_neg c0] at X0 M0
      by_cases c1 : b = (1 : Int32)
      · rw [if_pos c1] at X0 M0; exact ⟨_, _, _, X0, M0, hV.ask (th_mk g)⟩
      · rw [if_neg c1] at X0 M0
        by_cases c2 : b = (2 : Int32)
        · rw [if_pos c2] at X0 M0; exact ⟨_, _, _, X0, M0, hV.ask (th_mk g)⟩
        · rw [if_neg c2] at X0 M0
          by_cases c3 : b = (3 : Int32)
          · rw [if_pos c3] at X0 M0; exact ⟨_, _, _, X0, M0, hV.ask (th_mk g)⟩
          · rw [if_neg c3] at X0 M0; exact ⟨_, _, _, X0, M0, hV.ask (th_mk g)⟩
  · rw [if_neg hc] at mN xN
    refine ⟨-1, (g, RF p q w v ds), (th g, RF p q w v ds), ?_, ?_, hV.ask (th_mk g)⟩
    · unfold f_X11_number
      simp only [r_1_0, r_1_1, r_1_2, r_1_3, r_1_4, r_1_5, r_1_6, r_1_7, r_1_8, r_1_9, r_1_10, r_1_11, k_1, n_1, kp, gd, lt, bd_s, if_true, if_false, reduceIte, si_uc, uc_s, uc_n, upd_s, upd_n, Nat.reduceEqDiff, ne_eq, not_false_eq_true, not_true_eq_false, xN]
    · unfold f_X12_number
      rw [gd_t (show kd 83 = 12 from rfl), th_lt]
      simp only [mN, bd_s, if_neg (show ¬ (1 : Int32) = 0 by decide)]
theorem IV.q1 {g g1 g2 : Nat → Nat → Int32} {p q w v : Nat} {ds : Nat → Nat} {n np kind : Nat} (h : IV g p q w v ds n np kind) (hX : XK q g g1) (hS : SX (g 84) n g1) (hM : MK g1 g2) : Inv (g2, RF p q w v ds) := ⟨g2, p, q, w, v, ds, n, np, kind, rfl, h.fin hX hS hM h.w⟩
theorem XK.e84 {q : Nat} {g g' : Nat → Nat → Int32} (h : XK q g g') (hq : q = 5 ∨ q = 9) : g' 84 = g 84 := h.1.at hq (by decide) (by decide)
theorem XK.e86 {q : Nat} {g g' : Nat → Nat → Int32} (h : XK q g g') (hq : q = 5 ∨ q = 9) : g' 86 = g 86 := h.1.at hq (by decide) (by decide)
theorem S_person : Sp2 Inv f_X11_person f_X12_person := by
  rintro h a b ⟨g, p, q, w, v, ds, n, np, kind, rfl, hV⟩
  obtain ⟨kp, k1, k2, k3, l1, l2, l3⟩ := Pk hV.p
  obtain ⟨r5, r6, r7⟩ := Pr hV.p q w v ds
  have hn := hV.pw.2.1
  have hnp := hV.pw.2.2.2.1
  have e0 : g p 1 = I np := by rw [hV.pr.1 1 (by decide)]; exact hV.pw.2.2.1
  have mN : f_X12_noOne (th g, RF p q w v ds) 83 a = _ := M_noOne (by rw [th_n (by decide)]; exact hV.pw.2.2.1) hnp a
  have xN := X_isPerson (p := p) (q := q) (w := w) (v := v) (ds := ds) kp e0 hnp a
  by_cases hc : 0 ≤ a.toInt ∧ a.toInt < np
  · rw [if_pos hc] at mN xN
    obtain ⟨i, hi, rfl⟩ := per_c hc
    have z1 : ¬ (1 : Int32) = 0 := by decide
    obtain ⟨g1, n1, n2, n3, n4, n5, n6⟩ := X_now (p := p) (q := q) (w := w) (v := v) (ds := ds) hV.2.2.2.1
    have em : g1 75 3 ||| g1 77 i = owM n (g 84) (g 86) 0 i := (n4.2.2.2.1 i (by omega)).1
    have X0 : f_X11_person (g, RF p q w v ds) 1 (I i) b = (if b = (0 : Int32) then some (g 84 (53 + i), (g, RF p q w v ds)) else if b = (1 : Int32) then some ((g 86 2 >>> (I i &&& 31)) &&& 1, (g, RF p q w v ds)) else if b = (2 : Int32) then some (myM n (g 84) (g 86) i, (g1, RF p q w v ds)) else some (-1, (g, RF p q w v ds))) := by
      have ea : g (p + 3) i = g 84 (53 + i) := hV.pr.2.2.2 i (by omega)
      have eb : g 13 2 = g 86 2 := hV.dr.1.1
      unfold f_X11_person
      simp only [r_1_0, r_1_1, r_1_2, r_1_3, r_1_4, r_1_5, r_1_6, r_1_7, r_1_8, r_1_9, r_1_10, r_1_11, k_1, n_1, r_13_0, r_13_1, k_13, n_13, k_14, n_14, k_15, n_15, k_75, kp, gd, lt, bd_s, if_true, if_false, reduceIte, si_uc, uc_s, uc_n, upd_s, upd_n, Nat.reduceEqDiff, ne_eq, not_false_eq_true, not_true_eq_false, xN, z1, r7, k3, l3, I_in (show i < 6 by omega) (show 6 < 1000000 by decide), I_ix (show i < 1000000 by omega), ea, eb, n1, X_tk n3, X_mayUse (show i < 6 by omega), em]
      rfl
    have M0 : ∀ G : Nat → Nat → Int32, G 84 = g 84 → G 86 = g 86 → G 83 = g 83 → f_X12_person (G, RF p q w v ds) 83 (I i) b = (if b = (0 : Int32) then some (g 84 (53 + i), (th G, RF p q w v ds)) else if b = (1 : Int32) then some ((g 86 2 >>> (I i &&& 31)) &&& 1, (th G, RF p q w v ds)) else if b = (2 : Int32) then some (myM n (g 84) (g 86) i, (th G, RF p q w v ds)) else some (-1, (th G, RF p q w v ds))) := by
      intro G e84 e86 e83
      have mN : f_X12_noOne (th G, RF p q w v ds) 83 (I i) = _ := M_noOne (by rw [th_n (by decide), e84]; exact hV.pw.2.2.1) hnp (I i)
      rw [if_pos hc] at mN
      have s53 : (53 : Int32) + I (i : Int) = I ((53 + i : Nat) : Int) := by show I ((53 : Nat) : Int) + _ = _; rw [I_k]
      have mm := M_mayOf (p := p) (q := q) (w := w) (v := v) (ds := ds) (g := th G) (n := n) (fr := 0) (i := i) hn.2 (by decide) (by rw [th_n (by decide), e84]; exact hV.pw.1) (by rw [th_83 (by decide), e83]; exact hV.2.2.2.2.1)
      rw [th_n (show 84 ≠ 83 by decide), th_n (show 86 ≠ 83 by decide), e84, e86] at mm
      unfold f_X12_person
      rw [gd_t (show kd 83 = 12 from rfl), th_lt]
      simp only [mN, bd_s, if_true, reduceIte, r_83_1, r_83_2, r_83_3, r_83_4, r_83_6, r_83_8, r_83_11, r_83_13, r_83_15, r_83_19, r_83_20, r_83_21, r_83_22, r_83_24, r_83_25, r_83_26, r_83_28, r_83_29, k_83, n_83, k_84, n_84, k_85, n_85, k_86, n_86, k_87, n_87, k_88, n_88, k_89, n_89, k_90, n_90, k_91, n_91, k_92, n_92, k_93, n_93, k_94, n_94, k_95, n_95, k_96, n_96, k_97, n_97, k_98, n_98, k_99, n_99, k_100, n_100, k_101, n_101, gd, ci_0, ci_1, ci_2, ci_3, ci_4, ii_0, ii_1, ii_2, ii_3, ii_4, id_0, id_1, id_2, s53, I_in (show 53 + i < 59 by omega) (show 59 < 1000000 by decide), I_ix (show 53 + i < 1000000 by omega), th_n (show 84 ≠ 83 by decide), th_n (show 86 ≠ 83 by decide), e84, e86, mm]
      rfl
    have M1 := M0 g rfl rfl rfl
    by_cases c0 : b = (0 : Int32)
    · rw [if_pos c0] at X0 M1; exact ⟨_, _, _, X0, M1, hV.ask (th_mk g)⟩
    · rw [if_neg c0] at X0 M1
      by_cases c1 : b = (1 : Int32)
      · rw [if_pos c1] at X0 M1; exact ⟨_, _, _, X0, M1, hV.ask (th_mk g)⟩
      · rw [if_neg c1] at X0 M1
        by_cases c2 : b = (2 : Int32)
        · have hX : XK q g g1 := n2.xk (by decide)
          have M2 := M0 g1 (hX.e84 hV.q) (hX.e86 hV.q) hX.2.2
          rw [if_neg c0, if_neg c1, if_pos c2] at M2
          rw [if_pos c2] at X0
          exact ⟨_, _, _, X0, M2, hV.q1 hX n3.2.2.2.2.2 (th_mk g1)⟩
        · rw [if_neg c2] at X0 M1; exact ⟨_, _, _, X0, M1, hV.ask (th_mk g)⟩
  · rw [if_neg hc] at mN xN
    refine ⟨-1, (g, RF p q w v ds), (th g, RF p q w v ds), ?_, ?_, hV.ask (th_mk g)⟩
    · unfold f_X11_person
      simp only [r_1_0, r_1_1, r_1_2, r_1_3, r_1_4, r_1_5, r_1_6, r_1_7, r_1_8, r_1_9, r_1_10, r_1_11, k_1, n_1, kp, gd, lt, bd_s, if_true, if_false, reduceIte, si_uc, uc_s, uc_n, upd_s, upd_n, Nat.reduceEqDiff, ne_eq, not_false_eq_true, not_true_eq_false, xN]
    · unfold f_X12_person
      rw [gd_t (show kd 83 = 12 from rfl), th_lt]
      simp only [mN, bd_s, if_neg (show ¬ (1 : Int32) = 0 by decide)]
theorem pc_tk {n : Nat} {T : Nat → Int32} (hn : n ≤ 24) : pc 32 (tkM n T) = pc 24 (tkM n T) := LO_24 hn (LO_mk hn _)
theorem ite_som {c : Prop} [Decidable c] (a b : Int32) (h : Hp) : (if c then some (a, h) else some (b, h)) = some (if c then a else b, h) := by split <;> rfl
theorem S_count : Sp1 Inv f_X11_count f_X12_count := by
  rintro h a ⟨g, p, q, w, v, ds, n, np, kind, rfl, hV⟩
  obtain ⟨kp, -⟩ := Pk hV.p
  have hn := hV.pw.2.1
  have hnp := hV.pw.2.2.2.1
  have r0 : g p 0 = g 84 0 := hV.pr.1 0 (by decide)
  have r1 : g p 1 = g 84 1 := hV.pr.1 1 (by decide)
  obtain ⟨d2, d3, d4⟩ := hV.dr.1
  obtain ⟨mP, -, p1, p2, -⟩ := hV.2.2.2.2.2.2.1
  obtain ⟨mK, -, q1, q2, -⟩ := hV.2.2.2.2.2.2.2.1
  obtain ⟨mW, -, w1, w2, -⟩ := hV.2.2.2.2.2.2.2.2.1
  obtain ⟨mB, -, b1', b2, -⟩ := hV.2.2.2.2.2.2.2.2.2.1
  obtain ⟨mT, -, t1', t2, -⟩ := hV.2.2.2.2.2.2.2.2.2.2
  have hf : (if g 86 1 = 0 then some ((0 : Int32), (g, RF p q w v ds)) else some ((1 : Int32), (g, RF p q w v ds))) = some (g 86 1, (g, RF p q w v ds)) := by
    rcases hV.dw.2.2.1 with e | e <;> rw [e] <;> rfl
  have s24 : pc 32 (g 86 2) = pc 24 (g 86 2) := pc_32 (fun i h1 h2 => hV.dw.1 i (by omega) h2)
  refine ⟨if a = (0 : Int32) then g 84 0 else if a = (1 : Int32) then g 84 1 else if a = (2 : Int32) then I (pc 24 (tkM n (g 86)) : Nat) else if a = (3 : Int32) then I (pc 24 (g 86 2) : Nat) else if a = (4 : Int32) then g 86 0 else if a = (5 : Int32) then g 86 1 else if a = (6 : Int32) then I mW else if a = (7 : Int32) then I mB else if a = (8 : Int32) then I mP else if a = (9 : Int32) then I mK else if a = (10 : Int32) then I mT else -1, (g, RF p q w v ds), (th g, RF p q w v ds), ?_, ?_, hV.ask (th_mk g)⟩
  · unfold f_X11_count
    simp only [r_1_0, r_1_1, r_1_2, r_1_3, r_1_4, r_1_5, r_1_6, r_1_7, r_1_8, r_1_9, r_1_10, r_1_11, k_1, n_1, r_13_0, r_13_1, k_13, n_13, k_14, n_14, k_15, n_15, r_2_1, r_2_2, k_2, n_2, k_3, n_3, k_4, n_4, r_50_1, r_50_2, k_50, n_50, k_51, n_51, k_52, n_52, k_53, k_16, k_42, kp, gd, lt, bd_s, if_true, if_false, reduceIte, si_uc, uc_s, uc_n, upd_s, upd_n, Nat.reduceEqDiff, ne_eq, not_false_eq_true, not_true_eq_false, r0, r1, d2, d3, d4, p1, q1, w1, b1', t1', X_tk hV.2.2.2.1, Xbc, hf, pc_tk hn.2, s24]
    simp only [ite_som]
  · have e84 : th g 84 = g 84 := th_n (by decide)
    have e86 : th g 86 = g 86 := th_n (by decide)
    have mt := M_taken (p := p) (q := q) (w := w) (v := v) (ds := ds) (g := th g) hn.2 (by rw [e84]; exact hV.pw.1)
    rw [e86] at mt
    unfold f_X12_count
    rw [gd_t (show kd 83 = 12 from rfl), th_lt]
    simp only [r_83_1, r_83_2, r_83_3, r_83_4, r_83_6, r_83_8, r_83_11, r_83_13, r_83_15, r_83_19, r_83_20, r_83_21, r_83_22, r_83_24, r_83_25, r_83_26, r_83_28, r_83_29, k_83, n_83, k_84, n_84, k_85, n_85, k_86, n_86, k_87, n_87, k_88, n_88, k_89, n_89, k_90, n_90, k_91, n_91, k_92, n_92, k_93, n_93, k_94, n_94, k_95, n_95, k_96, n_96, k_97, n_97, k_98, n_98, k_99, n_99, k_100, n_100, k_101, n_101, gd, ci_0, ci_1, ci_2, ci_3, ci_4, ii_0, ii_1, ii_2, ii_3, ii_4, id_0, id_1, id_2, if_true, reduceIte, e84, e86, mt, bd_s, Mbits, th_83 (show 14 ≠ 0 by decide), th_83 (show 27 ≠ 0 by decide), th_83 (show 5 ≠ 0 by decide), th_83 (show 7 ≠ 0 by decide), th_83 (show 9 ≠ 0 by decide), p2, q2, w2, b2, t2]
    simp only [ite_som]
theorem LO_set {n : Nat} {x : Int32} (hn : n ≤ 24) (h : x &&& (allM n ^^^ (-1)) = 0) : LO n x := fun i h1 h2 => by
  apply Bool.eq_false_iff.mpr
  intro hb
  have := sub_bt h h2 hb
  rw [bt_all hn h2, decide_eq_true_eq] at this
  omega
theorem allM_i {n : Nat} (hn : n ≤ 24) : (allM n).toInt = 2 ^ n - 1 := by
  have : ∀ n : Nat, n < 25 → (allM n).toInt = 2 ^ n - 1 := by decide +kernel
  exact this n (by omega)
theorem tn_int {x : Int32} (h : 0 ≤ x.toInt) : x.toInt = tn x := by
  have e : x.toInt = x.toBitVec.toInt := rfl
  rw [e] at h ⊢
  rw [BitVec.toInt_eq_toNat_cond] at h ⊢
  unfold tn
  split
  · rfl
  · rename_i hc
    rw [if_neg hc] at h
    have := x.toBitVec.isLt
    omega
/-- a set within the numbers, as the reference sees it -/
theorem set_iff {n : Nat} {x : Int32} (h1 : 1 ≤ n) (hn : n ≤ 24) : (0 ≤ x.toInt ∧ x.toInt ≤ (allM n).toInt) ↔ LO n x := by
  have hp : (2 : Nat) ^ n ≤ 2 ^ 24 := Nat.pow_le_pow_right (by decide) hn
  rw [allM_i hn]
  constructor
  · rintro ⟨a, b⟩ i hi hi2
    have e := tn_int a
    have hx : tn x < 2 ^ n := by
      have : ((2 ^ n : Nat) : Int) = 2 ^ n := by norm_cast
      omega
    have hx2 : tn x < 2 ^ i := Nat.lt_of_lt_of_le hx (Nat.pow_le_pow_right (by decide) hi)
    show x.toBitVec.getLsbD i = false
    rw [BitVec.getLsbD]
    exact Nat.testBit_lt_two_pow hx2
  · intro h
    have h31 : x.toBitVec.msb = false := by
      rw [BitVec.msb_eq_getLsbD_last]
      exact h 31 (by omega) (by omega)
    have hx : tn x < 2 ^ n := by
      apply Nat.lt_pow_two_of_testBit
      intro i hi
      rcases Nat.lt_or_ge i 32 with q | q
      · exact h i hi q
      · exact Nat.testBit_lt_two_pow (Nat.lt_of_lt_of_le (tn_lt x) (by show 2 ^ 32 ≤ 2 ^ i; exact Nat.pow_le_pow_right (by decide) q))
    have e : x.toInt = tn x := by
      show x.toBitVec.toInt = _
      rw [BitVec.toInt_eq_msb_cond, h31]
      rfl
    have : ((2 ^ n : Nat) : Int) = 2 ^ n := by norm_cast
    omega
theorem M_noSet {p q w v : Nat} {ds : Nat → Nat} {g : Nat → Nat → Int32} {n : Nat} (h0 : g 84 0 = I n) (h1 : 1 ≤ n) (hn : n ≤ 24) (x : Int32) : ∃ b : Int32, f_X12_noSet (g, RF p q w v ds) 83 x = some (b, (g, RF p q w v ds)) ∧ (LO n x → b = 0) ∧ (¬ LO n x → b = 1) := by
  have e : f_X12_noSet (g, RF p q w v ds) 83 x = some (if 0 ≤ x.toInt ∧ x.toInt ≤ (allM n).toInt then 0 else 1, (g, RF p q w v ds)) := by
    have ea : ((1 : Int32) <<< (I (n : Int) &&& 31)) - 1 = allM n := rfl
    unfold f_X12_noSet
    simp only [r_83_1, r_83_2, r_83_3, r_83_4, r_83_6, r_83_8, r_83_11, r_83_13, r_83_15, r_83_19, r_83_20, r_83_21, r_83_22, r_83_24, r_83_25, r_83_26, r_83_28, r_83_29, k_83, n_83, k_84, n_84, k_85, n_85, k_86, n_86, k_87, n_87, k_88, n_88, k_89, n_89, k_90, n_90, k_91, n_91, k_92, n_92, k_93, n_93, k_94, n_94, k_95, n_95, k_96, n_96, k_97, n_97, k_98, n_98, k_99, n_99, k_100, n_100, k_101, n_101, gd, lt, bd_s, if_true, if_false, reduceIte, si_uc, uc_s, uc_n, upd_s, upd_n, Nat.reduceEqDiff, ne_eq, not_false_eq_true, not_true_eq_false, ci_0, ci_1, ci_2, ci_3, ci_4, ii_0, ii_1, ii_2, ii_3, ii_4, id_0, id_1, id_2, h0, M_in, ea, Int32.toInt_toInt64, show (0 : Int64).toInt = 0 by decide]
    by_cases c : 0 ≤ x.toInt ∧ x.toInt ≤ (allM n).toInt
    · simp only [if_pos c]; rfl
    · simp only [if_neg c]; rfl
  refine ⟨_, e, fun h => if_pos ((set_iff h1 hn).mpr h), fun h => if_neg (fun z => h ((set_iff h1 hn).mp z))⟩
theorem X_isSet {p q w v : Nat} {ds : Nat → Nat} {g : Nat → Nat → Int32} {a n : Nat} (hk : kd a = 4) (h0 : g a 0 = I n) (hn : n ≤ 24) (x : Int32) : ∃ b : Int32, f_X4_isSet (g, RF p q w v ds) a x = some (b, (g, RF p q w v ds)) ∧ (x ≠ 0 ∧ LO n x → b = 1) ∧ (¬ (x ≠ 0 ∧ LO n x) → b = 0) := by
  have ea : ((1 : Int32) <<< (I (n : Int) &&& 31)) - 1 = allM n := rfl
  have e : f_X4_isSet (g, RF p q w v ds) a x = some (if x = 0 then 0 else if x &&& (allM n ^^^ (-1)) = 0 then 1 else 0, (g, RF p q w v ds)) := by
    unfold f_X4_isSet f_X4_all
    simp only [hk, gd, lt, bd_s, if_true, if_false, reduceIte, si_uc, uc_s, uc_n, upd_s, upd_n, Nat.reduceEqDiff, ne_eq, not_false_eq_true, not_true_eq_false, h0, ea, ite_som]
  have hi : x &&& (allM n ^^^ (-1)) = 0 ↔ LO n x := by
    refine ⟨LO_set hn, fun h => ?_⟩
    apply bt_ext
    intro i hi
    rw [bt_and, bt_not hi, bt_all hn hi, bt_0]
    rcases Nat.lt_or_ge i n with q | q
    · rw [decide_eq_true q]; simp
    · rw [h i q hi]; rfl
  refine ⟨_, e, fun h => by rw [if_neg h.1, if_pos (hi.mpr h.2)], fun h => ?_⟩
  by_cases c : x = 0
  · rw [if_pos c]
  · rw [if_neg c, if_neg (fun z => h ⟨c, hi.mp z⟩)]
theorem S_enter : Sp1 Inv f_X11_enter f_X12_enter := by
  rintro h a ⟨g, p, q, w, v, ds, n, np, kind, rfl, hV⟩
  obtain ⟨kp, -⟩ := Pk hV.p
  have hn := hV.pw.2.1
  have e0 : g p 0 = I n := by rw [hV.pr.1 0 (by decide)]; exact hV.pw.1
  obtain ⟨m, m1, m2, m3, m4⟩ := hV.2.2.2.2.2.2.2.2.2.1
  obtain ⟨b, xb, x1, x0⟩ := X_isSet (p := p) (q := q) (w := w) (v := v) (ds := ds) kp e0 hn.2 a
  have z1 : ¬ (1 : Int32) = 0 := by decide
  by_cases hc : a ≠ 0 ∧ LO n a
  · have hb := x1 hc
    subst hb
    by_cases hm : m < 6
    · obtain ⟨g1, hg1⟩ : ∃ g1, g1 = uc (uc g 54 (upd (g 54) m a)) 53 (upd (g 53) 0 (I ((m + 1 : Nat) : Int))) := ⟨_, rfl⟩
      have s1 : Sb [53, 54, 83, 99] g g1 := by rw [hg1]; exact (Sb.rf.uc (by decide)).uc (by decide)
      refine ⟨I ((m + 1 : Nat) : Int), (g1, RF p q w v ds), (uc (uc (th g1) 99 (upd (g1 99) m a)) 83 (upd (th g1 83) 27 (I ((m + 1 : Nat) : Int))), RF p q w v ds), ?_, ?_, ?_⟩
      · have lm : I (m : Int) < (6 : Int32) := (I_lt (b := 6) (by omega) (by omega)).mpr (by omega)
        rw [hg1]
        unfold f_X11_enter f_X0_append
        simp only [r_1_0, r_1_1, r_1_2, r_1_3, r_1_4, r_1_5, r_1_6, r_1_7, r_1_8, r_1_9, r_1_10, r_1_11, k_1, n_1, r_53_2, r_53_3, r_53_4, r_53_5, k_53, n_53, k_54, n_54, k_55, n_55, k_56, n_56, k_57, n_57, kp, gd, lt, bd_s, if_true, if_false, reduceIte, si_uc, uc_s, uc_n, upd_s, upd_n, Nat.reduceEqDiff, ne_eq, not_false_eq_true, not_true_eq_false, xb, z1, m2, if_pos lm, I_in (show m < 6 by omega) (show 6 < 1000000 by decide), I_ix (show m < 1000000 by omega), I_s]
      · obtain ⟨c, nb, n1, n0⟩ := M_noSet (p := p) (q := q) (w := w) (v := v) (ds := ds) (g := th g1) (by rw [th_n (by decide), s1 84 (by decide)]; exact hV.pw.1) hn.1 hn.2 a
        have hb := n1 hc.2
        subst hb
        have f9 : th g1 83 27 = I (m : Int) := by rw [th_83 (by decide), hg1, uc_n (by decide), uc_n (by decide)]; exact m3
        have f89 : th g1 99 = g1 99 := th_n (by decide)
        have lm : ¬ I (m : Int) = (6 : Int32) := fun z => by have := (I_inj (b := 6) (by omega) (by omega)).mp z; omega
        unfold f_X12_enter
        rw [gd_t (show kd 83 = 12 from rfl), th_lt]
        simp only [nb, bd_s, if_true, reduceIte, if_neg hc.1, f9, if_neg lm, r_83_1, r_83_2, r_83_3, r_83_4, r_83_6, r_83_8, r_83_11, r_83_13, r_83_15, r_83_19, r_83_20, r_83_21, r_83_22, r_83_24, r_83_25, r_83_26, r_83_28, r_83_29, k_83, n_83, k_84, n_84, k_85, n_85, k_86, n_86, k_87, n_87, k_88, n_88, k_89, n_89, k_90, n_90, k_91, n_91, k_92, n_92, k_93, n_93, k_94, n_94, k_95, n_95, k_96, n_96, k_97, n_97, k_98, n_98, k_99, n_99, k_100, n_100, k_101, n_101, gd, I_in (show m < 6 by omega) (show 6 < 1000000 by decide), I_ix (show m < 1000000 by omega), lt_w, f89, uc_n (show 83 ≠ 99 by decide), I_s, uc_s, upd_s]
      · obtain ⟨g2, hg2⟩ : ∃ g2, g2 = uc (uc (th g1) 99 (upd (g1 99) m a)) 83 (upd (th g1 83) 27 (I ((m + 1 : Nat) : Int))) := ⟨_, rfl⟩
        rw [← hg2]
        have s : Sb [53, 54, 83, 99] g g2 := by rw [hg2]; unfold th; exact ((s1.uc (by decide)).uc (by decide)).uc (by decide)
        have f : ∀ j, j ≠ 0 → j ≠ 27 → g2 83 j = g 83 j := fun j h1 h2 => by rw [hg2, uc_s, upd_n h2, th_83 h1, hg1, uc_n (by decide), uc_n (by decide)]
        have f9 : g2 83 27 = I ((m + 1 : Nat) : Int) := by rw [hg2, uc_s, upd_s]
        have f2 : g2 53 0 = I ((m + 1 : Nat) : Int) := by rw [hg2, uc_n (by decide), uc_n (by decide), th_n (by decide), hg1, uc_s, upd_s]
        have f3 : g2 54 = upd (g 54) m a := by rw [hg2, uc_n (by decide), uc_n (by decide), th_n (by decide), hg1, uc_n (by decide), uc_s]
        have f89 : g2 99 = upd (g 99) m a := by rw [hg2, uc_n (by decide), uc_s, hg1, uc_n (by decide), uc_n (by decide)]
        refine ⟨g2, p, q, w, v, ds, n, np, kind, rfl, hV.1, hV.2.1, hV.2.2.1, hV.2.2.2.1.sb s (by decide), by rw [f 12 (by decide) (by decide)]; exact hV.2.2.2.2.1, hV.2.2.2.2.2.1, hV.2.2.2.2.2.2.1.sb hV.2.2.2.2.2.1 s (by decide) (f 5 (by decide) (by decide)), hV.2.2.2.2.2.2.2.1.sb s (by decide) (f 7 (by decide) (by decide)), hV.2.2.2.2.2.2.2.2.1.sb s (by decide) (f 14 (by decide) (by decide)), ⟨m + 1, by omega, f2, f9, fun k hk => ?_⟩, hV.2.2.2.2.2.2.2.2.2.2.sb s (by decide) (f 9 (by decide) (by decide))⟩
        rw [f3, f89]
        by_cases e : k = m
        · subst e; rw [upd_s, upd_s]; exact ⟨rfl, hc.1, hc.2⟩
        · rw [upd_n e, upd_n e]; exact m4 k (by omega)
    · have hm : m = 6 := by omega
      subst hm
      refine ⟨-3, (g, RF p q w v ds), (th g, RF p q w v ds), ?_, ?_, hV.ask (th_mk g)⟩
      · unfold f_X11_enter f_X0_append
        simp only [r_1_0, r_1_1, r_1_2, r_1_3, r_1_4, r_1_5, r_1_6, r_1_7, r_1_8, r_1_9, r_1_10, r_1_11, k_1, n_1, r_53_2, r_53_3, r_53_4, r_53_5, k_53, n_53, k_54, n_54, k_55, n_55, k_56, n_56, k_57, n_57, kp, gd, lt, bd_s, if_true, if_false, reduceIte, si_uc, uc_s, uc_n, upd_s, upd_n, Nat.reduceEqDiff, ne_eq, not_false_eq_true, not_true_eq_false, xb, z1, m2, if_neg (show ¬ I ((6 : Nat) : Int) < (6 : Int32) by decide)]
      · obtain ⟨c, nb, n1, n0⟩ := M_noSet (p := p) (q := q) (w := w) (v := v) (ds := ds) (g := th g) (by rw [th_n (by decide)]; exact hV.pw.1) hn.1 hn.2 a
        have hb := n1 hc.2
        subst hb
        have f9 : th g 83 27 = I ((6 : Nat) : Int) := by rw [th_83 (by decide)]; exact m3
        unfold f_X12_enter
        rw [gd_t (show kd 83 = 12 from rfl), th_lt]
        simp only [nb, bd_s, if_true, reduceIte, if_neg hc.1, f9, if_pos (show I ((6 : Nat) : Int) = (6 : Int32) by decide)]
  · have hb := x0 hc
    subst hb
    refine ⟨-1, (g, RF p q w v ds), (th g, RF p q w v ds), ?_, ?_, hV.ask (th_mk g)⟩
    · unfold f_X11_enter
      simp only [r_1_0, r_1_1, r_1_2, r_1_3, r_1_4, r_1_5, r_1_6, r_1_7, r_1_8, r_1_9, r_1_10, r_1_11, k_1, n_1, kp, gd, lt, bd_s, if_true, if_false, reduceIte, si_uc, uc_s, uc_n, upd_s, upd_n, Nat.reduceEqDiff, ne_eq, not_false_eq_true, not_true_eq_false, xb]
    · obtain ⟨c, nb, n1, n0⟩ := M_noSet (p := p) (q := q) (w := w) (v := v) (ds := ds) (g := th g) (by rw [th_n (by decide)]; exact hV.pw.1) hn.1 hn.2 a
      unfold f_X12_enter
      rw [gd_t (show kd 83 = 12 from rfl), th_lt]
      by_cases hl : LO n a
      · have hb := n1 hl
        subst hb
        have ha : a = 0 := Classical.byContradiction (fun z => hc ⟨z, hl⟩)
        simp only [nb, bd_s, if_true, reduceIte, if_pos ha]
      · have hb := n0 hl
        subst hb
        simp only [nb, bd_s, if_neg z1]
