/-! the easy calls -/
theorem arg_c (a : Int32) (N : Nat) : (∃ k : Nat, k ≤ N ∧ a = I k) ∨ (a.toInt < 0 ∨ (N : Int) < a.toInt) := by
  rcases Int.lt_or_le a.toInt 0 with h | h
  · exact Or.inr (Or.inl h)
  · rcases Int.lt_or_le (N : Int) a.toInt with h' | h'
    · exact Or.inr (Or.inr h')
    · refine Or.inl ⟨a.toInt.toNat, by omega, ?_⟩
      rw [I_of a]
      congr 1
      rw [I_toInt (I_bd a).1 (I_bd a).2]
      omega
theorem ne_out {a : Int32} {N : Nat} (h : a.toInt < 0 ∨ (N : Int) < a.toInt) {k : Nat} (hk : k ≤ N) (hk2 : k < 1000000) : ¬ a = I k := fun e => by
  rw [e, I_toInt (by omega) (by omega)] at h
  omega
theorem lt_out {a : Int32} {z : Int} (hz : -1000000 ≤ z ∧ z ≤ 1000000) : (a < I z) = (a.toInt < z) := by
  apply propext
  have b := I_bd a
  have := I_lt (a := a.toInt) (b := z) b (by omega)
  rw [← I_of a] at this
  exact this
theorem le_out {a : Int32} {z : Int} (hz : -1000000 ≤ z ∧ z ≤ 1000000) : (a ≤ I z) = (a.toInt ≤ z) := by
  apply propext
  have b := I_bd a
  have := I_le (a := a.toInt) (b := z) b (by omega)
  rw [← I_of a] at this
  exact this
theorem gt_out {a : Int32} {z : Int} (hz : -1000000 ≤ z ∧ z ≤ 1000000) : (I z < a) = (z < a.toInt) := by
  apply propext
  have b := I_bd a
  have := I_lt (a := z) (b := a.toInt) (by omega) b
  rw [← I_of a] at this
  exact this
theorem ge_out {a : Int32} {z : Int} (hz : -1000000 ≤ z ∧ z ≤ 1000000) : (I z ≤ a) = (z ≤ a.toInt) := by
  apply propext
  have b := I_bd a
  have := I_le (a := z) (b := a.toInt) (by omega) b
  rw [← I_of a] at this
  exact this
theorem Pk {p : Nat} (hp : p = 5 ∨ p = 9) : kd p = 4 ∧ kd (p + 1) = 13 ∧ kd (p + 2) = 13 ∧ kd (p + 3) = 13 ∧ ln (p + 1) = 25 ∧ ln (p + 2) = 6 ∧ ln (p + 3) = 6 := by rcases hp with rfl | rfl <;> exact ⟨rfl, rfl, rfl, rfl, rfl, rfl, rfl⟩
theorem Pr {p : Nat} (hp : p = 5 ∨ p = 9) (q w v : Nat) (ds : Nat → Nat) : RF p q w v ds p 5 = p + 1 ∧ RF p q w v ds p 6 = p + 2 ∧ RF p q w v ds p 7 = p + 3 := by rcases hp with rfl | rfl <;> exact ⟨rfl, rfl, rfl⟩
/-- the reference after it has wiped 'thrown' -/
def th (g : Nat → Nat → Int32) : Nat → Nat → Int32 := uc g 83 (upd (g 83) 0 0)
theorem th_n {g : Nat → Nat → Int32} {a : Nat} (h : a ≠ 83) : th g a = g a := uc_n h
theorem th_83 {g : Nat → Nat → Int32} {j : Nat} (h : j ≠ 0) : th g 83 j = g 83 j := by unfold th; rw [uc_s, upd_n h]
theorem th_mk (g : Nat → Nat → Int32) : MK g (th g) := MK.up (by decide)
theorem th_lt {α : Type} (g : Nat → Nat → Int32) (r : Nat → Nat → Nat) (K : Hp → Option α) : lt (si (g, r) 83 0 0) K = K (th g, r) := rfl
theorem IV.p {g : Nat → Nat → Int32} {p q w v : Nat} {ds : Nat → Nat} {n np kind : Nat} (h : IV g p q w v ds n np kind) : p = 5 ∨ p = 9 := h.2.2.2.1.1
theorem IV.pw {g : Nat → Nat → Int32} {p q w v : Nat} {ds : Nat → Nat} {n np kind : Nat} (h : IV g p q w v ds n np kind) : PW (g 84) n np kind := h.2.2.2.1.2.1
theorem IV.sx {g : Nat → Nat → Int32} {p q w v : Nat} {ds : Nat → Nat} {n np kind : Nat} (h : IV g p q w v ds n np kind) : SX (g 84) n g := h.2.2.2.1.2.2.2.2.2
theorem IV.w {g : Nat → Nat → Int32} {p q w v : Nat} {ds : Nat → Nat} {n np kind : Nat} (h : IV g p q w v ds n np kind) : (w = 59 ∧ v = 60) ∨ (w = 60 ∧ v = 59) := h.2.1
theorem IV.q {g : Nat → Nat → Int32} {p q w v : Nat} {ds : Nat → Nat} {n np kind : Nat} (h : IV g p q w v ds n np kind) : q = 5 ∨ q = 9 := by have := h.1; omega
theorem IV.pr {g : Nat → Nat → Int32} {p q w v : Nat} {ds : Nat → Nat} {n np kind : Nat} (h : IV g p q w v ds n np kind) : PR (g p) (g (p + 1)) (g (p + 2)) (g (p + 3)) (g 84) := h.2.2.2.1.2.2.2.1
theorem IV.dr {g : Nat → Nat → Int32} {p q w v : Nat} {ds : Nat → Nat} {n np kind : Nat} (h : IV g p q w v ds n np kind) : DR (g 13) (g 14) (g 15) (g 86) := h.2.2.2.1.2.2.2.2.1
theorem IV.dw {g : Nat → Nat → Int32} {p q w v : Nat} {ds : Nat → Nat} {n np kind : Nat} (h : IV g p q w v ds n np kind) : DW (g 86) n np := h.2.2.2.1.2.2.1
/-- a question that the class answers without leaving a trace -/
theorem IV.ask {g g2 : Nat → Nat → Int32} {p q w v : Nat} {ds : Nat → Nat} {n np kind : Nat} (h : IV g p q w v ds n np kind) (hM : MK g g2) : Inv (g2, RF p q w v ds) := ⟨g2, p, q, w, v, ds, n, np, kind, rfl, h.fin XK.rf h.sx hM h.w⟩
/-! the parts of the invariant that a change leaves alone -/
theorem Sb.no {A : List Nat} {g g' : Nat → Nat → Int32} (h : Sb A g g') {f : Nat → Bool} (hA : A.all f = true) {a : Nat} (ha : f a = false) : g' a = g a := h a (fun z => by
  have := List.all_eq_true.mp hA a z
  rw [ha] at this
  cases this)
def nPP (a : Nat) : Bool := decide (a ≠ 16 ∧ ¬ (18 ≤ a ∧ a ≤ 41) ∧ a ≠ 87)
def nKP (a : Nat) : Bool := decide (a ≠ 42 ∧ ¬ (44 ≤ a ∧ a ≤ 49) ∧ a ≠ 88)
def nWP (a : Nat) : Bool := decide (¬ (50 ≤ a ∧ a ≤ 52) ∧ a ≠ 91)
def nBP (a : Nat) : Bool := decide (a ≠ 53 ∧ a ≠ 54 ∧ a ≠ 99)
def nTP (a : Nat) : Bool := decide (a ≠ 2 ∧ a ≠ 3 ∧ a ≠ 89)
def nXI (a : Nat) : Bool := decide (¬ (5 ≤ a ∧ a ≤ 15) ∧ ¬ (61 ≤ a ∧ a ≤ 74) ∧ a ≠ 84 ∧ a ≠ 86)
section T
variable {g g' : Nat → Nat → Int32} {ds : Nat → Nat} {n np kind : Nat} {A : List Nat}
theorem PP.sb (h : PP g ds n np) (hds : DSP ds) (hS : Sb A g g') (hA : A.all nPP = true) (e5 : g' 83 5 = g 83 5) : PP g' ds n np := by
  obtain ⟨m, h1, h2, h3, h4⟩ := h
  refine ⟨m, h1, by rw [hS.no hA (a := 16) (by decide)]; exact h2, by rw [e5]; exact h3, fun k hk => ?_⟩
  obtain ⟨t, ht, et⟩ := hds.1 k (by omega)
  have e : ∀ j, j < 3 → g' (ds k + j) = g (ds k + j) := fun j hj => hS.no hA (by unfold nPP; exact decide_eq_false (by omega))
  rw [hS.no hA (a := 87) (by decide), e 1 (by decide), e 2 (by decide), show g' (ds k) = g (ds k) from e 0 (by decide)]
  exact h4 k hk
theorem KP.sb (h : KP g n np) (hS : Sb A g g') (hA : A.all nKP = true) (e7 : g' 83 7 = g 83 7) : KP g' n np := by
  obtain ⟨m, h1, h2, h3, h4⟩ := h
  refine ⟨m, h1, by rw [hS.no hA (a := 42) (by decide)]; exact h2, by rw [e7]; exact h3, fun k hk => ?_⟩
  have e : ∀ j, j < 3 → g' (44 + 3 * k + j) = g (44 + 3 * k + j) := fun j hj => hS.no hA (by unfold nKP; exact decide_eq_false (by omega))
  rw [hS.no hA (a := 88) (by decide), e 1 (by decide), e 2 (by decide), show g' (44 + 3 * k) = g (44 + 3 * k) from e 0 (by decide)]
  exact h4 k hk
theorem WP.sb (h : WP g n) (hS : Sb A g g') (hA : A.all nWP = true) (e14 : g' 83 14 = g 83 14) : WP g' n := by
  obtain ⟨m, h1, h2, h3, h4⟩ := h
  refine ⟨m, h1, by rw [hS.no hA (a := 50) (by decide)]; exact h2, by rw [e14]; exact h3, fun k hk => ?_⟩
  rw [hS.no hA (a := 51) (by decide), hS.no hA (a := 52) (by decide), hS.no hA (a := 91) (by decide)]
  exact h4 k hk
theorem BP.sb (h : BP g n) (hS : Sb A g g') (hA : A.all nBP = true) (e27 : g' 83 27 = g 83 27) : BP g' n := by
  obtain ⟨m, h1, h2, h3, h4⟩ := h
  refine ⟨m, h1, by rw [hS.no hA (a := 53) (by decide)]; exact h2, by rw [e27]; exact h3, fun k hk => ?_⟩
  rw [hS.no hA (a := 54) (by decide), hS.no hA (a := 99) (by decide)]
  exact h4 k hk
theorem TP.sb (h : TP g) (hS : Sb A g g') (hA : A.all nTP = true) (e9 : g' 83 9 = g 83 9) : TP g' := by
  obtain ⟨m, h1, h2, h3, h4⟩ := h
  refine ⟨m, h1, by rw [hS.no hA (a := 2) (by decide)]; exact h2, by rw [e9]; exact h3, fun k hk => ?_⟩
  rw [hS.no hA (a := 3) (by decide), hS.no hA (a := 89) (by decide)]
  exact h4 k hk
theorem XI.sb {p : Nat} (h : XI g p (g 84) (g 86) n np kind) (hS : Sb A g g') (hA : A.all nXI = true) : XI g' p (g' 84) (g' 86) n np kind := by
  obtain ⟨hp, hM, hD, hR, hE, hX⟩ := h
  have e : ∀ k, k < 4 → g' (p + k) = g (p + k) := fun k hk => hS.no hA (by unfold nXI; exact decide_eq_false (by omega))
  rw [hS.no hA (a := 84) (by decide), hS.no hA (a := 86) (by decide)]
  refine ⟨hp, hM, hD, ?_, ?_, hX.same (fun a h1 h2 => hS.no hA (by unfold nXI; exact decide_eq_false (by omega)))⟩
  · rw [e 1 (by decide), e 2 (by decide), e 3 (by decide), show g' p = g p from e 0 (by decide)]
    exact hR
  · rw [hS.no hA (a := 13) (by decide), hS.no hA (a := 14) (by decide), hS.no hA (a := 15) (by decide)]
    exact hE
end T
theorem S_wipe : Sp0 Inv f_X11_wipe f_X12_wipe := by
  rintro h ⟨g, p, q, w, v, ds, n, np, kind, rfl, hV⟩
  obtain ⟨m, e1, e2, e3, e4⟩ := hV.2.2.2.2.2.2.2.2.2.2
  refine ⟨I m, (uc g 2 (upd (g 2) 0 0), RF p q w v ds), (uc (th (uc g 2 (upd (g 2) 0 0))) 83 (upd (th (uc g 2 (upd (g 2) 0 0)) 83) 9 0), RF p q w v ds), ?_, ?_, ?_⟩
  · unfold f_X11_wipe
    simp only [r_1_0, r_1_1, r_1_2, r_1_3, r_1_4, r_1_5, r_1_6, r_1_7, r_1_8, r_1_9, r_1_10, r_1_11, k_1, n_1, r_2_1, r_2_2, k_2, n_2, k_3, n_3, k_4, n_4, gd, lt, bd_s, if_true, if_false, reduceIte, si_uc, uc_s, uc_n, upd_s, upd_n, Nat.reduceEqDiff, ne_eq, not_false_eq_true, not_true_eq_false, e2]
  · unfold f_X12_wipe
    rw [gd_t (show kd 83 = 12 from rfl), th_lt]
    simp only [lt_w, th_83 (show 9 ≠ 0 by decide), uc_n (show 83 ≠ 2 by decide), e3]
  · obtain ⟨g1, hg1⟩ : ∃ g1, g1 = uc (th (uc g 2 (upd (g 2) 0 0))) 83 (upd (th (uc g 2 (upd (g 2) 0 0)) 83) 9 0) := ⟨_, rfl⟩
    rw [← hg1]
    have s : Sb [2, 83] g g1 := by rw [hg1]; unfold th; exact ((Sb.rf.uc (by decide)).uc (by decide)).uc (by decide)
    have f : ∀ j, j ≠ 0 → j ≠ 9 → g1 83 j = g 83 j := fun j h1 h2 => by rw [hg1, uc_s, upd_n h2, th_83 h1, uc_n (by decide)]
    have f9 : g1 83 9 = I ((0 : Nat) : Int) := by rw [hg1, uc_s, upd_s]; rfl
    have f2 : g1 2 0 = I ((0 : Nat) : Int) := by rw [hg1, uc_n (by decide), th_n (by decide), uc_s, upd_s]; rfl
    exact ⟨g1, p, q, w, v, ds, n, np, kind, rfl, hV.1, hV.2.1, hV.2.2.1, hV.2.2.2.1.sb s (by decide), by rw [f 12 (by decide) (by decide)]; exact hV.2.2.2.2.1, hV.2.2.2.2.2.1, hV.2.2.2.2.2.2.1.sb hV.2.2.2.2.2.1 s (by decide) (f 5 (by decide) (by decide)), hV.2.2.2.2.2.2.2.1.sb s (by decide) (f 7 (by decide) (by decide)), hV.2.2.2.2.2.2.2.2.1.sb s (by decide) (f 14 (by decide) (by decide)), hV.2.2.2.2.2.2.2.2.2.1.sb s (by decide) (f 27 (by decide) (by decide)), ⟨0, by omega, f2, f9, fun k hk => absurd hk (by omega)⟩⟩
theorem S_hush : Sp0 Inv f_X11_hush f_X12_hush := by
  rintro h ⟨g, p, q, w, v, ds, n, np, kind, rfl, hV⟩
  obtain ⟨m, e1, e2, e3, e4⟩ := hV.2.2.2.2.2.2.2.2.1
  refine ⟨I m, (uc g 50 (upd (g 50) 0 0), RF p q w v ds), (uc (th (uc g 50 (upd (g 50) 0 0))) 83 (upd (th (uc g 50 (upd (g 50) 0 0)) 83) 14 0), RF p q w v ds), ?_, ?_, ?_⟩
  · unfold f_X11_hush
    simp only [r_1_0, r_1_1, r_1_2, r_1_3, r_1_4, r_1_5, r_1_6, r_1_7, r_1_8, r_1_9, r_1_10, r_1_11, k_1, n_1, r_50_1, r_50_2, k_50, n_50, k_51, n_51, k_52, n_52, gd, lt, bd_s, if_true, if_false, reduceIte, si_uc, uc_s, uc_n, upd_s, upd_n, Nat.reduceEqDiff, ne_eq, not_false_eq_true, not_true_eq_false, e2]
  · unfold f_X12_hush
    rw [gd_t (show kd 83 = 12 from rfl), th_lt]
    simp only [lt_w, th_83 (show 14 ≠ 0 by decide), uc_n (show 83 ≠ 50 by decide), e3]
  · obtain ⟨g1, hg1⟩ : ∃ g1, g1 = uc (th (uc g 50 (upd (g 50) 0 0))) 83 (upd (th (uc g 50 (upd (g 50) 0 0)) 83) 14 0) := ⟨_, rfl⟩
    rw [← hg1]
    have s : Sb [50, 83] g g1 := by rw [hg1]; unfold th; exact ((Sb.rf.uc (by decide)).uc (by decide)).uc (by decide)
    have f : ∀ j, j ≠ 0 → j ≠ 14 → g1 83 j = g 83 j := fun j h1 h2 => by rw [hg1, uc_s, upd_n h2, th_83 h1, uc_n (by decide)]
    have f9 : g1 83 14 = I ((0 : Nat) : Int) := by rw [hg1, uc_s, upd_s]; rfl
    have f2 : g1 50 0 = I ((0 : Nat) : Int) := by rw [hg1, uc_n (by decide), th_n (by decide), uc_s, upd_s]; rfl
    exact ⟨g1, p, q, w, v, ds, n, np, kind, rfl, hV.1, hV.2.1, hV.2.2.1, hV.2.2.2.1.sb s (by decide), by rw [f 12 (by decide) (by decide)]; exact hV.2.2.2.2.1, hV.2.2.2.2.2.1, hV.2.2.2.2.2.2.1.sb hV.2.2.2.2.2.1 s (by decide) (f 5 (by decide) (by decide)), hV.2.2.2.2.2.2.2.1.sb s (by decide) (f 7 (by decide) (by decide)), ⟨0, by omega, f2, f9, fun k hk => absurd hk (by omega)⟩, hV.2.2.2.2.2.2.2.2.2.1.sb s (by decide) (f 27 (by decide) (by decide)), hV.2.2.2.2.2.2.2.2.2.2.sb s (by decide) (f 9 (by decide) (by decide))⟩
theorem S_close : Sp0 Inv f_X11_close f_X12_close := by
  rintro h ⟨g, p, q, w, v, ds, n, np, kind, rfl, hV⟩
  obtain ⟨m, e1, e2, e3, e4⟩ := hV.2.2.2.2.2.2.2.2.2.1
  refine ⟨I m, (uc g 53 (upd (g 53) 0 0), RF p q w v ds), (uc (th (uc g 53 (upd (g 53) 0 0))) 83 (upd (th (uc g 53 (upd (g 53) 0 0)) 83) 27 0), RF p q w v ds), ?_, ?_, ?_⟩
  · unfold f_X11_close
    simp only [r_1_0, r_1_1, r_1_2, r_1_3, r_1_4, r_1_5, r_1_6, r_1_7, r_1_8, r_1_9, r_1_10, r_1_11, k_1, n_1, r_53_2, r_53_3, r_53_4, r_53_5, k_53, n_53, k_54, n_54, k_55, n_55, k_56, n_56, k_57, n_57, gd, lt, bd_s, if_true, if_false, reduceIte, si_uc, uc_s, uc_n, upd_s, upd_n, Nat.reduceEqDiff, ne_eq, not_false_eq_true, not_true_eq_false, e2]
  · unfold f_X12_close
    rw [gd_t (show kd 83 = 12 from rfl), th_lt]
    simp only [lt_w, th_83 (show 27 ≠ 0 by decide), uc_n (show 83 ≠ 53 by decide), e3]
  · obtain ⟨g1, hg1⟩ : ∃ g1, g1 = uc (th (uc g 53 (upd (g 53) 0 0))) 83 (upd (th (uc g 53 (upd (g 53) 0 0)) 83) 27 0) := ⟨_, rfl⟩
    rw [← hg1]
    have s : Sb [53, 83] g g1 := by rw [hg1]; unfold th; exact ((Sb.rf.uc (by decide)).uc (by decide)).uc (by decide)
    have f : ∀ j, j ≠ 0 → j ≠ 27 → g1 83 j = g 83 j := fun j h1 h2 => by rw [hg1, uc_s, upd_n h2, th_83 h1, uc_n (by decide)]
    have f9 : g1 83 27 = I ((0 : Nat) : Int) := by rw [hg1, uc_s, upd_s]; rfl
    have f2 : g1 53 0 = I ((0 : Nat) : Int) := by rw [hg1, uc_n (by decide), th_n (by decide), uc_s, upd_s]; rfl
    exact ⟨g1, p, q, w, v, ds, n, np, kind, rfl, hV.1, hV.2.1, hV.2.2.1, hV.2.2.2.1.sb s (by decide), by rw [f 12 (by decide) (by decide)]; exact hV.2.2.2.2.1, hV.2.2.2.2.2.1, hV.2.2.2.2.2.2.1.sb hV.2.2.2.2.2.1 s (by decide) (f 5 (by decide) (by decide)), hV.2.2.2.2.2.2.2.1.sb s (by decide) (f 7 (by decide) (by decide)), hV.2.2.2.2.2.2.2.2.1.sb s (by decide) (f 14 (by decide) (by decide)), ⟨0, by omega, f2, f9, fun k hk => absurd hk (by omega)⟩, hV.2.2.2.2.2.2.2.2.2.2.sb s (by decide) (f 9 (by decide) (by decide))⟩
theorem nar_c : ∀ c : Nat, c < 127 → vp_nar .char ((I (c : Int)).toUInt32 % 65536).toInt32 = I (c : Int) := by decide +kernel
theorem S_write : Sp1 Inv f_X11_write f_X12_write := by
  rintro h a ⟨g, p, q, w, v, ds, n, np, kind, rfl, hV⟩
  obtain ⟨m, e1, e2, e3, e4⟩ := hV.2.2.2.2.2.2.2.2.2.2
  have l32 : (a < (32 : Int32)) = (a.toInt < 32) := lt_out (z := 32) (by decide)
  have l126 : (a ≤ (126 : Int32)) = (a.toInt ≤ 126) := le_out (z := 126) (by decide)
  by_cases hc : 32 ≤ a.toInt ∧ a.toInt ≤ 126
  · obtain ⟨c, hc1, hc2⟩ : ∃ c : Nat, (32 ≤ c ∧ c ≤ 126) ∧ a = I c := by
      rcases arg_c a 126 with ⟨k, h1, h2⟩ | h
      · exact ⟨k, ⟨by rw [h2, I_toInt (by omega) (by omega)] at hc; omega, h1⟩, h2⟩
      · omega
    by_cases hm : m < 200
    · refine ⟨I ((m + 1 : Nat) : Int), (uc (uc g 3 (upd (g 3) m a)) 2 (upd (g 2) 0 (I ((m + 1 : Nat) : Int))), RF p q w v ds), ?_⟩
      obtain ⟨g1, hg1⟩ : ∃ g1, g1 = uc (uc g 3 (upd (g 3) m a)) 2 (upd (g 2) 0 (I ((m + 1 : Nat) : Int))) := ⟨_, rfl⟩
      refine ⟨(uc (uc (th g1) 89 (upd (g1 89) m a)) 83 (upd (th g1 83) 9 (I ((m + 1 : Nat) : Int))), RF p q w v ds), ?_, ?_, ?_⟩
      · have lm : I (m : Int) < (200 : Int32) := (I_lt (b := 200) (by omega) (by omega)).mpr (by omega)
        have en : vp_nar .char (a.toUInt32 % 65536).toInt32 = a := by rw [hc2]; exact nar_c c (by omega)
        unfold f_X11_write f_X8_append
        simp only [l32, l126, if_neg (show ¬ a.toInt < 32 by omega), if_pos hc.2, r_1_0, r_1_1, r_1_2, r_1_3, r_1_4, r_1_5, r_1_6, r_1_7, r_1_8, r_1_9, r_1_10, r_1_11, k_1, n_1, r_2_1, r_2_2, k_2, n_2, k_3, n_3, k_4, n_4, gd, lt, bd_s, if_true, if_false, reduceIte, si_uc, uc_s, uc_n, upd_s, upd_n, Nat.reduceEqDiff, ne_eq, not_false_eq_true, not_true_eq_false, e2, if_pos lm, I_in (show m < 200 by omega) (by omega), I_ix (show m < 1000000 by omega), en, I_s]
        rfl
      · have f9 : th g1 83 9 = I (m : Int) := by rw [th_83 (by decide), hg1, uc_n (by decide), uc_n (by decide)]; exact e3
        have f89 : th g1 89 = g1 89 := th_n (by decide)
        have lm : ¬ I (m : Int) = (200 : Int32) := fun z => by have := (I_inj (b := 200) (by omega) (by omega)).mp z; omega
        unfold f_X12_write
        rw [gd_t (show kd 83 = 12 from rfl), th_lt, ← hg1]
        simp only [M_in, Int32.toInt_toInt64, show (32 : Int64).toInt = 32 by decide, show (126 : Int64).toInt = 126 by decide, if_pos hc, bd_s, if_neg (show ¬ (1 : Int32) = 0 by decide), f9, if_neg lm, r_83_1, r_83_2, r_83_3, r_83_4, r_83_6, r_83_8, r_83_11, r_83_13, r_83_15, r_83_19, r_83_20, r_83_21, r_83_22, r_83_24, r_83_25, r_83_26, r_83_28, r_83_29, k_83, n_83, k_84, n_84, k_85, n_85, k_86, n_86, k_87, n_87, k_88, n_88, k_89, n_89, k_90, n_90, k_91, n_91, k_92, n_92, k_93, n_93, k_94, n_94, k_95, n_95, k_96, n_96, k_97, n_97, k_98, n_98, k_99, n_99, k_100, n_100, k_101, n_101, gd, if_true, reduceIte, I_in (show m < 200 by omega) (show 200 < 1000000 by decide), I_ix (show m < 1000000 by omega), lt_w, f89, uc_n (show 83 ≠ 89 by decide), I_s, uc_s, upd_s]
      · obtain ⟨g2, hg2⟩ : ∃ g2, g2 = uc (uc (th g1) 89 (upd (g1 89) m a)) 83 (upd (th g1 83) 9 (I ((m + 1 : Nat) : Int))) := ⟨_, rfl⟩
        rw [← hg2]
        have s1 : Sb [2, 3, 83, 89] g g1 := by rw [hg1]; exact (Sb.rf.uc (by decide)).uc (by decide)
        have s : Sb [2, 3, 83, 89] g g2 := by rw [hg2]; unfold th; exact ((s1.uc (by decide)).uc (by decide)).uc (by decide)
        have f : ∀ j, j ≠ 0 → j ≠ 9 → g2 83 j = g 83 j := fun j h1 h2 => by rw [hg2, uc_s, upd_n h2, th_83 h1, hg1, uc_n (by decide), uc_n (by decide)]
        have f9 : g2 83 9 = I ((m + 1 : Nat) : Int) := by rw [hg2, uc_s, upd_s]
        have f2 : g2 2 0 = I ((m + 1 : Nat) : Int) := by rw [hg2, uc_n (by decide), uc_n (by decide), th_n (by decide), hg1, uc_s, upd_s]
        have f3 : g2 3 = upd (g 3) m a := by rw [hg2, uc_n (by decide), uc_n (by decide), th_n (by decide), hg1, uc_n (by decide), uc_s]
        have f89 : g2 89 = upd (g 89) m a := by rw [hg2, uc_n (by decide), uc_s, hg1, uc_n (by decide), uc_n (by decide)]
        refine ⟨g2, p, q, w, v, ds, n, np, kind, rfl, hV.1, hV.2.1, hV.2.2.1, hV.2.2.2.1.sb s (by decide), by rw [f 12 (by decide) (by decide)]; exact hV.2.2.2.2.1, hV.2.2.2.2.2.1, hV.2.2.2.2.2.2.1.sb hV.2.2.2.2.2.1 s (by decide) (f 5 (by decide) (by decide)), hV.2.2.2.2.2.2.2.1.sb s (by decide) (f 7 (by decide) (by decide)), hV.2.2.2.2.2.2.2.2.1.sb s (by decide) (f 14 (by decide) (by decide)), hV.2.2.2.2.2.2.2.2.2.1.sb s (by decide) (f 27 (by decide) (by decide)), ⟨m + 1, by omega, f2, f9, fun k hk => ?_⟩⟩
        rw [f3, f89]
        by_cases e : k = m
        · subst e; exact ⟨c, by omega, by rw [upd_s, hc2], by rw [upd_s, hc2]⟩
        · rw [upd_n e, upd_n e]; exact e4 k (by omega)
    · have hm : m = 200 := by omega
      subst hm
      refine ⟨-3, (g, RF p q w v ds), (th g, RF p q w v ds), ?_, ?_, hV.ask (th_mk g)⟩
      · unfold f_X11_write f_X8_append
        simp only [l32, l126, if_neg (show ¬ a.toInt < 32 by omega), if_pos hc.2, r_1_0, r_1_1, r_1_2, r_1_3, r_1_4, r_1_5, r_1_6, r_1_7, r_1_8, r_1_9, r_1_10, r_1_11, k_1, n_1, r_2_1, r_2_2, k_2, n_2, k_3, n_3, k_4, n_4, gd, lt, bd_s, if_true, if_false, reduceIte, si_uc, uc_s, uc_n, upd_s, upd_n, Nat.reduceEqDiff, ne_eq, not_false_eq_true, not_true_eq_false, e2, if_neg (show ¬ I ((200 : Nat) : Int) < (200 : Int32) by decide)]
      · have f9 : th g 83 9 = I ((200 : Nat) : Int) := by rw [th_83 (by decide)]; exact e3
        unfold f_X12_write
        rw [gd_t (show kd 83 = 12 from rfl), th_lt]
        simp only [M_in, Int32.toInt_toInt64, show (32 : Int64).toInt = 32 by decide, show (126 : Int64).toInt = 126 by decide, if_pos hc, bd_s, if_neg (show ¬ (1 : Int32) = 0 by decide), f9, if_pos (show I ((200 : Nat) : Int) = (200 : Int32) by decide)]
  · refine ⟨-1, (g, RF p q w v ds), (th g, RF p q w v ds), ?_, ?_, hV.ask (th_mk g)⟩
    · unfold f_X11_write
      simp only [l32, l126, r_1_0, r_1_1, r_1_2, r_1_3, r_1_4, r_1_5, r_1_6, r_1_7, r_1_8, r_1_9, r_1_10, r_1_11, k_1, n_1, gd, lt, bd_s, if_true, if_false, reduceIte, si_uc, uc_s, uc_n, upd_s, upd_n, Nat.reduceEqDiff, ne_eq, not_false_eq_true, not_true_eq_false]
      by_cases c1 : a.toInt < 32
      · rw [if_pos c1]
      · rw [if_neg c1, if_neg (by omega)]
    · unfold f_X12_write
      rw [gd_t (show kd 83 = 12 from rfl), th_lt]
      simp only [M_in, Int32.toInt_toInt64, show (32 : Int64).toInt = 32 by decide, show (126 : Int64).toInt = 126 by decide, if_neg hc, bd_s, if_true, reduceIte]
theorem S_law : Sp1 Inv f_X11_law f_X12_law := by
  rintro h a ⟨g, p, q, w, v, ds, n, np, kind, rfl, hV⟩
  obtain ⟨kp, -⟩ := Pk hV.p
  have r := hV.pr.1
  rcases arg_c a 2 with ⟨k, hk, rfl⟩ | ho
  · refine ⟨g 84 (2 + k), (g, RF p q w v ds), (th g, RF p q w v ds), ?_, ?_, hV.ask (th_mk g)⟩
    · unfold f_X11_law
      have : k = 0 ∨ k = 1 ∨ k = 2 := by omega
      rcases this with rfl | rfl | rfl
      · rw [if_pos (by decide)]; simp only [r_1_0, r_1_1, r_1_2, r_1_3, r_1_4, r_1_5, r_1_6, r_1_7, r_1_8, r_1_9, r_1_10, r_1_11, k_1, n_1, kp, gd, lt, bd_s, if_true, if_false, reduceIte, si_uc, uc_s, uc_n, upd_s, upd_n, Nat.reduceEqDiff, ne_eq, not_false_eq_true, not_true_eq_false, r 2 (by decide)]
      · rw [if_neg (by decide), if_pos (by decide)]; simp only [r_1_0, r_1_1, r_1_2, r_1_3, r_1_4, r_1_5, r_1_6, r_1_7, r_1_8, r_1_9, r_1_10, r_1_11, k_1, n_1, kp, gd, lt, bd_s, if_true, if_false, reduceIte, si_uc, uc_s, uc_n, upd_s, upd_n, Nat.reduceEqDiff, ne_eq, not_false_eq_true, not_true_eq_false, r 3 (by decide)]
      · rw [if_neg (by decide), if_neg (by decide), if_pos (by decide)]; simp only [r_1_0, r_1_1, r_1_2, r_1_3, r_1_4, r_1_5, r_1_6, r_1_7, r_1_8, r_1_9, r_1_10, r_1_11, k_1, n_1, kp, gd, lt, bd_s, if_true, if_false, reduceIte, si_uc, uc_s, uc_n, upd_s, upd_n, Nat.reduceEqDiff, ne_eq, not_false_eq_true, not_true_eq_false, r 4 (by decide)]
    · have e1 : (2 : Int32) + I (k : Int) = I ((2 + k : Nat) : Int) := by show I ((2 : Nat) : Int) + _ = _; rw [I_k]
      unfold f_X12_law
      rw [gd_t (show kd 83 = 12 from rfl), th_lt]
      simp only [M_in, Int32.toInt_toInt64, show (0 : Int64).toInt = 0 by decide, show (2 : Int64).toInt = 2 by decide, I_toInt (show -2147483648 ≤ (k : Int) by omega) (by omega), if_pos (show (0 : Int) ≤ k ∧ (k : Int) ≤ 2 by omega), bd_s, if_neg (show ¬ (1 : Int32) = 0 by decide), r_83_1, r_83_2, r_83_3, r_83_4, r_83_6, r_83_8, r_83_11, r_83_13, r_83_15, r_83_19, r_83_20, r_83_21, r_83_22, r_83_24, r_83_25, r_83_26, r_83_28, r_83_29, k_83, n_83, k_84, n_84, k_85, n_85, k_86, n_86, k_87, n_87, k_88, n_88, k_89, n_89, k_90, n_90, k_91, n_91, k_92, n_92, k_93, n_93, k_94, n_94, k_95, n_95, k_96, n_96, k_97, n_97, k_98, n_98, k_99, n_99, k_100, n_100, k_101, n_101, gd, if_true, reduceIte, e1, I_in (show 2 + k < 59 by omega) (show 59 < 1000000 by decide), I_ix (show 2 + k < 1000000 by omega), th_n (show 84 ≠ 83 by decide)]
  · refine ⟨-1, (g, RF p q w v ds), (th g, RF p q w v ds), ?_, ?_, hV.ask (th_mk g)⟩
    · have z0 : ¬ a = (0 : Int32) := ne_out ho (k := 0) (by decide) (by decide)
      have z1 : ¬ a = (1 : Int32) := ne_out ho (k := 1) (by decide) (by decide)
      have z2 : ¬ a = (2 : Int32) := ne_out ho (k := 2) (by decide) (by decide)
      unfold f_X11_law
      simp only [if_neg z0, if_neg z1, if_neg z2, k_1, gd, lt, bd_s, if_true, if_false, reduceIte, si_uc, uc_s, uc_n, upd_s, upd_n, Nat.reduceEqDiff, ne_eq, not_false_eq_true, not_true_eq_false]
    · unfold f_X12_law
      rw [gd_t (show kd 83 = 12 from rfl), th_lt]
      simp only [M_in, Int32.toInt_toInt64, show (0 : Int64).toInt = 0 by decide, show (2 : Int64).toInt = 2 by decide, if_neg (show ¬ (0 ≤ a.toInt ∧ a.toInt ≤ 2) by omega), bd_s, if_true, reduceIte]
