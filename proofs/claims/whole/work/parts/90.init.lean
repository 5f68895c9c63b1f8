/-! the two constructors -/
def al (h : Hp) (x k a : Nat) : Hp := sr (sz h a) x k a
def i8 (h : Hp) : Hp := al (al h 2 1 3) 2 2 4
def i4 (a : Nat) (h : Hp) : Hp := al (al (al h a 5 (a + 1)) a 6 (a + 2)) a 7 (a + 3)
def i2 (a : Nat) (h : Hp) : Hp := al (al h a 0 (a + 1)) a 1 (a + 2)
def i3l (n : Nat) : Nat → Nat → Hp → Hp
  | 0 => fun _ h => h
  | j + 1 => fun k h => i3l n j (k + 1) (sr (i2 (n + 1 + 3 * k + 1) (sz h (n + 1 + 3 * k + 1))) (n + 1) k (n + 1 + 3 * k + 1))
def i3 (rm n : Nat) (h : Hp) : Hp := i3l n rm 0 (al h n 1 (n + 1))
def i10 (h : Hp) : Hp := al (al h 50 1 51) 50 2 52
def i0 (h : Hp) : Hp := al (al (al (al h 53 2 54) 53 3 55) 53 4 56) 53 5 57
def i9 (h : Hp) : Hp := al (al h 58 0 59) 58 1 60
def i7 (h : Hp) : Hp := al (al (al (al (al h 62 4 63) 62 5 64) 62 6 65) 62 7 66) 62 8 67
def i5 (h : Hp) : Hp := al (al (al (al (al (al (al (sr (i7 (sz h 62)) 61 0 62) 61 1 68) 61 2 69) 61 3 70) 61 4 71) 61 5 72) 61 6 73) 61 7 74
def i6 (h : Hp) : Hp := al (al h 75 5 76) 75 6 77
def i1 (h : Hp) : Hp := sr (al (al (al (al h 78 5 79) 78 7 80) 78 8 81) 78 9 82) 78 6 61
def BG1 (h : Hp) : Hp := sr (i3 8 16 (sz (sr (i2 13 (sz (sr (i4 9 (sz (sr (i4 5 (sz (sr (i8 (sz h 2)) 1 0 2) 5)) 1 1 5) 9)) 1 2 9) 13)) 1 3 13) 16)) 1 4 16
def BG2 (h : Hp) : Hp := sr (i9 (sz (sr (i0 (sz (sr (i10 (sz (sr (i3 2 42 (sz h 42)) 1 5 42) 50)) 1 6 50) 53)) 1 7 53) 58)) 1 8 58
def BG3 (h : Hp) : Hp := sr (i1 (sz (sr (i6 (sz (sr (i5 (sz h 61)) 1 9 61) 75)) 1 10 75) 78)) 1 11 78
def H97 : Hp := BG3 (BG2 (BG1 (sz hp0 1)))
def Zr (h : Hp) : Prop := h.1 = fun _ _ => 0
theorem Zr.z {h : Hp} (H : Zr h) (a : Nat) : Zr (sz h a) := by
  unfold Zr sz at *
  rw [H]
  funext b
  by_cases c : b = a
  · exact if_pos c
  · exact if_neg c
theorem Zr.r {h : Hp} (H : Zr h) (a k b : Nat) : Zr (sr h a k b) := H
theorem Zr.a {h : Hp} (H : Zr h) (x k a : Nat) : Zr (al h x k a) := (H.z a).r x k a
theorem Zr.l {n : Nat} : ∀ (j k : Nat) {h : Hp}, Zr h → Zr (i3l n j k h) := by
  intro j
  induction j with
  | zero => intro k h H; exact H
  | succ j ih =>
    intro k h H
    exact ih (k + 1) ((((H.z _).a _ _ _).a _ _ _).r _ _ _)
theorem Z97 : H97.1 = fun _ _ => 0 := by
  have z0 : Zr (sz hp0 1) := Zr.z (show Zr hp0 from rfl) 1
  have a1 : Zr (BG1 (sz hp0 1)) := by
    have b1 := (((z0.z 2).a 2 1 3).a 2 2 4).r 1 0 2
    have b2 := ((((b1.z 5).a 5 5 6).a 5 6 7).a 5 7 8).r 1 1 5
    have b3 := ((((b2.z 9).a 9 5 10).a 9 6 11).a 9 7 12).r 1 2 9
    have b4 := (((b3.z 13).a 13 0 14).a 13 1 15).r 1 3 13
    exact (Zr.l 8 0 ((b4.z 16).a 16 1 17)).r 1 4 16
  have a2 : Zr (BG2 (BG1 (sz hp0 1))) := by
    have b1 := (Zr.l (n := 42) 2 0 ((a1.z 42).a 42 1 43)).r 1 5 42
    have b2 := (((b1.z 50).a 50 1 51).a 50 2 52).r 1 6 50
    have b3 := (((((b2.z 53).a 53 2 54).a 53 3 55).a 53 4 56).a 53 5 57).r 1 7 53
    exact (((b3.z 58).a 58 0 59).a 58 1 60).r 1 8 58
  have b1 := ((((((a2.z 61).z 62).a 62 4 63).a 62 5 64).a 62 6 65).a 62 7 66).a 62 8 67
  have b2 := (((((((b1.r 61 0 62).a 61 1 68).a 61 2 69).a 61 3 70).a 61 4 71).a 61 5 72).a 61 6 73).a 61 7 74
  have b3 := ((((b2.r 1 9 61).z 75).a 75 5 76).a 75 6 77).r 1 10 75
  have b4 := (((((b3.z 78).a 78 5 79).a 78 7 80).a 78 8 81).a 78 9 82).r 78 6 61
  exact b4.r 1 11 78
/-! the references: rows up to R, places up to 30 -/
def Kz (N : Nat) (h : Hp) : Prop := (∀ a k, 30 ≤ k → h.2 a k = 0) ∧ ∀ a k, N ≤ a → h.2 a k = 0
theorem Kz.z {N : Nat} {h : Hp} (H : Kz N h) (b : Nat) : Kz N (sz h b) := by
  refine ⟨fun a k hk => ?_, fun a k hk => ?_⟩
  · show (if a = b then (fun _ => 0) else h.2 a) k = 0
    by_cases c : a = b
    · rw [if_pos c]
    · rw [if_neg c]; exact H.1 a k hk
  · show (if a = b then (fun _ => 0) else h.2 a) k = 0
    by_cases c : a = b
    · rw [if_pos c]
    · rw [if_neg c]; exact H.2 a k hk
theorem Kz.r {N : Nat} {h : Hp} (H : Kz N h) {x j : Nat} (b : Nat) (hx : x < N) (hj : j < 30) : Kz N (sr h x j b) := by
  have e : ∀ a k, (sr h x j b).2 a k = if a = x then (if k = j then b else h.2 x k) else h.2 a k := fun a k => by
    rw [r_sr]
    by_cases c : a = x
    · rw [if_pos c, if_pos c]
    · rw [if_neg c, if_neg c]
  refine ⟨fun a k hk => ?_, fun a k hk => ?_⟩
  · rw [e]
    by_cases c : a = x
    · rw [if_pos c, if_neg (by omega)]; exact H.1 x k hk
    · rw [if_neg c]; exact H.1 a k hk
  · rw [e, if_neg (by omega)]; exact H.2 a k hk
theorem Kz.a {N : Nat} {h : Hp} (H : Kz N h) {x k : Nat} (a : Nat) (hx : x < N) (hj : k < 30) : Kz N (al h x k a) := (H.z a).r a hx hj
theorem Kz.l {N n : Nat} (hn : n + 40 < N) : ∀ (j k : Nat) {h : Hp}, k + j ≤ 8 → Kz N h → Kz N (i3l n j k h) := by
  intro j
  induction j with
  | zero => intro k h _ H; exact H
  | succ j ih =>
    intro k h hk H
    exact ih (k + 1) (by omega) ((((H.z _).a _ (by omega) (by decide)).a _ (by omega) (by decide)).r _ (by omega) (by omega))
theorem K97 : Kz 83 H97 := by
  have z0 : Kz 83 (sz hp0 1) := Kz.z (show Kz 83 hp0 from ⟨fun _ _ _ => rfl, fun _ _ _ => rfl⟩) 1
  have a1 : Kz 83 (BG1 (sz hp0 1)) := by
    have b1 := (((z0.z 2).a (x := 2) (k := 1) 3 (by decide) (by decide)).a (x := 2) (k := 2) 4 (by decide) (by decide)).r (x := 1) (j := 0) 2 (by decide) (by decide)
    have b2 := ((((b1.z 5).a (x := 5) (k := 5) 6 (by decide) (by decide)).a (x := 5) (k := 6) 7 (by decide) (by decide)).a (x := 5) (k := 7) 8 (by decide) (by decide)).r (x := 1) (j := 1) 5 (by decide) (by decide)
    have b3 := ((((b2.z 9).a (x := 9) (k := 5) 10 (by decide) (by decide)).a (x := 9) (k := 6) 11 (by decide) (by decide)).a (x := 9) (k := 7) 12 (by decide) (by decide)).r (x := 1) (j := 2) 9 (by decide) (by decide)
    have b4 := (((b3.z 13).a (x := 13) (k := 0) 14 (by decide) (by decide)).a (x := 13) (k := 1) 15 (by decide) (by decide)).r (x := 1) (j := 3) 13 (by decide) (by decide)
    exact (Kz.l (n := 16) (by decide) 8 0 (by decide) ((b4.z 16).a (x := 16) (k := 1) 17 (by decide) (by decide))).r (x := 1) (j := 4) 16 (by decide) (by decide)
  have a2 : Kz 83 (BG2 (BG1 (sz hp0 1))) := by
    have b1 := (Kz.l (N := 83) (n := 42) (by decide) 2 0 (by decide) ((a1.z 42).a (x := 42) (k := 1) 43 (by decide) (by decide))).r (x := 1) (j := 5) 42 (by decide) (by decide)
    have b2 := (((b1.z 50).a (x := 50) (k := 1) 51 (by decide) (by decide)).a (x := 50) (k := 2) 52 (by decide) (by decide)).r (x := 1) (j := 6) 50 (by decide) (by decide)
    have b3 := (((((b2.z 53).a (x := 53) (k := 2) 54 (by decide) (by decide)).a (x := 53) (k := 3) 55 (by decide) (by decide)).a (x := 53) (k := 4) 56 (by decide) (by decide)).a (x := 53) (k := 5) 57 (by decide) (by decide)).r (x := 1) (j := 7) 53 (by decide) (by decide)
    exact (((b3.z 58).a (x := 58) (k := 0) 59 (by decide) (by decide)).a (x := 58) (k := 1) 60 (by decide) (by decide)).r (x := 1) (j := 8) 58 (by decide) (by decide)
  have b1 := ((((((a2.z 61).z 62).a (x := 62) (k := 4) 63 (by decide) (by decide)).a (x := 62) (k := 5) 64 (by decide) (by decide)).a (x := 62) (k := 6) 65 (by decide) (by decide)).a (x := 62) (k := 7) 66 (by decide) (by decide)).a (x := 62) (k := 8) 67 (by decide) (by decide)
  have b2 := (((((((b1.r (x := 61) (j := 0) 62 (by decide) (by decide)).a (x := 61) (k := 1) 68 (by decide) (by decide)).a (x := 61) (k := 2) 69 (by decide) (by decide)).a (x := 61) (k := 3) 70 (by decide) (by decide)).a (x := 61) (k := 4) 71 (by decide) (by decide)).a (x := 61) (k := 5) 72 (by decide) (by decide)).a (x := 61) (k := 6) 73 (by decide) (by decide)).a (x := 61) (k := 7) 74 (by decide) (by decide)
  have b3 := ((((b2.r (x := 1) (j := 9) 61 (by decide) (by decide)).z 75).a (x := 75) (k := 5) 76 (by decide) (by decide)).a (x := 75) (k := 6) 77 (by decide) (by decide)).r (x := 1) (j := 10) 75 (by decide) (by decide)
  have b4 := (((((b3.z 78).a (x := 78) (k := 5) 79 (by decide) (by decide)).a (x := 78) (k := 7) 80 (by decide) (by decide)).a (x := 78) (k := 8) 81 (by decide) (by decide)).a (x := 78) (k := 9) 82 (by decide) (by decide)).r (x := 78) (j := 6) 61 (by decide) (by decide)
  exact b4.r (x := 1) (j := 11) 78 (by decide) (by decide)
theorem rho_k {a k : Nat} (hk : 30 ≤ k) : rho0 a k = 0 := by
  have h : ∀ a, a < 102 → (rtab.getD a []).length ≤ 30 := by decide +kernel
  unfold rho0
  rw [List.getD_eq_getElem?_getD (i := k)]
  rcases Nat.lt_or_ge a 102 with z | z
  · rw [List.getElem?_eq_none (Nat.le_trans (h a z) hk)]; rfl
  · have : rtab.getD a [] = [] := by
      rw [List.getD_eq_getElem?_getD, List.getElem?_eq_none (Nat.le_trans (by decide : rtab.length ≤ 102) z)]; rfl
    rw [this]; rfl
theorem rho_a {a k : Nat} (ha : 102 ≤ a) : rho0 a k = 0 := by
  have : rtab.getD a [] = [] := by
    rw [List.getD_eq_getElem?_getD, List.getElem?_eq_none (Nat.le_trans (by decide : rtab.length ≤ 102) ha)]; rfl
  unfold rho0
  rw [this]; rfl
theorem R97 : H97.2 = RG := by
  funext a k
  rcases Nat.lt_or_ge a 83 with ha | ha
  · rcases Nat.lt_or_ge k 30 with hk | hk
    · have : ∀ a, a < 83 → ∀ k, k < 30 → H97.2 a k = RG a k := by decide +kernel
      exact this a ha k hk
    · rw [K97.1 a k hk]
      unfold RG
      rw [if_pos ha, rho_k hk]
  · rw [K97.2 a k ha]
    unfold RG
    rw [if_neg (by omega)]
theorem X_new : f_X11_init (sz hp0 1) 1 = f_X11_init_145 FU (fun _ _ => 0, RG) 1 0 := by
  have e : f_X11_init (sz hp0 1) 1 = f_X11_init_145 FU H97 1 0 := by
    unfold f_X11_init
    generalize f_X11_init_145 FU = lf
    rfl
  have e2 : H97 = (fun _ _ => 0, RG) := Prod.ext Z97 R97
  rw [e, e2]
