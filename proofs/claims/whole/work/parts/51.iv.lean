/-! the invariant -/
def DSP (ds : Nat → Nat) : Prop := (∀ k, k < 8 → ∃ t, t < 8 ∧ ds k = 18 + 3 * t) ∧ (∀ j k, j < 8 → k < 8 → ds j = ds k → j = k)
def PP (g : Nat → Nat → Int32) (ds : Nat → Nat) (n np : Nat) : Prop := ∃ m : Nat, m ≤ 8 ∧ g 16 0 = I m ∧ g 83 5 = I m ∧ ∀ k, k < m → DR (g (ds k)) (g (ds k + 1)) (g (ds k + 2)) (fun j => g 87 (51 * k + j)) ∧ DW (fun j => g 87 (51 * k + j)) n np
def KP (g : Nat → Nat → Int32) (n np : Nat) : Prop := ∃ m : Nat, m ≤ 2 ∧ g 42 0 = I m ∧ g 83 7 = I m ∧ ∀ k, k < m → DR (g (44 + 3 * k)) (g (44 + 3 * k + 1)) (g (44 + 3 * k + 2)) (fun j => g 88 (51 * k + j)) ∧ DW (fun j => g 88 (51 * k + j)) n np
def WP (g : Nat → Nat → Int32) (n : Nat) : Prop := ∃ m : Nat, m ≤ 10 ∧ g 50 0 = I m ∧ g 83 14 = I m ∧ ∀ k, k < m → ∃ x u : Nat, (1 ≤ x ∧ x ≤ n) ∧ (1 ≤ u ∧ u ≤ 3) ∧ g 51 k = I x ∧ g 52 k = I u ∧ g 91 (2 * k) = I x ∧ g 91 (2 * k + 1) = I u
def BP (g : Nat → Nat → Int32) (n : Nat) : Prop := ∃ m : Nat, m ≤ 6 ∧ g 53 0 = I m ∧ g 83 27 = I m ∧ ∀ k, k < m → g 54 k = g 99 k ∧ g 99 k ≠ 0 ∧ LO n (g 99 k)
def TP (g : Nat → Nat → Int32) : Prop := ∃ m : Nat, m ≤ 200 ∧ g 2 0 = I m ∧ g 83 9 = I m ∧ ∀ k, k < m → ∃ c : Nat, c < 128 ∧ g 3 k = I c ∧ g 89 k = I c
def IV (g : Nat → Nat → Int32) (p q w v : Nat) (ds : Nat → Nat) (n np kind : Nat) : Prop := ((p = 5 ∧ q = 9) ∨ (p = 9 ∧ q = 5)) ∧ ((w = 59 ∧ v = 60) ∨ (w = 60 ∧ v = 59)) ∧ 1 ≤ np ∧ XI g p (g 84) (g 86) n np kind ∧ g 83 12 = I ((0 : Nat) : Int) ∧ DSP ds ∧ PP g ds n np ∧ KP g n np ∧ WP g n ∧ BP g n ∧ TP g
def Inv (h : Hp) : Prop := ∃ (g : Nat → Nat → Int32) (p q w v : Nat) (ds : Nat → Nat) (n np kind : Nat), h = (g, RF p q w v ds) ∧ IV g p q w v ds n np kind
/-- cells that hold nothing between two calls (of 53 and 83 some fields do) -/
def volb (a : Nat) : Bool := decide (a = 4 ∨ a = 53 ∨ (55 ≤ a ∧ a ≤ 83) ∨ a = 85 ∨ (92 ≤ a ∧ a ≤ 98) ∨ 100 ≤ a)
def NV (q : Nat) (g g' : Nat → Nat → Int32) : Prop := ∀ a, volb a = false → (a < q ∨ q + 3 < a) → g' a = g a
theorem NV.rf {q : Nat} {g : Nat → Nat → Int32} : NV q g g := fun _ _ _ => rfl
theorem NV.tr {q : Nat} {g g' g'' : Nat → Nat → Int32} (h : NV q g g') (h' : NV q g' g'') : NV q g g'' := fun a h1 h2 => (h' a h1 h2).trans (h a h1 h2)
theorem Sb.nv {q : Nat} {A : List Nat} {g g' : Nat → Nat → Int32} (h : Sb A g g') (hA : A.all volb = true) : NV q g g' := fun a h1 _ => h a (fun z => by
  have := List.all_eq_true.mp hA a z
  rw [h1] at this
  cases this)
theorem NV.at {q : Nat} {g g' : Nat → Nat → Int32} (h : NV q g g') (hq : q = 5 ∨ q = 9) {a : Nat} (h1 : 13 ≤ a) (h2 : (13 ≤ a ∧ a ≤ 52) ∨ a = 54 ∨ a = 84 ∨ (86 ≤ a ∧ a ≤ 91) ∨ a = 99) : g' a = g a := h a (by unfold volb; exact decide_eq_false (by omega)) (by omega)
/-- the fields of the reference that hold something between two calls -/
def S83 : List Nat := [5, 7, 9, 12, 14, 27]
theorem SX.same {g g' : Nat → Nat → Int32} {M : Nat → Int32} {n : Nat} (h : SX M n g) (hS : ∀ a, 61 ≤ a → a ≤ 74 → g' a = g a) : SX M n g' := by
  obtain ⟨h1, h2, h3, h4⟩ := h
  refine ⟨fun x u a b c d => by rw [hS 67 (by decide) (by decide)]; exact h1 x u a b c d, ?_, fun a s x1 x2 x3 x4 => ?_, fun a x1 x2 => by rw [hS 74 (by decide) (by decide)]; exact h4 a x1 x2⟩
  · exact h2.same (hS 62 (by decide) (by decide)) (hS 63 (by decide) (by decide)) (hS 64 (by decide) (by decide)) (hS 65 (by decide) (by decide)) (hS 66 (by decide) (by decide))
  · have := h3 a s x1 x2 x3 x4
    unfold SLT ENT at *
    simp only [hS 68 (by decide) (by decide), hS 69 (by decide) (by decide), hS 70 (by decide) (by decide), hS 71 (by decide) (by decide), hS 72 (by decide) (by decide), hS 73 (by decide) (by decide)]
    exact this
theorem XI.nv {g g' : Nat → Nat → Int32} {p q : Nat} {M T : Nat → Int32} {n np kind : Nat} (hpq : (p = 5 ∧ q = 9) ∨ (p = 9 ∧ q = 5)) (h : XI g p M T n np kind) (hS : NV q g g') (hX : SX M n g') : XI g' p M T n np kind := by
  obtain ⟨hp, hM, hD, hR, hE, -⟩ := h
  have hq : q = 5 ∨ q = 9 := by omega
  have e : ∀ k, k < 4 → g' (p + k) = g (p + k) := fun k hk => hS _ (by unfold volb; exact decide_eq_false (by omega)) (by omega)
  refine ⟨hp, hM, hD, ?_, ?_, hX⟩
  · rw [e 1 (by decide), e 2 (by decide), e 3 (by decide), show g' p = g p from e 0 (by decide)]
    exact hR
  · rw [hS.at hq (a := 13) (by decide) (by decide), hS.at hq (a := 14) (by decide) (by decide), hS.at hq (a := 15) (by decide) (by decide)]
    exact hE
theorem IV.keep {g g' : Nat → Nat → Int32} {p q w v w' v' : Nat} {ds : Nat → Nat} {n np kind : Nat} (h : IV g p q w v ds n np kind) (hS : NV q g g') (h53 : g' 53 0 = g 53 0) (h83 : ∀ j, j ∈ S83 → g' 83 j = g 83 j) (hX : SX (g 84) n g') (hw : (w' = 59 ∧ v' = 60) ∨ (w' = 60 ∧ v' = 59)) : IV g' p q w' v' ds n np kind := by
  obtain ⟨hpq, -, h1, hXI, hfr, hds, ⟨m1, a1, a2, a3, a4⟩, ⟨m2, b1', b2, b3, b4⟩, ⟨m3, c1, c2, c3, c4⟩, ⟨m4, d1, d2, d3, d4⟩, ⟨m5, e1, e2, e3, e4⟩⟩ := h
  have hq : q = 5 ∨ q = 9 := by omega
  have e84 : g' 84 = g 84 := hS.at hq (by decide) (by decide)
  have e86 : g' 86 = g 86 := hS.at hq (by decide) (by decide)
  have e87 : g' 87 = g 87 := hS.at hq (by decide) (by decide)
  have e88 : g' 88 = g 88 := hS.at hq (by decide) (by decide)
  have e89 : g' 89 = g 89 := hS.at hq (by decide) (by decide)
  have e91 : g' 91 = g 91 := hS.at hq (by decide) (by decide)
  have e99 : g' 99 = g 99 := hS.at hq (by decide) (by decide)
  have t2 : g' 2 = g 2 := hS 2 (by decide) (by omega)
  have t3 : g' 3 = g 3 := hS 3 (by decide) (by omega)
  refine ⟨hpq, hw, h1, ?_, by rw [h83 12 (by decide)]; exact hfr, hds, ⟨m1, a1, ?_, by rw [h83 5 (by decide)]; exact a3, fun k hk => ?_⟩, ⟨m2, b1', ?_, by rw [h83 7 (by decide)]; exact b3, fun k hk => ?_⟩, ⟨m3, c1, ?_, by rw [h83 14 (by decide)]; exact c3, fun k hk => ?_⟩, ⟨m4, d1, by rw [h53]; exact d2, by rw [h83 27 (by decide)]; exact d3, fun k hk => ?_⟩, ⟨m5, e1, by rw [t2]; exact e2, by rw [h83 9 (by decide)]; exact e3, fun k hk => ?_⟩⟩
  · rw [e84, e86]; exact hXI.nv hpq hS hX
  · rw [hS.at hq (a := 16) (by decide) (by decide)]; exact a2
  · obtain ⟨t, ht, et⟩ := hds.1 k (by omega)
    rw [e87, hS.at hq (a := ds k) (by omega) (by omega), hS.at hq (a := ds k + 1) (by omega) (by omega), hS.at hq (a := ds k + 2) (by omega) (by omega)]
    exact a4 k hk
  · rw [hS.at hq (a := 42) (by decide) (by decide)]; exact b2
  · rw [e88, hS.at hq (a := 44 + 3 * k) (by omega) (by omega), hS.at hq (a := 44 + 3 * k + 1) (by omega) (by omega), hS.at hq (a := 44 + 3 * k + 2) (by omega) (by omega)]
    exact b4 k hk
  · rw [hS.at hq (a := 50) (by decide) (by decide)]; exact c2
  · rw [e91, hS.at hq (a := 51) (by decide) (by decide), hS.at hq (a := 52) (by decide) (by decide)]
    exact c4 k hk
  · rw [e99, hS.at hq (a := 54) (by decide) (by decide)]
    exact d4 k hk
  · rw [e89, t3]
    exact e4 k hk
/-- what the reference's questions may change -/
def MKL : List Nat := [83, 85, 92, 93, 94, 95, 96, 97, 98, 100, 101]
def MK (g g' : Nat → Nat → Int32) : Prop := Sb MKL g g' ∧ ∀ j, j ∈ S83 → g' 83 j = g 83 j
theorem MK.rf {g : Nat → Nat → Int32} : MK g g := ⟨Sb.rf, fun _ _ => rfl⟩
theorem MK.tr {g g' g'' : Nat → Nat → Int32} (h : MK g g') (h' : MK g' g'') : MK g g'' := ⟨Sb.tr h.1 h'.1, fun j hj => (h'.2 j hj).trans (h.2 j hj)⟩
theorem MF.mk {g g' : Nat → Nat → Int32} (h : MF g g') : MK g g' := ⟨h.2.mono (by decide), fun j hj => h.1 j (by unfold S83 at hj; simp only [List.mem_cons, List.not_mem_nil, or_false] at hj; omega)⟩
theorem MK.up {g : Nat → Nat → Int32} {k : Nat} {x : Int32} (h : k ∉ S83) : MK g (uc g 83 (upd (g 83) k x)) := ⟨Sb.rf.uc (by decide), fun j hj => by rw [uc_s, upd_n (fun e => h (by rw [← e]; exact hj))]⟩
/-- the cells of the questions, on the other side -/
def XK (q : Nat) (g g' : Nat → Nat → Int32) : Prop := NV q g g' ∧ g' 53 0 = g 53 0 ∧ g' 83 = g 83
theorem IV.fin {g g1 g2 : Nat → Nat → Int32} {p q w v w' v' : Nat} {ds : Nat → Nat} {n np kind : Nat} (h : IV g p q w v ds n np kind) (hX : XK q g g1) (hS : SX (g 84) n g1) (hM : MK g1 g2) (hw : (w' = 59 ∧ v' = 60) ∨ (w' = 60 ∧ v' = 59)) : IV g2 p q w' v' ds n np kind := by
  refine h.keep (hX.1.tr (hM.1.nv (by decide))) ?_ (fun j hj => by rw [hM.2 j hj, hX.2.2]) (hS.same (fun a h1 h2 => hM.1 a (by unfold MKL; simp only [List.mem_cons, List.not_mem_nil, or_false]; omega))) hw
  rw [hM.1 53 (by decide)]
  exact hX.2.1
theorem Sb.xk {q : Nat} {A : List Nat} {g g' : Nat → Nat → Int32} (h : Sb A g g') (hA : A.all (fun a => volb a && decide (a ≠ 53) && decide (a ≠ 83)) = true) : XK q g g' := by
  have hn : ∀ a, a ∈ A → volb a = true ∧ a ≠ 53 ∧ a ≠ 83 := fun a ha => by
    have := List.all_eq_true.mp hA a ha
    simp only [Bool.and_eq_true, decide_eq_true_eq] at this
    exact ⟨this.1.1, this.1.2, this.2⟩
  refine ⟨h.nv (List.all_eq_true.mpr (fun a ha => (hn a ha).1)), by rw [h 53 (fun z => (hn 53 z).2.1 rfl)], h 83 (fun z => (hn 83 z).2.2 rfl)⟩
theorem XK.rf {q : Nat} {g : Nat → Nat → Int32} : XK q g g := ⟨NV.rf, rfl, rfl⟩
theorem XK.tr {q : Nat} {g g' g'' : Nat → Nat → Int32} (h : XK q g g') (h' : XK q g' g'') : XK q g g'' := ⟨h.1.tr h'.1, h'.2.1.trans h.2.1, h'.2.2.trans h.2.2⟩
