/-! the table: its rows -/
def tix (k : Nat) (s : Int) : Nat := ((k : Int) * 601 + 300 + s).toNat
theorem tix_inj {k k' : Nat} {s s' : Int} (h : -300 ≤ s ∧ s ≤ 300) (h' : -300 ≤ s' ∧ s' ≤ 300) (e : tix k s = tix k' s') : k = k' ∧ s = s' := by
  unfold tix at e
  have e2 : (k : Int) * 601 + 300 + s = (k' : Int) * 601 + 300 + s' := by omega
  have : (k : Int) = k' := by omega
  exact ⟨by omega, by omega⟩
section T
variable {p q w v : Nat} {ds : Nat → Nat}
/-- what spread does to a row: sums from a to b get the less of what stands and what stands in the next row, c lower, with a weight more -/
def spr (f : Nat → Int32) (k : Nat) (c wgt a b : Int) : Nat → Int32 := fun j => if ∃ s : Int, a ≤ s ∧ s ≤ b ∧ j = tix k s then (if f j ≤ f (tix (k + 1) ((j : Int) - (k : Int) * 601 - 300 - c)) + I wgt then f j else f (tix (k + 1) ((j : Int) - (k : Int) * 601 - 300 - c)) + I wgt) else f j
theorem X_spr_lp (k : Nat) (c wgt b : Int) (hk : k + 1 ≤ 24) (hb : b ≤ 300) (hcb : b - c ≤ 300) : ∀ (m fu : Nat) (a : Int) (g : Nat → Nat → Int32), m < fu → -300 ≤ a → -300 ≤ a - c → a ≤ 1000 → b + 1 - a ≤ m →
    (∀ s, a ≤ s → s ≤ b → ∃ y z : Int, g 63 (tix k s) = I y ∧ g 63 (tix (k + 1) (s - c)) = I z ∧ 0 ≤ y ∧ y ≤ INF ∧ 0 ≤ z ∧ z ≤ INF) → 0 ≤ wgt → wgt ≤ 2000 →
    ∃ g', f_X7_spread_63 fu (g, RF p q w v ds) 62 (I wgt) (I b) (I ((k : Int) * 601 + 300)) (I ((k : Int) * 601 + 300 + 601 - c)) (I a) = some ((), (g', RF p q w v ds)) ∧ Sb [63] g g' ∧
      (∀ s y z, a ≤ s → s ≤ b → g 63 (tix k s) = I y → g 63 (tix (k + 1) (s - c)) = I z → 0 ≤ y → y ≤ INF → 0 ≤ z → z ≤ INF → g' 63 (tix k s) = I (min y (z + wgt))) ∧ (∀ j, (∀ s, a ≤ s → s ≤ b → j ≠ tix k s) → g' 63 j = g 63 j) := by
  intro m
  induction m with
  | zero =>
    intro fu a g hf ha hac ha2 hm hv hw0 hw1
    obtain ⟨fu, rfl⟩ : ∃ k, fu = k + 1 := ⟨fu - 1, by omega⟩
    by_cases hb2 : -2000 ≤ b
    · have c1 : I b < I a := (I_lt (by omega) (by omega)).mpr (by omega)
      refine ⟨g, by simp only [f_X7_spread_63, if_pos c1], Sb.rf, fun s y z h1 h2 => absurd h2 (by omega), fun _ _ => rfl⟩
    · sorry
  | succ m ih =>
    intro fu a g hf ha hac ha2 hm hv hw0 hw1
    obtain ⟨fu, rfl⟩ : ∃ k, fu = k + 1 := ⟨fu - 1, by omega⟩
    sorry
end T
