/-! small functions of the class -/
theorem X_hasBit (h : Hp) (v : Int32) {k : Nat} (hk : k < 32) : f_X11_hasBit h v (I k) = some (if bt v k then 1 else 0, h) := by
  unfold f_X11_hasBit
  rw [sshr_bit v k hk]
  cases bt v k <;> rfl
theorem X_countsAs (h : Hp) {x u : Nat} (hx : x ≤ 1000) (h1 : 1 ≤ u) (h3 : u ≤ 3) : f_X11_countsAs h (I x) (I u) = some (I (cn x u), h) := by
  unfold f_X11_countsAs
  have e : u = 1 ∨ u = 2 ∨ u = 3 := by omega
  rcases e with rfl | rfl | rfl
  · rfl
  · rw [if_neg (by decide), if_pos (by decide), I_neg]; rfl
  · rw [if_neg (by decide), if_neg (by decide), I_lit, I_div2 (by omega) (by omega)]
    rfl
theorem X_canStand (h : Hp) {x u : Nat} (hx : x ≤ 1000) (h1 : 1 ≤ u) (h3 : u ≤ 3) : f_X11_canStand h (I x) (I u) = some (if cst x u then 1 else 0, h) := by
  unfold f_X11_canStand
  have e : u = 1 ∨ u = 2 ∨ u = 3 := by omega
  rcases e with rfl | rfl | rfl
  · rfl
  · rfl
  · have e2 : I x - I x / I 2 * I 2 = I ((x % 2 : Nat) : Int) := by
      rw [I_div2 (by omega) (by omega), I_mul, I_sub]
      congr 1
      omega
    rw [if_pos (by decide), I_lit, e2]
    have : x % 2 = 0 ∨ x % 2 = 1 := by omega
    rcases this with h0 | h0
    · rw [h0]
      have hc : cst x 3 = true := by unfold cst; exact decide_eq_true (Or.inr h0)
      rw [hc]; rfl
    · rw [h0]
      have hc : cst x 3 = false := by unfold cst; exact decide_eq_false (by omega)
      rw [hc]; rfl
def lastU (k : Nat) : Nat := if k = 3 then 3 else if k = 2 then 2 else 1
theorem X_lastUse (h : Hp) {k : Nat} (hk : k ≤ 3) : f_X11_lastUse h (I k) = some (I (lastU k), h) := by
  have : k = 0 ∨ k = 1 ∨ k = 2 ∨ k = 3 := by omega
  rcases this with rfl | rfl | rfl | rfl <;> rfl
section T
variable {p q w v : Nat} {ds : Nat → Nat} {g : Nat → Nat → Int32}
/-- the weights that stand in the table's row of prices -/
def PrOK (g : Nat → Nat → Int32) (wt : Nat → Nat → Int) : Prop := ∀ x u : Nat, 1 ≤ x → x ≤ 24 → 1 ≤ u → u ≤ 3 → g 67 (u * 25 + x) = I (wt x u - 1000) ∧ 1000 ≤ wt x u ∧ wt x u ≤ 1018
theorem X_weight {wt : Nat → Nat → Int} (hP : PrOK g wt) {x u : Nat} (hx : 1 ≤ x) (hx2 : x ≤ 24) (h1 : 1 ≤ u) (h3 : u ≤ 3) : f_X7_weight (g, RF p q w v ds) 62 (I x) (I u) = some (I (wt x u), (g, RF p q w v ds)) := by
  obtain ⟨e1, e2, e3⟩ := hP x u hx hx2 h1 h3
  unfold f_X7_weight
  simp only [r_61_0, r_61_1, r_61_2, r_61_3, r_61_4, r_61_5, r_61_6, r_61_7, r_62_4, r_62_5, r_62_6, r_62_7, r_62_8, k_61, n_61, k_62, n_62, k_63, n_63, k_64, n_64, k_65, n_65, k_66, n_66, k_67, n_67, k_68, n_68, k_69, n_69, k_70, n_70, k_71, n_71, k_72, n_72, k_73, n_73, k_74, n_74, gd, lt, bd_s, if_true, if_false, reduceIte, si_uc, uc_s, uc_n, upd_s, upd_n, Nat.reduceEqDiff, ne_eq, not_false_eq_true, not_true_eq_false, I_lit, I_mul, I_add]
  rw [I_inr (by omega) (by omega) (by omega), I_cl (by omega) (by omega)]
  simp only [if_true, reduceIte]
  rw [show ((u : Int) * 25 + x).toNat = u * 25 + x by omega, e1, I_add]
  congr 3
  omega
end T
