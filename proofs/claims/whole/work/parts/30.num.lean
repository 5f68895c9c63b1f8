/-! numbers: every int is I z of an integer z; bits of sets -/
def I (z : Int) : Int32 := Int32.ofInt z
theorem I_toInt {z : Int} (h1 : -2147483648 ≤ z) (h2 : z < 2147483648) : (I z).toInt = z := by
  unfold I
  rw [Int32.toInt_ofInt]
  apply Int.bmod_eq_of_le <;> simp [Int32.size] <;> omega
theorem I_of (x : Int32) : x = I x.toInt := (Int32.ofInt_toInt x).symm
theorem I_bd (x : Int32) : -2147483648 ≤ x.toInt ∧ x.toInt < 2147483648 := ⟨by have := Int32.le_toInt x; simpa using this, by have := Int32.toInt_lt x; simpa using this⟩
theorem I_add (a b : Int) : I a + I b = I (a + b) := (Int32.ofInt_add a b).symm
theorem I_sub (a b : Int) : I a - I b = I (a - b) := (Int32.ofInt_sub a b).symm
theorem I_mul (a b : Int) : I a * I b = I (a * b) := (Int32.ofInt_mul a b).symm
theorem I_neg (a : Int) : -I a = I (-a) := (Int32.ofInt_neg a).symm
theorem I_inj {a b : Int} (ha : -2147483648 ≤ a ∧ a < 2147483648) (hb : -2147483648 ≤ b ∧ b < 2147483648) : I a = I b ↔ a = b := by
  refine ⟨fun h => ?_, fun h => by rw [h]⟩
  have := congrArg Int32.toInt h
  rwa [I_toInt ha.1 ha.2, I_toInt hb.1 hb.2] at this
theorem I_lt {a b : Int} (ha : -2147483648 ≤ a ∧ a < 2147483648) (hb : -2147483648 ≤ b ∧ b < 2147483648) : I a < I b ↔ a < b := by
  rw [Int32.lt_iff_toInt_lt, I_toInt ha.1 ha.2, I_toInt hb.1 hb.2]
theorem I_le {a b : Int} (ha : -2147483648 ≤ a ∧ a < 2147483648) (hb : -2147483648 ≤ b ∧ b < 2147483648) : I a ≤ I b ↔ a ≤ b := by
  rw [Int32.le_iff_toInt_le, I_toInt ha.1 ha.2, I_toInt hb.1 hb.2]
theorem I_cl {z : Int} (h1 : -2147483648 ≤ z) (h2 : z < 2147483648) : (I z).toNatClampNeg = z.toNat := by
  show (I z).toInt.toNat = z.toNat
  rw [I_toInt h1 h2]
theorem I_inr {z : Int} {n : Nat} (h0 : 0 ≤ z) (h1 : z < n) (hn : n < 2147483648) : inr (I z) n = true := by
  simp only [inr, Bool.and_eq_true, decide_eq_true_eq]
  rw [I_toInt (by omega) (by omega)]
  exact ⟨h0, h1⟩
theorem I_inrN {z : Int} {n : Nat} (h : z < 0 ∨ (n : Int) ≤ z) (hz : -2147483648 ≤ z ∧ z < 2147483648) : ¬ inr (I z) n = true := by
  simp only [inr, Bool.and_eq_true, decide_eq_true_eq]
  rw [I_toInt hz.1 hz.2]
  omega
theorem I_nI (n : Nat) : nI n = I n := by
  unfold nI I
  first | exact Int32.ofInt_eq_ofNat.symm | exact (Int32.ofInt_eq_ofNat n).symm | rfl | (apply Int32.toBitVec_inj.mp; simp)
theorem I_div2 {a : Int} (h0 : 0 ≤ a) (h1 : a < 2147483648) : I a / I 2 = I (a / 2) := by
  apply Int32.toInt_inj.mp
  rw [Int32.toInt_div, I_toInt (by omega) (by omega), I_toInt (by omega) (by omega), I_toInt (by omega) (by omega)]
  rw [Int.tdiv_eq_ediv_of_nonneg h0]
  apply Int.bmod_eq_of_le <;> simp [Int32.size] <;> omega
theorem I_divn {a b : Int} (h0 : 0 ≤ a) (h1 : a < 2147483648) (hb : 0 < b) (hb2 : b < 2147483648) : I a / I b = I (a / b) := by
  have hd : a / b ≤ a := Int.ediv_le_self _ h0
  have hd0 : 0 ≤ a / b := Int.ediv_nonneg h0 (by omega)
  apply Int32.toInt_inj.mp
  rw [Int32.toInt_div, I_toInt (by omega) (by omega), I_toInt (by omega) (by omega), I_toInt (by omega) (by omega)]
  rw [Int.tdiv_eq_ediv_of_nonneg h0]
  apply Int.bmod_eq_of_le <;> simp [Int32.size] <;> omega
/-! bits -/
def bt (x : Int32) (i : Nat) : Bool := x.toBitVec.getLsbD i
theorem bt_ext {x y : Int32} (h : ∀ i, i < 32 → bt x i = bt y i) : x = y := by
  apply Int32.toBitVec_inj.mp
  apply BitVec.eq_of_getLsbD_eq
  exact h
theorem bt_or (x y : Int32) (i : Nat) : bt (x ||| y) i = (bt x i || bt y i) := by simp [bt]
theorem bt_and (x y : Int32) (i : Nat) : bt (x &&& y) i = (bt x i && bt y i) := by simp [bt]
theorem bt_xor (x y : Int32) (i : Nat) : bt (x ^^^ y) i = (bt x i ^^ bt y i) := by simp [bt]
theorem bt_big {x : Int32} {i : Nat} (h : 32 ≤ i) : bt x i = false := BitVec.getLsbD_of_ge _ _ h
theorem bt_0 (i : Nat) : bt 0 i = false := by simp [bt]
theorem bt_m1 {i : Nat} (h : i < 32) : bt (-1) i = true := by
  have : ∀ j, j < 32 → bt (-1) j = true := by decide
  exact this i h
theorem bt_not {x : Int32} {i : Nat} (h : i < 32) : bt (x ^^^ (-1)) i = !bt x i := by rw [bt_xor, bt_m1 h]; simp
theorem bt_sh {k i : Nat} (hk : k < 32) (hi : i < 32) : bt ((1 : Int32) <<< (I k &&& 31)) i = decide (i = k) := by
  have : ∀ k : Nat, k < 32 → ∀ i : Nat, i < 32 → bt ((1 : Int32) <<< (I k &&& 31)) i = decide (i = k) := by decide +kernel
  exact this k hk i hi
def b1 (k : Nat) : Int32 := (1 : Int32) <<< (I k &&& 31)
theorem bt_b1 {k i : Nat} (hk : k < 32) (hi : i < 32) : bt (b1 k) i = decide (i = k) := bt_sh hk hi
theorem sshr_bit (x : Int32) : ∀ k : Nat, k < 32 → ((x >>> (I k &&& 31)) &&& 1 = if bt x k then 1 else 0) := by
  intro k hk
  have e : ∀ k : Nat, k < 32 → ((I k &&& 31).toBitVec.smod 32).toNat = k := by decide +kernel
  apply bt_ext
  intro i hi
  rw [bt_and]
  have h1 : ∀ j, j < 32 → bt 1 j = decide (j = 0) := by decide
  rw [h1 i hi]
  by_cases hi0 : i = 0
  · subst hi0
    simp only [decide_true, Bool.and_true]
    have : bt (x >>> (I k &&& 31)) 0 = bt x k := by
      unfold bt
      rw [Int32.toBitVec_shiftRight, BitVec.sshiftRight_eq', BitVec.getLsbD_sshiftRight]
      rw [e k hk]
      simp [hk]
    rw [this]
    cases bt x k <;> simp [bt]
  · simp only [hi0, decide_false, Bool.and_false]
    split
    · rw [h1 i hi]; simp [hi0]
    · rw [bt_0]
