/-! loops, counts of bits, sets by their bits -/
theorem lpx {σ β : Type} (Φ : Nat → σ → Nat → Option β) (P : Nat → σ → Prop) (Q : β → Prop) {b : Nat}
    (step : ∀ k s fu, k < b → P k s → (∃ r, Φ (fu + 1) s k = some r ∧ Q r) ∨ (∃ s', Φ (fu + 1) s k = Φ fu s' (k + 1) ∧ P (k + 1) s'))
    (exit : ∀ s fu, P b s → ∃ r, Φ (fu + 1) s b = some r ∧ Q r) : ∀ (m fu k : Nat) (s : σ), m < fu → k + m = b → P k s → ∃ r, Φ fu s k = some r ∧ Q r := by
  intro m
  induction m with
  | zero =>
    intro fu k s hf hk hP
    obtain ⟨fu, rfl⟩ : ∃ k, fu = k + 1 := ⟨fu - 1, by omega⟩
    have : k = b := by omega
    subst this
    exact exit s fu hP
  | succ m ih =>
    intro fu k s hf hk hP
    obtain ⟨fu, rfl⟩ : ∃ k, fu = k + 1 := ⟨fu - 1, by omega⟩
    rcases step k s fu (by omega) hP with h | ⟨s', e, h⟩
    · exact h
    · rw [e]
      exact ih fu (k + 1) s' (by omega) (by omega) h
/-- the same, where the loop goes on to something else -/
theorem lpg {σ β : Type} (Φ : Nat → σ → Nat → Option β) (P : Nat → σ → Prop) {b : Nat}
    (step : ∀ k s fu, k < b → P k s → ∃ s', Φ (fu + 1) s k = Φ fu s' (k + 1) ∧ P (k + 1) s') : ∀ (m fu k : Nat) (s : σ), m < fu → k + m = b → P k s → ∃ s' fu', Φ fu s k = Φ (fu' + 1) s' b ∧ P b s' := by
  intro m
  induction m with
  | zero =>
    intro fu k s hf hk hP
    obtain ⟨fu, rfl⟩ : ∃ k, fu = k + 1 := ⟨fu - 1, by omega⟩
    have : k = b := by omega
    subst this
    exact ⟨s, fu, rfl, hP⟩
  | succ m ih =>
    intro fu k s hf hk hP
    obtain ⟨fu, rfl⟩ : ∃ k, fu = k + 1 := ⟨fu - 1, by omega⟩
    obtain ⟨s', e, h⟩ := step k s fu (by omega) hP
    rw [e]
    exact ih fu (k + 1) s' (by omega) (by omega) h
theorem I_s (k : Nat) : I (k : Int) + 1 = I ((k + 1 : Nat) : Int) := by
  show I (k : Int) + I 1 = _
  rw [I_add]; rfl
theorem I_p {k : Nat} (h : 1 ≤ k) : I (k : Int) - 1 = I ((k - 1 : Nat) : Int) := by
  show I (k : Int) - I 1 = _
  rw [I_sub]
  congr 1
  omega
theorem I_in {k n : Nat} (h : k < n) (hn : n < 1000000) : inr (I (k : Int)) n = true := I_inr (by omega) (by omega) (by omega)
theorem I_ix {k : Nat} (h : k < 1000000) : (I (k : Int)).toNatClampNeg = k := by rw [I_cl (by omega) (by omega)]; omega
theorem I_ltn {a b : Nat} (ha : a < 1000000) (hb : b < 1000000) : (I (a : Int) < I (b : Int)) = (a < b) := propext ((I_lt (by omega) (by omega)).trans (by omega))
theorem I_len {a b : Nat} (ha : a < 1000000) (hb : b < 1000000) : (I (a : Int) ≤ I (b : Int)) = (a ≤ b) := propext ((I_le (by omega) (by omega)).trans (by omega))
theorem I_eqn {a b : Nat} (ha : a < 1000000) (hb : b < 1000000) : (I (a : Int) = I (b : Int)) = (a = b) := propext ((I_inj (by omega) (by omega)).trans (by omega))
theorem I_ln (n : Nat) : (OfNat.ofNat n : Int32) = I ((OfNat.ofNat n : Nat) : Int) := (I_nI n)
/-! the number of bits -/
def pc : Nat → Int32 → Nat
  | 0, _ => 0
  | n + 1, x => pc n x + (if bt x n then 1 else 0)
theorem pc_le (n : Nat) (x : Int32) : pc n x ≤ n := by
  induction n with
  | zero => exact Nat.le_refl _
  | succ n ih => unfold pc; split <;> omega
theorem pc_more {n : Nat} {x : Int32} (m : Nat) (h : ∀ i, n ≤ i → bt x i = false) : pc (n + m) x = pc n x := by
  induction m with
  | zero => rfl
  | succ m ih =>
    show pc (n + m) x + (if bt x (n + m) then 1 else 0) = _
    rw [ih, h (n + m) (by omega)]
    rfl
def tn (x : Int32) : Nat := x.toBitVec.toNat
theorem tn_lt (x : Int32) : tn x < 4294967296 := x.toBitVec.isLt
theorem tn_and (x y : Int32) : tn (x &&& y) = tn x &&& tn y := by unfold tn; rw [Int32.toBitVec_and, BitVec.toNat_and]
theorem tn_add (x y : Int32) : tn (x + y) = (tn x + tn y) % 4294967296 := by unfold tn; rw [Int32.toBitVec_add, BitVec.toNat_add]
theorem tn_sub (x y : Int32) : tn (x - y) = (4294967296 - tn y + tn x) % 4294967296 := by unfold tn; rw [Int32.toBitVec_sub, BitVec.toNat_sub]
theorem tn_su : ∀ n, n < 32 → (((nI n).toUInt32 &&& Int32.toUInt32 31).toBitVec % 32).toNat = n := by decide +kernel
theorem tn_sh {n : Nat} (hn : n < 32) (x : Int32) : tn ((x.toUInt32 >>> ((nI n).toUInt32 &&& Int32.toUInt32 31)).toInt32) = tn x / 2 ^ n := by
  show (x.toUInt32 >>> ((nI n).toUInt32 &&& Int32.toUInt32 31)).toBitVec.toNat = x.toUInt32.toBitVec.toNat / 2 ^ n
  rw [UInt32.toBitVec_shiftRight]
  show (x.toUInt32.toBitVec >>> (((nI n).toUInt32 &&& Int32.toUInt32 31).toBitVec % 32).toNat).toNat = _
  rw [tn_su n hn, BitVec.toNat_ushiftRight, Nat.shiftRight_eq_div_pow]
theorem tn_bt (x : Int32) (i : Nat) : (if bt x i then 1 else 0) = tn x / 2 ^ i % 2 := by
  unfold bt tn
  rw [BitVec.getLsbD, Nat.testBit_eq_decide_div_mod_eq]
  have := Nat.mod_two_eq_zero_or_one (x.toBitVec.toNat / 2 ^ i)
  rcases this with h | h <;> simp [h]
theorem land16 (A M : Nat) : A &&& M = 16 * ((A / 16) &&& (M / 16)) + ((A % 16) &&& (M % 16)) := by
  have h1 := Nat.div_add_mod (A &&& M) 16
  have h2 : (A &&& M) / 16 = A / 16 &&& M / 16 := Nat.and_div_two_pow (n := 4)
  have h3 : (A &&& M) % 16 = A % 16 &&& M % 16 := Nat.and_mod_two_pow (n := 4)
  omega
theorem land2 {r m : Nat} (q M : Nat) (hr : r < 16) (hm : m < 16) : (r + 16 * q) &&& (m + 16 * M) = (r &&& m) + 16 * (q &&& M) := by
  rw [land16, show (r + 16 * q) / 16 = q by omega, show (m + 16 * M) / 16 = M by omega, show (r + 16 * q) % 16 = r by omega, show (m + 16 * M) % 16 = m by omega]
  omega
theorem lm5 : ∀ a, a < 16 → a &&& 5 = a % 2 + 4 * (a / 4 % 2) := by decide
theorem lm3 : ∀ a, a < 16 → a &&& 3 = a % 4 := by decide
theorem lmf : ∀ a, a < 16 → a &&& 15 = a := by decide
theorem lm0 : ∀ a, a < 16 → a &&& 0 = 0 := by decide
/-- digits of four bits -/
def dg (f : Nat → Nat) : Nat → Nat → Nat
  | 0, _ => 0
  | k + 1, A => f (A % 16) + 16 * dg f k (A / 16)
def rep (m : Nat) : Nat → Nat
  | 0 => 0
  | k + 1 => m + 16 * rep m k
theorem land_rep {m : Nat} (hm : m < 16) : ∀ k A, A &&& rep m k = dg (fun a => a &&& m) k A := by
  intro k
  induction k with
  | zero => intro A; exact Nat.and_zero A
  | succ k ih =>
    intro A
    rw [land16, show rep m (k + 1) = m + 16 * rep m k from rfl, show (m + 16 * rep m k) / 16 = rep m k by omega, show (m + 16 * rep m k) % 16 = m by omega, ih]
    show _ = (A % 16 &&& m) + 16 * dg _ k (A / 16)
    omega
def t1 (a : Nat) : Nat := a - ((a / 2) &&& 5)
theorem t1_a : ∀ b, b < 2 → ∀ r, r < 16 → (8 * b + r / 2) &&& 5 = (r / 2) &&& 5 := by decide
theorem t1_b : ∀ r, r < 16 → t1 r + ((r / 2) &&& 5) = r ∧ t1 r < 16 := by decide
theorem T1 : ∀ k A, A < 16 ^ k → A = dg t1 k A + dg (fun a => a &&& 5) k (A / 2) := by
  intro k
  induction k with
  | zero => intro A h; have : A = 0 := by simpa using h
            subst this; rfl
  | succ k ih =>
    intro A h
    have h1 := ih (A / 16) (by rw [Nat.pow_succ] at h; omega)
    have h2 := t1_a (A / 16 % 2) (by omega) (A % 16) (by omega)
    have h3 := t1_b (A % 16) (by omega)
    show A = (t1 (A % 16) + 16 * dg t1 k (A / 16)) + ((A / 2 % 16 &&& 5) + 16 * dg (fun a => a &&& 5) k (A / 2 / 16))
    rw [show A / 2 / 16 = A / 16 / 2 by omega, show A / 2 % 16 = 8 * (A / 16 % 2) + A % 16 / 2 by omega, h2]
    omega
theorem t2_a : ∀ b, b < 4 → ∀ r, r < 16 → (4 * b + r / 4) &&& 3 = r / 4 := by decide
theorem T2 : ∀ k A, dg (fun a => a &&& 3) k (A / 4) = dg (fun a => a / 4) k A := by
  intro k
  induction k with
  | zero => intro A; rfl
  | succ k ih =>
    intro A
    have h1 := ih (A / 16)
    have h2 := t2_a (A / 16 % 4) (by omega) (A % 16) (by omega)
    show ((A / 4 % 16 &&& 3) + 16 * dg (fun a => a &&& 3) k (A / 4 / 16)) = (A % 16 / 4) + 16 * dg (fun a => a / 4) k (A / 16)
    rw [show A / 4 / 16 = A / 16 / 4 by omega, show A / 4 % 16 = 4 * (A / 16 % 4) + A % 16 / 4 by omega, h2, h1]
theorem dg_dg {f h : Nat → Nat} (hh : ∀ a, a < 16 → h a < 16) : ∀ k A, dg f k (dg h k A) = dg (fun a => f (h a)) k A := by
  intro k
  induction k with
  | zero => intro A; rfl
  | succ k ih =>
    intro A
    have h1 := hh (A % 16) (by omega)
    show f ((h (A % 16) + 16 * dg h k (A / 16)) % 16) + 16 * dg f k ((h (A % 16) + 16 * dg h k (A / 16)) / 16) = f (h (A % 16)) + 16 * dg (fun a => f (h a)) k (A / 16)
    rw [show (h (A % 16) + 16 * dg h k (A / 16)) % 16 = h (A % 16) by omega, show (h (A % 16) + 16 * dg h k (A / 16)) / 16 = dg h k (A / 16) by omega, ih]
def p4 (a : Nat) : Nat := (t1 a &&& 3) + t1 a / 4
theorem p4_e : ∀ a, a < 16 → p4 a = a % 2 + a / 2 % 2 + a / 4 % 2 + a / 8 % 2 := by decide
theorem pc_nib (A : Nat) : A % 2 + A / 2 % 2 + A / 4 % 2 + A / 8 % 2 = p4 (A % 16) := by
  rw [p4_e _ (by omega)]
  omega
theorem dg_add (f h : Nat → Nat) : ∀ k A, dg f k A + dg h k A = dg (fun a => f a + h a) k A := by
  intro k
  induction k with
  | zero => intro A; rfl
  | succ k ih =>
    intro A
    have := ih (A / 16)
    show (f (A % 16) + 16 * dg f k (A / 16)) + (h (A % 16) + 16 * dg h k (A / 16)) = (f (A % 16) + h (A % 16)) + 16 * dg (fun a => f a + h a) k (A / 16)
    omega
theorem dg_lt {f : Nat → Nat} (hf : ∀ a, a < 16 → f a < 16) : ∀ k A, dg f k A < 16 ^ k := by
  intro k
  induction k with
  | zero => intro A; exact Nat.one_pos
  | succ k ih =>
    intro A
    have h1 := ih (A / 16)
    have h2 := hf (A % 16) (by omega)
    show f (A % 16) + 16 * dg f k (A / 16) < 16 ^ (k + 1)
    rw [Nat.pow_succ]
    omega
theorem fc_dv (r q : Nat) (h : r < 16) : (r + 16 * q) / 16 = q := by omega
theorem fc_db (r q : Nat) (h : r < 256) : (r + 256 * q) / 256 = q := by omega
theorem fc_lo (r q M : Nat) (h : r < 16) : (r + 16 * q) &&& (0 + 16 * M) = 16 * (q &&& M) := by rw [land2 q M h (by decide), Nat.and_zero, Nat.zero_add]
theorem fc_li (r q M : Nat) (h : r < 16) : (r + 16 * q) &&& (15 + 16 * M) = r + 16 * (q &&& M) := by rw [land2 q M h (by decide), lmf _ h]
theorem fc_63 (A : Nat) : A &&& 63 = A % 64 := Nat.and_two_pow_sub_one_eq_mod A 6
theorem fc_1 (z0 z1 z2 z3 z4 z5 z6 z7 : Nat) (h : z0 ≤ 4 ∧ z1 ≤ 4 ∧ z2 ≤ 4 ∧ z3 ≤ 4 ∧ z4 ≤ 4 ∧ z5 ≤ 4 ∧ z6 ≤ 4 ∧ z7 ≤ 4) : ((z0 + 16 * (z1 + 16 * (z2 + 16 * (z3 + 16 * (z4 + 16 * (z5 + 16 * (z6 + 16 * (z7)))))))) + (z0 + 16 * (z1 + 16 * (z2 + 16 * (z3 + 16 * (z4 + 16 * (z5 + 16 * (z6 + 16 * (z7)))))))) / 16) % 4294967296 = (z0 + z1) + 16 * ((z1 + z2) + 16 * ((z2 + z3) + 16 * ((z3 + z4) + 16 * ((z4 + z5) + 16 * ((z5 + z6) + 16 * ((z6 + z7) + 16 * (z7))))))) := by
  rw [fc_dv _ _ (by omega), Nat.mod_eq_of_lt (by omega)]
  omega
theorem fc_2 (z0 z1 z2 z3 z4 z5 z6 z7 : Nat) (h : z0 ≤ 4 ∧ z1 ≤ 4 ∧ z2 ≤ 4 ∧ z3 ≤ 4 ∧ z4 ≤ 4 ∧ z5 ≤ 4 ∧ z6 ≤ 4 ∧ z7 ≤ 4) : ((z0 + z1) + 16 * ((z1 + z2) + 16 * ((z2 + z3) + 16 * ((z3 + z4) + 16 * ((z4 + z5) + 16 * ((z5 + z6) + 16 * ((z6 + z7) + 16 * (z7)))))))) &&& 252645135 = (z0 + z1) + 256 * ((z2 + z3) + 256 * ((z4 + z5) + 256 * ((z6 + z7)))) := by
  have em : (252645135 : Nat) = 15 + 16 * (0 + 16 * (15 + 16 * (0 + 16 * (15 + 16 * (0 + 16 * (15 + 16 * 0)))))) := by decide
  rw [em, fc_li _ _ _ (by omega), fc_lo _ _ _ (by omega), fc_li _ _ _ (by omega), fc_lo _ _ _ (by omega), fc_li _ _ _ (by omega), fc_lo _ _ _ (by omega), fc_li _ _ _ (by omega), Nat.and_zero]
  omega
theorem fc_3 (z0 z1 z2 z3 z4 z5 z6 z7 : Nat) (h : z0 ≤ 4 ∧ z1 ≤ 4 ∧ z2 ≤ 4 ∧ z3 ≤ 4 ∧ z4 ≤ 4 ∧ z5 ≤ 4 ∧ z6 ≤ 4 ∧ z7 ≤ 4) : (((z0 + z1) + 256 * ((z2 + z3) + 256 * ((z4 + z5) + 256 * ((z6 + z7))))) + ((z0 + z1) + 256 * ((z2 + z3) + 256 * ((z4 + z5) + 256 * ((z6 + z7))))) / 256) % 4294967296 = (z0 + z1 + z2 + z3) + 256 * ((z2 + z3 + z4 + z5) + 256 * ((z4 + z5 + z6 + z7) + 256 * ((z6 + z7)))) := by
  rw [fc_db _ _ (by omega), Nat.mod_eq_of_lt (by omega)]
  omega
theorem fc_4 (z0 z1 z2 z3 z4 z5 z6 z7 : Nat) (h : z0 ≤ 4 ∧ z1 ≤ 4 ∧ z2 ≤ 4 ∧ z3 ≤ 4 ∧ z4 ≤ 4 ∧ z5 ≤ 4 ∧ z6 ≤ 4 ∧ z7 ≤ 4) : (((z0 + z1 + z2 + z3) + 256 * ((z2 + z3 + z4 + z5) + 256 * ((z4 + z5 + z6 + z7) + 256 * ((z6 + z7))))) + ((z0 + z1 + z2 + z3) + 256 * ((z2 + z3 + z4 + z5) + 256 * ((z4 + z5 + z6 + z7) + 256 * ((z6 + z7))))) / 65536) % 4294967296 &&& 63 = z0 + z1 + z2 + z3 + z4 + z5 + z6 + z7 := by
  have e : ((z0 + z1 + z2 + z3) + 256 * ((z2 + z3 + z4 + z5) + 256 * ((z4 + z5 + z6 + z7) + 256 * ((z6 + z7))))) / 65536 = (z4 + z5 + z6 + z7) + 256 * (z6 + z7) := by
    rw [show (65536 : Nat) = 256 * 256 from rfl, ← Nat.div_div_eq_div_mul, fc_db _ _ (by omega), fc_db _ _ (by omega)]
  have e2 : ((z0 + z1 + z2 + z3) + 256 * ((z2 + z3 + z4 + z5) + 256 * ((z4 + z5 + z6 + z7) + 256 * ((z6 + z7))))) + ((z4 + z5 + z6 + z7) + 256 * (z6 + z7)) = (z0 + z1 + z2 + z3 + z4 + z5 + z6 + z7) + 64 * (4 * ((z2 + z3 + z4 + z5 + z6 + z7) + 256 * ((z4 + z5 + z6 + z7) + 256 * (z6 + z7)))) := by omega
  rw [e, fc_63, e2, Nat.mod_eq_of_lt (b := 4294967296) (by omega), Nat.add_mul_mod_self_left, Nat.mod_eq_of_lt (by omega)]
theorem fin_cnt (z0 z1 z2 z3 z4 z5 z6 z7 : Nat) (h : z0 ≤ 4 ∧ z1 ≤ 4 ∧ z2 ≤ 4 ∧ z3 ≤ 4 ∧ z4 ≤ 4 ∧ z5 ≤ 4 ∧ z6 ≤ 4 ∧ z7 ≤ 4) (z s u v : Nat) (hz : z = z0 + 16 * (z1 + 16 * (z2 + 16 * (z3 + 16 * (z4 + 16 * (z5 + 16 * (z6 + 16 * (z7)))))))) (hs : s = (z + z / 16) % 4294967296) (hu : u = s &&& 252645135) (hv : v = (u + u / 256) % 4294967296) : (v + v / 65536) % 4294967296 &&& 63 = z0 + z1 + z2 + z3 + z4 + z5 + z6 + z7 := by
  rw [hz, fc_1 _ _ _ _ _ _ _ _ h] at hs
  rw [hs, fc_2 _ _ _ _ _ _ _ _ h] at hu
  rw [hu, fc_3 _ _ _ _ _ _ _ _ h] at hv
  rw [hv, fc_4 _ _ _ _ _ _ _ _ h]
theorem p4_le : ∀ a, a < 16 → p4 a ≤ 4 := by decide
theorem pc_nibs (x : Int32) : pc 32 x = p4 (tn x % 16) + p4 (tn x / 16 % 16) + p4 (tn x / 16 / 16 % 16) + p4 (tn x / 16 / 16 / 16 % 16) + p4 (tn x / 16 / 16 / 16 / 16 % 16) + p4 (tn x / 16 / 16 / 16 / 16 / 16 % 16) + p4 (tn x / 16 / 16 / 16 / 16 / 16 / 16 % 16) + p4 (tn x / 16 / 16 / 16 / 16 / 16 / 16 / 16 % 16) := by
  simp only [← pc_nib, pc, tn_bt, Nat.div_div_eq_div_mul, Nat.reduceMul, Nat.reducePow, Nat.div_one, Nat.add_assoc, Nat.zero_add]
theorem Xbc (h : Hp) (x : Int32) : f_J6_bitCount_0f7a4 h x = some (I (pc 32 x), h) := by
  unfold f_J6_bitCount_0f7a4
  refine congrArg some (congrArg (fun y => (y, h)) ?_)
  have tI : ∀ n : Nat, n < 4294967296 → tn (I (n : Int)) = n := by
    intro n hn
    rw [← I_nI]
    show (BitVec.ofNat 32 n).toNat = n
    rw [BitVec.toNat_ofNat]
    exact Nat.mod_eq_of_lt hn
  have inj : ∀ a b : Int32, tn a = tn b → a = b := fun a b e => Int32.toBitVec_inj.mp (BitVec.eq_of_toNat_eq e)
  apply inj
  have hp := pc_le 32 x
  rw [tI _ (by omega)]
  have s1 := fun y => tn_sh (n := 1) (by decide) y
  have s2 := fun y => tn_sh (n := 2) (by decide) y
  have s4 := fun y => tn_sh (n := 4) (by decide) y
  have s8 := fun y => tn_sh (n := 8) (by decide) y
  have s16 := fun y => tn_sh (n := 16) (by decide) y
  have hX := tn_lt x
  have hT := T1 8 (tn x) hX
  have m5 : tn (1431655765 : Int32) = rep 5 8 := by decide
  have m3 : tn (858993459 : Int32) = rep 3 8 := by decide
  have mf : tn (252645135 : Int32) = 252645135 := by decide
  have m63 : tn (63 : Int32) = 63 := by decide
  generalize hy : x - ((x.toUInt32 >>> ((1 : Int32).toUInt32 &&& Int32.toUInt32 31)).toInt32 &&& (1431655765 : Int32)) = y
  have ey : tn y = dg t1 8 (tn x) := by
    rw [← hy, tn_sub, tn_and, m5]
    have := s1 x
    rw [show tn ((x.toUInt32 >>> ((1 : Int32).toUInt32 &&& Int32.toUInt32 31)).toInt32) = tn x / 2 from this, land_rep (by decide)]
    omega
  generalize hz : (y &&& (858993459 : Int32)) + ((y.toUInt32 >>> ((2 : Int32).toUInt32 &&& Int32.toUInt32 31)).toInt32 &&& (858993459 : Int32)) = z
  have t1b : ∀ a, a < 16 → t1 a < 16 := fun a ha => (t1_b a ha).2
  have q0 : ∀ A, p4 (A % 16) ≤ 4 := fun A => p4_le _ (by omega)
  have ez : tn z = dg p4 8 (tn x) := by
    have d1 : dg (fun a => a &&& 3) 8 (tn y) + dg (fun a => a / 4) 8 (tn y) = dg p4 8 (tn x) := by
      rw [ey, dg_dg t1b, dg_dg t1b, dg_add]
      rfl
    have d2 : dg p4 8 (tn x) < 4294967296 := dg_lt (fun a ha => by have := p4_le a ha; omega) 8 (tn x)
    rw [← hz, tn_add, tn_and, tn_and, m3, show tn ((y.toUInt32 >>> ((2 : Int32).toUInt32 &&& Int32.toUInt32 31)).toInt32) = tn y / 4 from s2 y, land_rep (by decide), land_rep (by decide), T2]
    omega
  generalize hu : (z + (z.toUInt32 >>> ((4 : Int32).toUInt32 &&& Int32.toUInt32 31)).toInt32) &&& (252645135 : Int32) = u
  generalize hv : u + (u.toUInt32 >>> ((8 : Int32).toUInt32 &&& Int32.toUInt32 31)).toInt32 = v
  have eu : tn u = (tn z + tn z / 16) % 4294967296 &&& 252645135 := by
    rw [← hu, tn_and, tn_add, mf, show tn ((z.toUInt32 >>> ((4 : Int32).toUInt32 &&& Int32.toUInt32 31)).toInt32) = tn z / 16 from s4 z]
  have ev : tn v = (tn u + tn u / 256) % 4294967296 := by
    rw [← hv, tn_add, show tn ((u.toUInt32 >>> ((8 : Int32).toUInt32 &&& Int32.toUInt32 31)).toInt32) = tn u / 256 from s8 u]
  rw [tn_and, tn_add, m63, show tn ((v.toUInt32 >>> ((16 : Int32).toUInt32 &&& Int32.toUInt32 31)).toInt32) = tn v / 65536 from s16 v]
  rw [fin_cnt (p4 (tn x % 16)) (p4 (tn x / 16 % 16)) (p4 (tn x / 16 / 16 % 16)) (p4 (tn x / 16 / 16 / 16 % 16)) (p4 (tn x / 16 / 16 / 16 / 16 % 16)) (p4 (tn x / 16 / 16 / 16 / 16 / 16 % 16)) (p4 (tn x / 16 / 16 / 16 / 16 / 16 / 16 % 16)) (p4 (tn x / 16 / 16 / 16 / 16 / 16 / 16 / 16 % 16)) ⟨q0 _, q0 _, q0 _, q0 _, q0 _, q0 _, q0 _, q0 _⟩ (tn z) _ (tn u) (tn v) (by rw [ez]; rfl) rfl eu ev]
  exact (pc_nibs x).symm
theorem Mbits_lp (h : Hp) (x : Int32) : ∀ (m fu k n : Nat), m < fu → k + m = 24 → n = pc k x → f_X12_bits_4 fu h x (I (n : Int)) (I (k : Int)) = some (I (pc 24 x : Nat), h) := by
  intro m
  induction m with
  | zero =>
    intro fu k n hf hk hn
    obtain ⟨fu, rfl⟩ : ∃ k, fu = k + 1 := ⟨fu - 1, by omega⟩
    have : k = 24 := by omega
    subst this
    simp only [f_X12_bits_4, if_pos (show (24 : Int32) ≤ I ((24 : Nat) : Int) by decide), hn]
  | succ m ih =>
    intro fu k n hf hk hn
    obtain ⟨fu, rfl⟩ : ∃ k, fu = k + 1 := ⟨fu - 1, by omega⟩
    have c : ¬ (24 : Int32) ≤ I (k : Int) := by show ¬ I ((24 : Nat) : Int) ≤ _; rw [I_len (by omega) (by omega)]; omega
    show (if (24 : Int32) ≤ I (k : Int) then _ else f_X12_bits_4 fu h x _ _) = _
    rw [if_neg c, I_s, sshr_bit x k (by omega)]
    have e : I (n : Int) + (if bt x k = true then 1 else 0) = I ((pc (k + 1) x : Nat) : Int) := by
      rw [hn]
      show _ = I ((pc k x + (if bt x k then 1 else 0) : Nat) : Int)
      cases bt x k
      · show I _ + I 0 = _
        rw [I_add]; rfl
      · show I _ + I 1 = _
        rw [I_add]; rfl
    rw [e]
    exact ih fu (k + 1) _ (by omega) (by omega) rfl
theorem Mbits (h : Hp) (x : Int32) : f_X12_bits h x = some (I (pc 24 x : Nat), h) := by
  unfold f_X12_bits
  exact Mbits_lp h x 24 FU 0 0 (FU_lt (by decide)) rfl rfl
theorem pc_32 {x : Int32} (h : ∀ i, 24 ≤ i → i < 32 → bt x i = false) : pc 32 x = pc 24 x := pc_more (n := 24) 8 (fun i hi => by
  rcases Nat.lt_or_ge i 32 with q | q
  · exact h i hi q
  · exact bt_big q)
/-! sets by their bits -/
def mk : Nat → (Nat → Bool) → Int32
  | 0, _ => 0
  | n + 1, f => mk n f ||| (if f n then b1 n else 0)
theorem bt_mk {n : Nat} (hn : n ≤ 32) (f : Nat → Bool) {i : Nat} (hi : i < 32) : bt (mk n f) i = (decide (i < n) && f i) := by
  induction n with
  | zero => show bt 0 i = _; rw [bt_0]; simp
  | succ n ih =>
    show bt (mk n f ||| (if f n then b1 n else 0)) i = _
    rw [bt_or, ih (by omega)]
    by_cases e : i = n
    · subst e
      cases f i
      · simp [bt_0]
      · simp [bt_b1 (show i < 32 by omega) hi]
    · have e2 : bt (if f n then b1 n else 0) i = false := by
        cases f n
        · exact bt_0 i
        · show bt (b1 n) i = false
          rw [bt_b1 (by omega) hi]
          exact decide_eq_false e
      rw [e2, Bool.or_false]
      congr 1
      exact decide_eq_decide.mpr (by omega)
