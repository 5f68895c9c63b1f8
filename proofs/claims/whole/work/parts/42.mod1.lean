/-! the reference: small functions -/
theorem lg_neg (x y : Int64) : (lg_cmp x y < 0) = (x.toInt < y.toInt) := by
  apply propext
  unfold lg_cmp
  simp only [gt_iff_lt, Int64.lt_iff_toInt_lt, ← Int64.toInt_inj]
  by_cases h1 : y.toInt < x.toInt
  · rw [if_pos h1]; exact ⟨fun z => absurd z (by decide), fun z => by omega⟩
  · rw [if_neg h1]
    by_cases h2 : x.toInt = y.toInt
    · rw [if_pos h2]; exact ⟨fun z => absurd z (by decide), fun z => by omega⟩
    · rw [if_neg h2]; exact ⟨fun _ => by omega, fun _ => by decide⟩
theorem lg_ps (x y : Int64) : (0 < lg_cmp x y) = (y.toInt < x.toInt) := by
  apply propext
  unfold lg_cmp
  simp only [gt_iff_lt, Int64.lt_iff_toInt_lt, ← Int64.toInt_inj]
  by_cases h1 : y.toInt < x.toInt
  · rw [if_pos h1]; exact ⟨fun _ => h1, fun _ => by decide⟩
  · rw [if_neg h1]
    by_cases h2 : x.toInt = y.toInt
    · rw [if_pos h2]; exact ⟨fun z => absurd z (by decide), fun z => by omega⟩
    · rw [if_neg h2]; exact ⟨fun z => absurd z (by decide), fun z => by omega⟩
theorem M_in (h : Hp) (x y z : Int64) : f_X12_in h x y z = some (if y.toInt ≤ x.toInt ∧ x.toInt ≤ z.toInt then 1 else 0, h) := by
  unfold f_X12_in
  simp only [lg_neg, lg_ps]
  by_cases h1 : x.toInt < y.toInt
  · rw [if_pos h1, if_neg (by omega)]
  · rw [if_neg h1]
    by_cases h2 : z.toInt < x.toInt
    · rw [if_pos h2, if_neg (by omega)]
    · rw [if_neg h2, if_pos (by omega)]
theorem I_64 {z : Int} (h1 : -2147483648 ≤ z) (h2 : z < 2147483648) : (I z).toInt64.toInt = z := by rw [Int32.toInt_toInt64, I_toInt h1 h2]
theorem M_has (h : Hp) (x : Int32) {k : Nat} (hk : k < 32) : f_X12_has h x (I k) = some (if bt x k then 1 else 0, h) := by
  unfold f_X12_has
  rw [sshr_bit x k hk]
  cases bt x k <;> rfl
theorem M_counts (h : Hp) {x u : Nat} (hx : x ≤ 1000) (h1 : 1 ≤ u) (h3 : u ≤ 3) : f_X12_counts h (I x) (I u) = some (I (cn x u), h) := by
  unfold f_X12_counts
  have e : u = 1 ∨ u = 2 ∨ u = 3 := by omega
  rcases e with rfl | rfl | rfl
  · rfl
  · rw [if_neg (by decide), if_pos (by decide), I_neg]; rfl
  · rw [if_neg (by decide), if_neg (by decide), I_lit, I_div2 (by omega) (by omega)]
    rfl
/-- the weights by the reference's port -/
def MPr (g : Nat → Nat → Int32) (wt : Nat → Nat → Int) : Prop := ∀ x : Nat, 1 ≤ x → x ≤ 24 → g 84 (4 + x) = I (wt x 1 - 1000) ∧ g 84 (4 + x) + g 84 3 = I (wt x 2 - 1000) ∧ g 84 (4 + x) + g 84 4 = I (wt x 3 - 1000)
def WB (wt : Nat → Nat → Int) : Prop := (∀ x u, 0 ≤ wt x u) ∧ ∀ x u : Nat, 1 ≤ x → x ≤ 24 → 1 ≤ u → u ≤ 3 → 1000 ≤ wt x u ∧ wt x u ≤ 1018
section T
variable {p q w v : Nat} {ds : Nat → Nat} {wt : Nat → Nat → Int} {g : Nat → Nat → Int32}
theorem M_price (hP : MPr g wt) {x u : Nat} (h1 : 1 ≤ x) (h2 : x ≤ 24) (h3 : 1 ≤ u) (h4 : u ≤ 3) : f_X12_priceOf (g, RF p q w v ds) 83 (I x) (I u) = some (I (wt x u - 1000), (g, RF p q w v ds)) := by
  obtain ⟨e1, e2, e3⟩ := hP x h1 h2
  have es : (4 : Int32) + I (x : Int) = I ((4 + x : Nat) : Int) := by rw [I_lit, I_add]; congr 1
  have i1 : inr (I ((4 + x : Nat) : Int)) 59 = true := I_inr (by omega) (by omega) (by omega)
  have c1 : (I ((4 + x : Nat) : Int)).toNatClampNeg = 4 + x := by rw [I_cl (by omega) (by omega)]; omega
  have e : u = 1 ∨ u = 2 ∨ u = 3 := by omega
  have i3 : inr (3 : Int32) 59 = true := by decide
  have i4 : inr (4 : Int32) 59 = true := by decide
  have c3 : (3 : Int32).toNatClampNeg = 3 := by decide
  have c4 : (4 : Int32).toNatClampNeg = 4 := by decide
  unfold f_X12_priceOf
  simp only [r_83_1, k_83, k_84, n_84, gd, lt, bd_s, if_true, if_false, reduceIte, si_uc, uc_s, uc_n, upd_s, upd_n, Nat.reduceEqDiff, ne_eq, not_false_eq_true, not_true_eq_false, es, i1, c1, i3, i4, c3, c4]
  rcases e with rfl | rfl | rfl
  · rw [if_neg (by decide), if_neg (by decide), e1]
    show some (I (wt x 1 - 1000) + I 0, _) = _
    rw [I_add, Int.add_zero]
  · rw [if_pos (by decide), e2]
  · rw [if_neg (by decide), if_pos (by decide), e3]
/-- a row of the reference's table -/
def RwM (g : Nat → Nat → Int32) (x : Nat) (f : Int → Int) : Prop := ∀ s : Int, -300 ≤ s → s ≤ 300 → g 92 (601 * (x - 1) + (s + 300).toNat) = I (f s)
theorem M_laid {x : Nat} {s : Int} (h1 : 1 ≤ x) (h2 : x ≤ 25) (hs : -1000 ≤ s ∧ s ≤ 1000) : f_X12_laid (g, RF p q w v ds) 83 (I x) (I s) = some (if -300 ≤ s ∧ s ≤ 300 then g 92 (601 * (x - 1) + (s + 300).toNat) else I INF, (g, RF p q w v ds)) := by
  unfold f_X12_laid
  rw [M_in]
  simp only [I_64 (z := s) (by omega) (by omega), show (-300 : Int64).toInt = -300 by decide, show (300 : Int64).toInt = 300 by decide]
  simp only [k_83, gd, lt, bd_s, if_true, if_false, reduceIte, si_uc, uc_s, uc_n, upd_s, upd_n, Nat.reduceEqDiff, ne_eq, not_false_eq_true, not_true_eq_false]
  by_cases c : -300 ≤ s ∧ s ≤ 300
  · have e1 : (601 : Int32) * (I (x : Int) - 1) + I s + 300 = I ((601 * (x - 1) + (s + 300).toNat : Nat) : Int) := by
      show I 601 * (I (x : Int) - I 1) + I s + I 300 = _
      rw [I_sub, I_mul, I_add, I_add]
      congr 1
      omega
    have i1 : inr (I ((601 * (x - 1) + (s + 300).toNat : Nat) : Int)) 15626 = true := I_inr (by omega) (by omega) (by omega)
    have c1 : (I ((601 * (x - 1) + (s + 300).toNat : Nat) : Int)).toNatClampNeg = 601 * (x - 1) + (s + 300).toNat := by rw [I_cl (by omega) (by omega)]; omega
    rw [if_pos c]
    rw [if_neg (by decide)]
    simp only [r_83_15, k_92, n_92, gd, lt, bd_s, if_true, if_false, reduceIte, si_uc, uc_s, uc_n, upd_s, upd_n, Nat.reduceEqDiff, ne_eq, not_false_eq_true, not_true_eq_false, e1, i1, c1, if_pos c]
  · rw [if_neg c]
    rw [if_pos rfl]
    simp only [if_neg c]
    rfl
/-- what the reference takes a use to come to -/
def BY (wt : Nat → Nat → Int) (last x : Nat) (xs : List Nat) (s : Int) (u : Nat) : Int := if u ∈ uses last x then (if DD wt last xs (s - cn x u) < INF then DD wt last xs (s - cn x u) + wt x u else INF) else INF
theorem M_by38 {x u : Nat} {s : Int} {kind : Nat} {xs : List Nat} (hw : WB wt) (hP : MPr g wt) (h1 : 1 ≤ x) (h2 : x ≤ 24) (h3 : 1 ≤ u) (h4 : u ≤ 3) (hs : -300 ≤ s ∧ s ≤ 300) (hR : RwM g (x + 1) (DD wt (lastU kind) xs)) (hn : nsum xs ≤ 300) {t : Int32} (ht : t = if u ∈ uses (lastU kind) x then 1 else 0) :
    f_X12_by_38 (g, RF p q w v ds) 83 (I x) (I u) (I s) t = some (I (BY wt (lastU kind) x xs s u), (g, RF p q w v ds)) := by
  have hI : INF = 1000000 := rfl
  unfold f_X12_by_38
  by_cases hu : u ∈ uses (lastU kind) x
  · rw [if_pos hu] at ht
    subst ht
    have hc := cn_abs (x := x) h3 h4
    rw [if_neg (by decide), M_counts _ (by omega) h3 h4]
    simp only [bd_s]
    have e1 : I (x : Int) + 1 = I ((x + 1 : Nat) : Int) := by rw [I_lit, I_add]; congr 1
    rw [e1, I_sub, M_laid (by omega) (by omega) (by omega)]
    have ev : (if -300 ≤ s - cn x u ∧ s - cn x u ≤ 300 then g 92 (601 * (x + 1 - 1) + (s - cn x u + 300).toNat) else I INF) = I (DD wt (lastU kind) xs (s - cn x u)) := by
      by_cases c : -300 ≤ s - cn x u ∧ s - cn x u ≤ 300
      · rw [if_pos c]; exact hR _ c.1 c.2
      · rw [if_neg c, DD_far hw.1 (by omega)]
    simp only [bd_s, ev, M_price hP h1 h2 h3 h4]
    have d0 := DD_pos (last := lastU kind) hw.1 xs (s - cn x u)
    have d1 := DD_inf (wt := wt) (last := lastU kind) xs (s - cn x u)
    unfold BY
    rw [if_pos hu]
    by_cases c : DD wt (lastU kind) xs (s - cn x u) < INF
    · rw [if_pos c, if_pos (by rw [I_lit]; exact (I_lt (by omega) (by omega)).mpr (by omega)), I_lit, I_add, I_add]
      congr 3
      omega
    · rw [if_neg c, if_neg (by rw [I_lit]; exact fun z => by have := (I_lt (by omega) (by omega)).mp z; omega)]
      rfl
  · rw [if_neg hu] at ht
    subst ht
    rw [if_pos rfl]
    unfold BY
    rw [if_neg hu]
    rfl
theorem M_by {x u : Nat} {s : Int} {kind : Nat} {xs : List Nat} (hk : 1 ≤ kind) (hk3 : kind ≤ 3) (hw : WB wt) (hP : MPr g wt) (h1 : 1 ≤ x) (h2 : x ≤ 24) (h3 : 1 ≤ u) (h4 : u ≤ 3) (hs : -300 ≤ s ∧ s ≤ 300) (hR : RwM g (x + 1) (DD wt (lastU kind) xs)) (hn : nsum xs ≤ 300) :
    f_X12_by (g, RF p q w v ds) 83 (I x) (I u) (I s) (I kind) = some (I (BY wt (lastU kind) x xs s u), (g, RF p q w v ds)) := by
  have key := fun (t : Int32) (ht : t = if u ∈ uses (lastU kind) x then 1 else 0) => M_by38 (p := p) (q := q) (w := w) (v := v) (ds := ds) hw hP h1 h2 h3 h4 hs hR hn ht
  have hm : u ∈ uses (lastU kind) x ↔ u ≤ lastU kind ∧ cst x u = true := by
    unfold uses
    rw [List.mem_filter, Bool.and_eq_true, decide_eq_true_eq]
    have e : u = 1 ∨ u = 2 ∨ u = 3 := by omega
    exact ⟨fun z => z.2, fun z => ⟨by rcases e with rfl | rfl | rfl <;> decide, z⟩⟩
  unfold f_X12_by f_X12_by_16 f_X12_by_33 f_X12_by_37
  simp only [k_83, gd, if_true, reduceIte]
  have ek : kind = 1 ∨ kind = 2 ∨ kind = 3 := by omega
  have e : u = 1 ∨ u = 2 ∨ u = 3 := by omega
  have hd : (I (x : Int) - I (x : Int) / 2 * 2 = 0) = (x % 2 = 0) := by
    show (I (x : Int) - I (x : Int) / I 2 * I 2 = 0) = _
    rw [I_div2 (by omega) (by omega), I_mul, I_sub]
    apply propext
    exact ⟨fun z => by have := (I_inj (b := 0) (by omega) (by omega)).mp z; omega, fun z => by show _ = I 0; congr 1; omega⟩
  rcases e with rfl | rfl | rfl
  · rw [if_pos (by decide)]
    exact key _ (by rw [if_pos]; rw [hm]; exact ⟨by rcases ek with rfl | rfl | rfl <;> decide, rfl⟩)
  · rw [if_neg (by decide), if_pos (by decide)]
    rcases ek with rfl | rfl | rfl
    · rw [if_neg (by decide), if_neg (by decide)]
      exact key _ (by rw [if_neg]; rw [hm]; exact fun z => absurd z.1 (by decide))
    · rw [if_pos (by decide)]
      exact key _ (by rw [if_pos]; rw [hm]; exact ⟨by decide, rfl⟩)
    · rw [if_pos (by decide)]
      exact key _ (by rw [if_pos]; rw [hm]; exact ⟨by decide, rfl⟩)
  · rw [if_neg (by decide), if_neg (by decide), if_pos (by decide)]
    rcases ek with rfl | rfl | rfl
    · rw [if_neg (by decide)]
      exact key _ (by rw [if_neg]; rw [hm]; exact fun z => absurd z.1 (by decide))
    · rw [if_neg (by decide)]
      exact key _ (by rw [if_neg]; rw [hm]; exact fun z => absurd z.1 (by decide))
    · rw [if_pos (by decide)]
      by_cases c : x % 2 = 0
      · rw [if_pos (by rw [hd]; exact c)]
        exact key _ (by rw [if_pos]; rw [hm]; exact ⟨by decide, by unfold cst; exact decide_eq_true (Or.inr c)⟩)
      · rw [if_neg (by rw [hd]; exact c)]
        exact key _ (by rw [if_neg]; rw [hm]; exact fun z => by have := z.2; unfold cst at this; rw [decide_eq_true_eq] at this; omega)
end T
