/-! the table: bounds of the sums -/
def beh (xs : List Nat) (k : Nat) : Int := nsum (xs.drop k)
def ahd (xs : List Nat) (k : Nat) : Int := nsum (xs.take k)
def loB (sg : Bool) (xs : List Nat) (k : Nat) : Int := if sg = true then max (-(beh xs k)) (1 - ahd xs k) else 0
def hiB (sg : Bool) (xs : List Nat) (k : Nat) : Int := min (beh xs k) (if sg = true then 99 + ahd xs k else 99)
theorem beh_ahd (xs : List Nat) (k : Nat) : ahd xs k + beh xs k = nsum xs := nsum_split xs k
theorem beh_pos (xs : List Nat) (k : Nat) : 0 ≤ beh xs k := nsum_pos _
theorem ahd_pos (xs : List Nat) (k : Nat) : 0 ≤ ahd xs k := nsum_pos _
theorem drop_cons {xs : List Nat} {k : Nat} (h : k < xs.length) : xs.drop k = xs.getD k 0 :: xs.drop (k + 1) := by
  rw [List.getD_eq_getElem?_getD, List.getElem?_eq_getElem h]
  exact List.drop_eq_getElem_cons h
theorem beh_succ {xs : List Nat} {k : Nat} (h : k < xs.length) : beh xs k = xs.getD k 0 + beh xs (k + 1) := by
  unfold beh
  rw [drop_cons h]
  rfl
theorem ahd_succ {xs : List Nat} {k : Nat} (h : k < xs.length) : ahd xs (k + 1) = ahd xs k + xs.getD k 0 := by
  have h1 := beh_ahd xs k
  have h2 := beh_ahd xs (k + 1)
  have h3 := beh_succ h
  omega
theorem I_max {a b : Int} (ha : -2147483648 ≤ a ∧ a < 2147483648) (hb : -2147483648 ≤ b ∧ b < 2147483648) : (if I a < I b then I b else I a) = I (max a b) := by
  by_cases h : a < b
  · rw [if_pos ((I_lt ha hb).mpr h), Int.max_eq_right (by omega)]
  · rw [if_neg (fun c => h ((I_lt ha hb).mp c)), Int.max_eq_left (by omega)]
theorem I_min {a b : Int} (ha : -2147483648 ≤ a ∧ a < 2147483648) (hb : -2147483648 ≤ b ∧ b < 2147483648) : (if I b < I a then I b else I a) = I (min a b) := by
  by_cases h : b < a
  · rw [if_pos ((I_lt hb ha).mpr h), Int.min_eq_right (by omega)]
  · rw [if_neg (fun c => h ((I_lt hb ha).mp c)), Int.min_eq_left (by omega)]
def BN (g : Nat → Nat → Int32) (sg : Bool) (xs : List Nat) (m : Nat) : Prop := ∀ k, k < m → g 64 k = I (loB sg xs k) ∧ g 65 k = I (hiB sg xs k)
theorem BN_push {g : Nat → Nat → Int32} {sg : Bool} {xs : List Nat} {m : Nat} (h : BN g sg xs m) : BN (uc (uc g 64 (upd (g 64) m (I (loB sg xs m)))) 65 (upd (g 65) m (I (hiB sg xs m)))) sg xs (m + 1) := by
  intro k hk
  rw [uc_n (by decide), uc_s, uc_s]
  by_cases e : k = m
  · subst e; rw [upd_s, upd_s]; exact ⟨rfl, rfl⟩
  · rw [upd_n e, upd_n e]; exact h k (by omega)
section T
variable {p q w v : Nat} {ds : Nat → Nat}
theorem X_bnd_lp2 (sg : Bool) (xs : List Nat) (hs : nsum xs ≤ 300) (hlen : xs.length ≤ 24) : ∀ (m fu k : Nat) (g : Nat → Nat → Int32), m < fu → k + m = xs.length + 1 → NL g xs → BN g sg xs k →
    ∃ g', f_X7_setBounds_49 fu (g, RF p q w v ds) 62 (if sg = true then 1 else 0) (I (beh xs k)) (I (ahd xs k)) (I k) = some ((), (g', RF p q w v ds)) ∧ BN g' sg xs (xs.length + 1) ∧ Sb [64, 65] g g' := by
  intro m
  induction m with
  | zero =>
    intro fu k g hf hk hN hB
    obtain ⟨fu, rfl⟩ : ∃ k, fu = k + 1 := ⟨fu - 1, by omega⟩
    have c1 : I (xs.length : Int) < I (k : Int) := (I_lt (by omega) (by omega)).mpr (by omega)
    refine ⟨g, ?_, ?_, Sb.rf⟩
    · simp only [f_X7_setBounds_49, hN.1, if_pos c1]
    · rw [show xs.length + 1 = k by omega]; exact hB
  | succ m ih =>
    intro fu k g hf hk hN hB
    obtain ⟨fu, rfl⟩ : ∃ k, fu = k + 1 := ⟨fu - 1, by omega⟩
    have c1 : ¬ I (xs.length : Int) < I (k : Int) := fun c => by have := (I_lt (by omega) (by omega)).mp c; omega
    have hb0 := beh_pos xs k
    have ha0 := ahd_pos xs k
    have hab := beh_ahd xs k
    have ek : (k : Int).toNat = k := by omega
    have ek1 : (k : Int) + 1 = ((k + 1 : Nat) : Int) := by omega
    have hB2 := BN_push hB
    have step : f_X7_setBounds_49 (fu + 1) (g, RF p q w v ds) 62 (if sg = true then 1 else 0) (I (beh xs k)) (I (ahd xs k)) (I k) = f_X7_setBounds_101 (f_X7_setBounds_49 fu) (uc g 64 (upd (g 64) k (I (loB sg xs k))), RF p q w v ds) 62 (if sg = true then 1 else 0) (I (beh xs k)) (I (ahd xs k)) (I k) 65 (I k) (I (beh xs k)) (I (if sg = true then 99 + ahd xs k else 99)) := by
      cases sg with
      | false =>
        simp only [f_X7_setBounds_49, f_X7_setBounds_80, hN.1, if_neg c1, r_61_0, r_61_1, r_61_2, r_61_3, r_61_4, r_61_5, r_61_6, r_61_7, r_62_4, r_62_5, r_62_6, r_62_7, r_62_8, k_61, n_61, k_62, n_62, k_63, n_63, k_64, n_64, k_65, n_65, k_66, n_66, k_67, n_67, k_68, n_68, k_69, n_69, k_70, n_70, k_71, n_71, k_72, n_72, k_73, n_73, k_74, n_74, gd, lt, bd_s, if_true, if_false, reduceIte, si_uc, uc_s, uc_n, upd_s, upd_n, Nat.reduceEqDiff, ne_eq, not_false_eq_true, not_true_eq_false, Bool.false_eq_true, I_inr (show (0 : Int) ≤ k by omega) (show (k : Int) < (25 : Nat) by omega) (by omega), I_cl (show -2147483648 ≤ (k : Int) by omega) (by omega), ek]
        rfl
      | true =>
        simp only [f_X7_setBounds_49, f_X7_setBounds_80, hN.1, if_neg c1, r_61_0, r_61_1, r_61_2, r_61_3, r_61_4, r_61_5, r_61_6, r_61_7, r_62_4, r_62_5, r_62_6, r_62_7, r_62_8, k_61, n_61, k_62, n_62, k_63, n_63, k_64, n_64, k_65, n_65, k_66, n_66, k_67, n_67, k_68, n_68, k_69, n_69, k_70, n_70, k_71, n_71, k_72, n_72, k_73, n_73, k_74, n_74, gd, lt, bd_s, if_true, if_false, reduceIte, si_uc, uc_s, uc_n, upd_s, upd_n, Nat.reduceEqDiff, ne_eq, not_false_eq_true, not_true_eq_false, I_lit, I_neg, I_sub, I_add, I_inr (show (0 : Int) ≤ k by omega) (show (k : Int) < (25 : Nat) by omega) (by omega), I_cl (show -2147483648 ≤ (k : Int) by omega) (by omega), ek]
        rw [if_neg (by decide), if_neg (by decide), I_max (by omega) (by omega)]
        rfl
    rw [step]
    have hlim : -2147483648 ≤ (if sg = true then 99 + ahd xs k else 99) ∧ (if sg = true then 99 + ahd xs k else 99) < 2147483648 := by split <;> omega
    have step2 : f_X7_setBounds_101 (f_X7_setBounds_49 fu) (uc g 64 (upd (g 64) k (I (loB sg xs k))), RF p q w v ds) 62 (if sg = true then 1 else 0) (I (beh xs k)) (I (ahd xs k)) (I k) 65 (I k) (I (beh xs k)) (I (if sg = true then 99 + ahd xs k else 99)) = if I (xs.length : Int) ≤ I (k : Int) then f_X7_setBounds_49 fu (uc (uc g 64 (upd (g 64) k (I (loB sg xs k)))) 65 (upd (g 65) k (I (hiB sg xs k))), RF p q w v ds) 62 (if sg = true then 1 else 0) (I (beh xs k)) (I (ahd xs k)) (I ((k + 1 : Nat) : Int)) else gd (inr (I (k : Int)) 24 = true) (gd (inr (I (k : Int)) 24 = true) (f_X7_setBounds_49 fu (uc (uc g 64 (upd (g 64) k (I (loB sg xs k)))) 65 (upd (g 65) k (I (hiB sg xs k))), RF p q w v ds) 62 (if sg = true then 1 else 0) (I (beh xs k) - g 66 k) (I (ahd xs k) + g 66 k) (I ((k + 1 : Nat) : Int)))) := by
      unfold f_X7_setBounds_101
      rw [I_min (by omega) hlim]
      simp only [r_61_0, r_61_1, r_61_2, r_61_3, r_61_4, r_61_5, r_61_6, r_61_7, r_62_4, r_62_5, r_62_6, r_62_7, r_62_8, k_61, n_61, k_62, n_62, k_63, n_63, k_64, n_64, k_65, n_65, k_66, n_66, k_67, n_67, k_68, n_68, k_69, n_69, k_70, n_70, k_71, n_71, k_72, n_72, k_73, n_73, k_74, n_74, gd, lt, bd_s, if_true, if_false, reduceIte, si_uc, uc_s, uc_n, upd_s, upd_n, Nat.reduceEqDiff, ne_eq, not_false_eq_true, not_true_eq_false, I_inr (show (0 : Int) ≤ k by omega) (show (k : Int) < (25 : Nat) by omega) (by omega), I_cl (show -2147483648 ≤ (k : Int) by omega) (by omega), ek, hN.1, I_lit, I_add, ek1]
      rfl
    rw [step2]
    have hN2 : NL (uc (uc g 64 (upd (g 64) k (I (loB sg xs k)))) 65 (upd (g 65) k (I (hiB sg xs k)))) xs := ⟨by rw [uc_n (by decide), uc_n (by decide)]; exact hN.1, fun j hj => by rw [uc_n (by decide), uc_n (by decide)]; exact hN.2 j hj⟩
    by_cases hkl : k = xs.length
    · rw [if_pos ((I_le (by omega) (by omega)).mpr (by omega))]
      have hm : m = 0 := by omega
      subst hm
      obtain ⟨fu, rfl⟩ : ∃ k, fu = k + 1 := ⟨fu - 1, by omega⟩
      have c2 : I (xs.length : Int) < I ((k + 1 : Nat) : Int) := (I_lt (by omega) (by omega)).mpr (by omega)
      refine ⟨uc (uc g 64 (upd (g 64) k (I (loB sg xs k)))) 65 (upd (g 65) k (I (hiB sg xs k))), by simp only [f_X7_setBounds_49, hN2.1, if_pos c2], ?_, (Sb.rf.uc (by decide)).uc (by decide)⟩
      rw [hkl] at hB2 ⊢
      exact hB2
    · have c3 : ¬ I (xs.length : Int) ≤ I (k : Int) := fun c => by have := (I_le (by omega) (by omega)).mp c; omega
      have hkx : k < xs.length := by omega
      rw [if_neg c3, gd_t (I_inr (by omega) (by omega) (by omega)), gd_t (I_inr (by omega) (by omega) (by omega)), hN.2 k hkx, I_sub, I_add]
      rw [show beh xs k - (xs.getD k 0 : Nat) = beh xs (k + 1) by have := beh_succ hkx; omega, ← ahd_succ hkx]
      obtain ⟨g', e1, e2, e3⟩ := ih fu (k + 1) _ (by omega) (by omega) hN2 hB2
      exact ⟨g', e1, e2, Sb.tr ((Sb.rf.uc (by decide)).uc (by decide)) e3⟩
theorem X_bnd_lp1 (sgv : Int32) (xs : List Nat) (hs : nsum xs ≤ 300) (hlen : xs.length ≤ 24) : ∀ (m fu k : Nat) (g : Nat → Nat → Int32), m < fu → k + m = xs.length → NL g xs →
    f_X7_setBounds_21 fu (g, RF p q w v ds) 62 sgv (I (ahd xs k)) 0 (I k) = f_X7_setBounds_49 FU (g, RF p q w v ds) 62 sgv (I (nsum xs)) 0 0 := by
  intro m
  induction m with
  | zero =>
    intro fu k g hf hk hN
    obtain ⟨fu, rfl⟩ : ∃ k, fu = k + 1 := ⟨fu - 1, by omega⟩
    have c1 : I (xs.length : Int) ≤ I (k : Int) := (I_le (by omega) (by omega)).mpr (by omega)
    have e : ahd xs k = nsum xs := by
      unfold ahd
      rw [show k = xs.length by omega, List.take_length]
    simp only [f_X7_setBounds_21, hN.1, if_pos c1, e]
  | succ m ih =>
    intro fu k g hf hk hN
    obtain ⟨fu, rfl⟩ : ∃ k, fu = k + 1 := ⟨fu - 1, by omega⟩
    have c1 : ¬ I (xs.length : Int) ≤ I (k : Int) := fun c => by have := (I_le (by omega) (by omega)).mp c; omega
    have hkx : k < xs.length := by omega
    have ek : (k : Int).toNat = k := by omega
    have ek1 : (k : Int) + 1 = ((k + 1 : Nat) : Int) := by omega
    have step : f_X7_setBounds_21 (fu + 1) (g, RF p q w v ds) 62 sgv (I (ahd xs k)) 0 (I k) = f_X7_setBounds_21 fu (g, RF p q w v ds) 62 sgv (I (ahd xs (k + 1))) 0 (I ((k + 1 : Nat) : Int)) := by
      rw [ahd_succ hkx, ← I_add, ← hN.2 k hkx]
      simp only [f_X7_setBounds_21, hN.1, if_neg c1, r_61_0, r_61_1, r_61_2, r_61_3, r_61_4, r_61_5, r_61_6, r_61_7, r_62_4, r_62_5, r_62_6, r_62_7, r_62_8, k_61, n_61, k_62, n_62, k_63, n_63, k_64, n_64, k_65, n_65, k_66, n_66, k_67, n_67, k_68, n_68, k_69, n_69, k_70, n_70, k_71, n_71, k_72, n_72, k_73, n_73, k_74, n_74, gd, lt, bd_s, if_true, if_false, reduceIte, si_uc, uc_s, uc_n, upd_s, upd_n, Nat.reduceEqDiff, ne_eq, not_false_eq_true, not_true_eq_false, I_inr (show (0 : Int) ≤ k by omega) (show (k : Int) < (24 : Nat) by omega) (by omega), I_cl (show -2147483648 ≤ (k : Int) by omega) (by omega), ek]
      rw [← ek1, ← I_add]
      rfl
    rw [step]
    exact ih fu (k + 1) g (by omega) (by omega) hN
theorem X_bnd (g : Nat → Nat → Int32) {xs : List Nat} (hs : nsum xs ≤ 300) (hlen : xs.length ≤ 24) (hN : NL g xs) {kind : Nat} (hk : kind ≤ 3) (hg : g 62 11 = I kind) :
    ∃ g', f_X7_setBounds (g, RF p q w v ds) 62 = some ((), (g', RF p q w v ds)) ∧ BN g' (decide (2 ≤ kind)) xs (xs.length + 1) ∧ Sb [64, 65] g g' := by
  have e : f_X7_setBounds (g, RF p q w v ds) 62 = f_X7_setBounds_21 FU (g, RF p q w v ds) 62 (if decide (2 ≤ kind) = true then 1 else 0) 0 0 0 := by
    unfold f_X7_setBounds f_X7_setBounds_13
    simp only [r_61_0, r_61_1, r_61_2, r_61_3, r_61_4, r_61_5, r_61_6, r_61_7, r_62_4, r_62_5, r_62_6, r_62_7, r_62_8, k_61, n_61, k_62, n_62, k_63, n_63, k_64, n_64, k_65, n_65, k_66, n_66, k_67, n_67, k_68, n_68, k_69, n_69, k_70, n_70, k_71, n_71, k_72, n_72, k_73, n_73, k_74, n_74, gd, lt, bd_s, if_true, if_false, reduceIte, si_uc, uc_s, uc_n, upd_s, upd_n, Nat.reduceEqDiff, ne_eq, not_false_eq_true, not_true_eq_false, hg, I_lit]
    by_cases h2 : 2 ≤ kind
    · rw [if_neg (fun c => by have := (I_lt (by omega) (by omega)).mp c; omega), if_pos (by simpa using h2)]
    · rw [if_pos ((I_lt (by omega) (by omega)).mpr (by omega)), if_neg (by simpa using h2)]
  rw [e]
  have h1 := X_bnd_lp1 (p := p) (q := q) (w := w) (v := v) (ds := ds) (if decide (2 ≤ kind) = true then 1 else 0) xs hs hlen xs.length FU 0 g (FU_lt (by omega)) (by omega) hN
  have h0 : I (ahd xs 0) = 0 := rfl
  have h00 : I ((0 : Nat) : Int) = 0 := rfl
  rw [h0, h00] at h1
  rw [h1]
  obtain ⟨g', e1, e2, e3⟩ := X_bnd_lp2 (p := p) (q := q) (w := w) (v := v) (ds := ds) (decide (2 ≤ kind)) xs hs hlen (xs.length + 1) FU 0 g (FU_lt (by omega)) (by omega) hN (fun k hk => absurd hk (by omega))
  rw [h0, h00] at e1
  exact ⟨g', e1, e2, e3⟩
end T
