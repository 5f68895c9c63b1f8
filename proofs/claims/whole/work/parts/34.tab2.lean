/-! the table: the numbers that one may use, and their bounds -/
def nums (may : Int32) : List Nat := (List.range' 1 24).filter (fun x => bt may (x - 1))
theorem nums_mem {may : Int32} {x : Nat} : x ∈ nums may ↔ 1 ≤ x ∧ x ≤ 24 ∧ bt may (x - 1) = true := by
  unfold nums
  rw [List.mem_filter, List.mem_range'_1]
  exact ⟨fun h => ⟨h.1.1, by omega, h.2⟩, fun h => ⟨⟨h.1, by omega⟩, h.2.2⟩⟩
theorem nsum_filter (p : Nat → Bool) (l : List Nat) : nsum (l.filter p) ≤ nsum l := by
  induction l with
  | nil => exact Int.le_refl _
  | cons x l ih =>
    by_cases h : p x = true
    · rw [List.filter_cons_of_pos h]
      show (x : Int) + _ ≤ (x : Int) + _
      omega
    · rw [List.filter_cons_of_neg h]
      show _ ≤ (x : Int) + _
      omega
theorem nums_sum (may : Int32) : nsum (nums may) ≤ 300 := Int.le_trans (nsum_filter _ _) (by decide)
theorem nums_len (may : Int32) : (nums may).length ≤ 24 := Nat.le_trans (List.length_filter_le _ _) (by decide)
theorem nsum_app (a b : List Nat) : nsum (a ++ b) = nsum a + nsum b := by
  induction a with
  | nil => show _ = 0 + _; simp
  | cons x a ih => show (x : Int) + nsum (a ++ b) = (x : Int) + nsum a + nsum b; omega
theorem nsum_split (xs : List Nat) (k : Nat) : nsum (xs.take k) + nsum (xs.drop k) = nsum xs := by
  rw [← nsum_app, List.take_append_drop]
/-- the numbers listed -/
def NL (g : Nat → Nat → Int32) (ys : List Nat) : Prop := g 62 9 = I ys.length ∧ ∀ k, k < ys.length → g 66 k = I (ys.getD k 0)
theorem NL_push {g : Nat → Nat → Int32} {ys : List Nat} (h : NL g ys) (x : Nat) : NL (uc (uc g 66 (upd (g 66) ys.length (I x))) 62 (upd (g 62) 9 (I (ys.length + 1)))) (ys ++ [x]) := by
  refine ⟨?_, fun k hk => ?_⟩
  · rw [uc_s, upd_s, List.length_append]; rfl
  · rw [uc_n (by decide), uc_s]
    rw [List.length_append] at hk
    have hk : k < ys.length + 1 := hk
    by_cases e : k = ys.length
    · subst e
      rw [upd_s, List.getD_eq_getElem?_getD, List.getElem?_append_right (Nat.le_refl _)]
      simp
    · rw [upd_n e, h.2 k (by omega), List.getD_eq_getElem?_getD, List.getD_eq_getElem?_getD, List.getElem?_append_left (by omega)]
section T
variable {p q w v : Nat} {ds : Nat → Nat}
theorem X_list_lp (may : Int32) : ∀ (m fu x : Nat) (g : Nat → Nat → Int32) (ys : List Nat), m < fu → x + m = 25 → 1 ≤ x → ys.length < x → g 62 10 = may → NL g ys →
    ∃ g', f_X7_listNumbers_7 fu (g, RF p q w v ds) 62 (I x) = some ((), (g', RF p q w v ds)) ∧ NL g' (ys ++ (List.range' x m).filter (fun x => bt may (x - 1))) ∧ Sb [62, 66] g g' ∧ ∀ j, j ≠ 9 → g' 62 j = g 62 j := by
  intro m
  induction m with
  | zero =>
    intro fu x g ys hf hx h1 hy hm hN
    obtain ⟨fu, rfl⟩ : ∃ k, fu = k + 1 := ⟨fu - 1, by omega⟩
    refine ⟨g, ?_, ?_, Sb.rf, fun _ _ => rfl⟩
    · have c1 : I (24 : Int) < I (x : Int) := (I_lt (by omega) (by omega)).mpr (by omega)
      simp only [f_X7_listNumbers_7, I_lit, if_pos c1]
    · simpa using hN
  | succ m ih =>
    intro fu x g ys hf hx h1 hy hm hN
    obtain ⟨fu, rfl⟩ : ∃ k, fu = k + 1 := ⟨fu - 1, by omega⟩
    have c1 : ¬ I (24 : Int) < I (x : Int) := fun c => by have := (I_lt (by omega) (by omega)).mp c; omega
    simp only [f_X7_listNumbers_7, I_lit, if_neg c1, I_sub, I_add]
    rw [show (x : Int) - 1 = ((x - 1 : Nat) : Int) by omega, X_hasBit _ _ (by omega), hm]
    simp only [bd_s]
    have ex : (x : Int) + 1 = ((x + 1 : Nat) : Int) := by omega
    cases hb : bt may (x - 1) with
    | false =>
      simp only [Bool.false_eq_true, if_false]
      rw [if_pos (by decide), ex]
      obtain ⟨g', e1, e2, e3, e4⟩ := ih fu (x + 1) g ys (by omega) (by omega) (by omega) (by omega) hm hN
      refine ⟨g', e1, ?_, e3, e4⟩
      rw [List.range'_succ, List.filter_cons_of_neg (by rw [hb]; decide)]
      exact e2
    | true =>
      simp only [if_true]
      rw [if_neg (by decide)]
      simp only [r_61_0, r_61_1, r_61_2, r_61_3, r_61_4, r_61_5, r_61_6, r_61_7, r_62_4, r_62_5, r_62_6, r_62_7, r_62_8, k_61, n_61, k_62, n_62, k_63, n_63, k_64, n_64, k_65, n_65, k_66, n_66, k_67, n_67, k_68, n_68, k_69, n_69, k_70, n_70, k_71, n_71, k_72, n_72, k_73, n_73, k_74, n_74, gd, lt, bd_s, if_true, if_false, reduceIte, si_uc, uc_s, uc_n, upd_s, upd_n, Nat.reduceEqDiff, ne_eq, not_false_eq_true, not_true_eq_false]
      rw [hN.1, I_inr (by omega) (by omega) (by omega), I_cl (by omega) (by omega)]
      simp only [gd, lt, bd_s, if_true, if_false, reduceIte, si_uc, uc_s, uc_n, upd_s, upd_n, Nat.reduceEqDiff, ne_eq, not_false_eq_true, not_true_eq_false]
      rw [I_add, ex]
      rw [show ((ys.length : Int)).toNat = ys.length by omega]
      have hN2 := NL_push hN x
      obtain ⟨g', e1, e2, e3, e4⟩ := ih fu (x + 1) _ (ys ++ [x]) (by omega) (by omega) (by omega) (by rw [List.length_append]; show ys.length + 1 < x + 1; omega) (by rw [uc_s, upd_n (by decide)]; exact hm) hN2
      refine ⟨g', e1, ?_, ?_, fun j hj => ?_⟩
      · rw [List.range'_succ, List.filter_cons_of_pos (by rw [hb]), List.append_cons]
        exact e2
      · exact Sb.tr ((Sb.rf.uc (by decide)).uc (by decide)) e3
      · rw [e4 j hj, uc_s, upd_n hj]
theorem X_list (g : Nat → Nat → Int32) : ∃ g', f_X7_listNumbers (g, RF p q w v ds) 62 = some ((), (g', RF p q w v ds)) ∧ NL g' (nums (g 62 10)) ∧ Sb [62, 66] g g' ∧ ∀ j, j ≠ 9 → g' 62 j = g 62 j := by
  unfold f_X7_listNumbers
  simp only [r_61_0, r_61_1, r_61_2, r_61_3, r_61_4, r_61_5, r_61_6, r_61_7, r_62_4, r_62_5, r_62_6, r_62_7, r_62_8, k_61, n_61, k_62, n_62, k_63, n_63, k_64, n_64, k_65, n_65, k_66, n_66, k_67, n_67, k_68, n_68, k_69, n_69, k_70, n_70, k_71, n_71, k_72, n_72, k_73, n_73, k_74, n_74, gd, lt, bd_s, if_true, if_false, reduceIte, si_uc, uc_s, uc_n, upd_s, upd_n, Nat.reduceEqDiff, ne_eq, not_false_eq_true, not_true_eq_false, si_uc]
  obtain ⟨g', e1, e2, e3, e4⟩ := X_list_lp (p := p) (q := q) (w := w) (v := v) (ds := ds) (g 62 10) 24 FU 1 (uc g 62 (upd (g 62) 9 0)) [] (FU_lt (by omega)) rfl (by omega) (by decide) (by rw [uc_s, upd_n (by decide)]) ⟨by rw [uc_s, upd_s]; rfl, fun k hk => absurd hk (by simp)⟩
  refine ⟨g', e1, by simpa [nums] using e2, Sb.tr (Sb.rf.uc (by decide)) e3, fun j hj => ?_⟩
  rw [e4 j hj, uc_s, upd_n hj]
end T
