/-! the table: built, and asked -/
def TB (g : Nat → Nat → Int32) (kind : Nat) (xs : List Nat) (wt : Nat → Nat → Int) (m : Nat) : Prop := ∀ k, m ≤ k → k ≤ xs.length → Rw g k (loB (decide (2 ≤ kind)) xs k) (hiB (decide (2 ≤ kind)) xs k) (DD wt (lastU kind) (xs.drop k))
theorem fm_eq {b b' : Int} {l : List Int} (h : b = b') : fm b l = fm b' l := by rw [h]
section T
variable {p q w v : Nat} {ds : Nat → Nat} {wt : Nat → Nat → Int}
theorem X_rows_lp {kind : Nat} {xs : List Nat} (hkind : kind ≤ 3) (hlen : xs.length ≤ 24) (hs : nsum xs ≤ 300) (hx : ∀ x ∈ xs, 1 ≤ x ∧ x ≤ 24) (hw : ∀ x u, 0 ≤ wt x u) :
    ∀ (k fu : Nat) (g : Nat → Nat → Int32), k < fu → k ≤ xs.length → NL g xs → PrOK g wt → BN g (decide (2 ≤ kind)) xs (xs.length + 1) → TB g kind xs wt k →
    ∃ g', f_X7_build_60 fu (g, RF p q w v ds) 62 (I kind) (I ((k : Int) - 1)) = some ((), (g', RF p q w v ds)) ∧ Sb [63] g g' ∧ TB g' kind xs wt 0 := by
  intro k
  induction k with
  | zero =>
    intro fu g hf hk hN hP hB hT
    obtain ⟨fu, rfl⟩ : ∃ k, fu = k + 1 := ⟨fu - 1, by omega⟩
    refine ⟨g, ?_, Sb.rf, hT⟩
    have c1 : I (((0 : Nat) : Int) - 1) < 0 := by decide
    simp only [f_X7_build_60, if_pos c1]
  | succ k ih =>
    intro fu g hf hk hN hP hB hT
    obtain ⟨fu, rfl⟩ : ∃ k, fu = k + 1 := ⟨fu - 1, by omega⟩
    have hkx : k < xs.length := by omega
    have hmem : xs.getD k 0 ∈ xs := by
      rw [List.getD_eq_getElem?_getD, List.getElem?_eq_getElem hkx]
      exact List.getElem_mem hkx
    obtain ⟨hx1, hx2⟩ := hx _ hmem
    have blo := bnd_lo (decide (2 ≤ kind)) xs k hs
    have bhi := bnd_hi (decide (2 ≤ kind)) xs k hs
    have blo' := bnd_lo (decide (2 ≤ kind)) xs (k + 1) hs
    have bhi' := bnd_hi (decide (2 ≤ kind)) xs (k + 1) hs
    have ek : (I (k : Int)).toNatClampNeg = k := by rw [I_cl (by omega) (by omega)]; omega
    have i1 : inr (I (k : Int)) 25 = true := I_inr (by omega) (by omega) (by omega)
    have i2 : inr (I (k : Int)) 24 = true := I_inr (by omega) (by omega) (by omega)
    have c1 : ¬ I (k : Int) < 0 := fun z => by have := (I_lt (b := 0) (by omega) (by omega)).mp z; omega
    have e0 : f_X7_build_60 (fu + 1) (g, RF p q w v ds) 62 (I kind) (I (((k + 1 : Nat) : Int) - 1)) = f_X7_build_72 (f_X7_build_60 fu) FU (g, RF p q w v ds) 62 (I kind) (I k) (I (loB (decide (2 ≤ kind)) xs k)) := by
      rw [show ((k + 1 : Nat) : Int) - 1 = (k : Int) by omega]
      simp only [f_X7_build_60, if_neg c1, r_61_0, r_61_1, r_61_2, r_61_3, r_61_4, r_61_5, r_61_6, r_61_7, r_62_4, r_62_5, r_62_6, r_62_7, r_62_8, k_61, n_61, k_62, n_62, k_63, n_63, k_64, n_64, k_65, n_65, k_66, n_66, k_67, n_67, k_68, n_68, k_69, n_69, k_70, n_70, k_71, n_71, k_72, n_72, k_73, n_73, k_74, n_74, gd, lt, bd_s, if_true, if_false, reduceIte, si_uc, uc_s, uc_n, upd_s, upd_n, Nat.reduceEqDiff, ne_eq, not_false_eq_true, not_true_eq_false, i1, ek, (hB k (by omega)).1]
    rw [e0]
    obtain ⟨g1, a1, a2, a3, a4⟩ := X_init_lp (R := Unit) (p := p) (q := q) (w := w) (v := v) (ds := ds) (f_X7_build_60 fu) (I kind) k (loB (decide (2 ≤ kind)) xs k) (hiB (decide (2 ≤ kind)) xs k) (by omega) blo.1 bhi.2 bhi.1 blo.2 1000 FU (loB (decide (2 ≤ kind)) xs k) g (FU_lt (by omega)) (by omega) (by omega) (by omega) (hB k (by omega)).2 (fun s h1 h2 => absurd h1 (by omega))
    rw [a1]
    have n1 : ∀ a, a ≠ 63 → g1 a = g a := fun a ha => a2 a (by simpa using ha)
    have hB1 : BN g1 (decide (2 ≤ kind)) xs (xs.length + 1) := fun j hj => by rw [n1 64 (by decide), n1 65 (by decide)]; exact hB j hj
    have hR1 : ∀ j, k + 1 ≤ j → j ≤ xs.length → Rw g1 j (loB (decide (2 ≤ kind)) xs j) (hiB (decide (2 ≤ kind)) xs j) (DD wt (lastU kind) (xs.drop j)) := fun j hj hj2 => (hT j hj hj2).kept (fun s h1 h2 => by
      have bl := bnd_lo (decide (2 ≤ kind)) xs j hs
      have bh := bnd_hi (decide (2 ≤ kind)) xs j hs
      exact a4 _ (fun s' h3 h4 z => by have := (tix_inj (by omega) (by omega) z).1; omega))
    obtain ⟨g2, b1, b2, b3, b4⟩ := X_spread (p := p) (q := q) (w := w) (v := v) (ds := ds) (k := k) (c := 0) (wgt := 0) (by omega) blo.1 bhi.2 bhi.1 blo.2 blo'.1 bhi'.2 bhi'.1 blo'.2 (by omega) (by omega) (by omega) (hB1 k (by omega)).1 (hB1 k (by omega)).2 (hB1 (k + 1) (by omega)).1 (hB1 (k + 1) (by omega)).2 a3 (hR1 (k + 1) (by omega) (by omega))
    have z0 : (0 : Int32) = I 0 := rfl
    rw [z0, b1, bd_s]
    have n2 : ∀ a, a ≠ 63 → g2 a = g a := fun a ha => by rw [b2 a (by simpa using ha), n1 a ha]
    have hN2 : NL g2 xs := ⟨by rw [n2 62 (by decide)]; exact hN.1, fun j hj => by rw [n2 66 (by decide)]; exact hN.2 j hj⟩
    have hP2 : PrOK g2 wt := fun x u a b c d => by rw [n2 67 (by decide)]; exact hP x u a b c d
    have hB2 : BN g2 (decide (2 ≤ kind)) xs (xs.length + 1) := fun j hj => by rw [n2 64 (by decide), n2 65 (by decide)]; exact hB j hj
    have hR2 : ∀ j, k + 1 ≤ j → j ≤ xs.length → Rw g2 j (loB (decide (2 ≤ kind)) xs j) (hiB (decide (2 ≤ kind)) xs j) (DD wt (lastU kind) (xs.drop j)) := fun j hj hj2 => (hR1 j hj hj2).kept (fun s h1 h2 => by
      have bl := bnd_lo (decide (2 ≤ kind)) xs j hs
      have bh := bnd_hi (decide (2 ≤ kind)) xs j hs
      exact b4 _ (fun s' h3 h4 z => by have := (tix_inj (by omega) (by omega) z).1; omega))
    have hF : Rw g2 k (loB (decide (2 ≤ kind)) xs k) (hiB (decide (2 ≤ kind)) xs k) (DD wt (lastU kind) (xs.drop (k + 1))) := b3.congr (fun s h1 h2 => by
      have hle := DD_inf (wt := wt) (last := lastU kind) (xs.drop (k + 1)) s
      by_cases ho : loB (decide (2 ≤ kind)) xs (k + 1) ≤ s ∧ s ≤ hiB (decide (2 ≤ kind)) xs (k + 1)
      · rw [if_pos (by simpa using ho)]
        simp only [Int.sub_zero, Int.add_zero]
        omega
      · rw [if_neg (by simpa using ho), out_skip hw hkx h1 h2 ho])
    simp only [r_61_0, r_61_1, r_61_2, r_61_3, r_61_4, r_61_5, r_61_6, r_61_7, r_62_4, r_62_5, r_62_6, r_62_7, r_62_8, k_61, n_61, k_62, n_62, k_63, n_63, k_64, n_64, k_65, n_65, k_66, n_66, k_67, n_67, k_68, n_68, k_69, n_69, k_70, n_70, k_71, n_71, k_72, n_72, k_73, n_73, k_74, n_74, gd, if_true, reduceIte, i2, ek]
    rw [hN2.2 k hkx]
    obtain ⟨g3, c1, c2, c3, c4⟩ := X_uses_lp (p := p) (q := q) (w := w) (v := v) (ds := ds) (wt := wt) (f_X7_build_60 fu) (kind := kind) hkind hkx hlen hs hx1 hx2 hw (lastU kind) FU 1 g2 _ (FU_lt (by have := lastU_le kind; omega)) (by omega) (by omega) hP2 hB2 hF (hR2 (k + 1) (by omega) (by omega))
    have u1 : I ((1 : Nat) : Int) = 1 := rfl
    rw [u1] at c1
    rw [c1]
    have n3 : ∀ a, a ≠ 63 → g3 a = g a := fun a ha => by rw [c2 a (by simpa using ha), n2 a ha]
    have hT3 : TB g3 kind xs wt k := by
      intro j hj hj2
      by_cases e : j = k
      · subst e
        refine c3.congr (fun s h1 h2 => ?_)
        rw [drop_cons hkx, DD_cons, uses_range (lastU_le kind).1 (lastU_le kind).2]
      · have bl := bnd_lo (decide (2 ≤ kind)) xs j hs
        have bh := bnd_hi (decide (2 ≤ kind)) xs j hs
        exact (hR2 j (by omega) hj2).kept (fun s h1 h2 => c4 _ (fun s' h3 h4 z => by have := (tix_inj (by omega) (by omega) z).1; omega))
    obtain ⟨g', d1, d2, d3⟩ := ih fu g3 (by omega) (by omega) ⟨by rw [n3 62 (by decide)]; exact hN.1, fun j hj => by rw [n3 66 (by decide)]; exact hN.2 j hj⟩ (fun x u a b c d => by rw [n3 67 (by decide)]; exact hP x u a b c d) (fun j hj => by rw [n3 64 (by decide), n3 65 (by decide)]; exact hB j hj) hT3
    exact ⟨g', d1, Sb.tr a2 (Sb.tr b2 (Sb.tr c2 d2)), d3⟩
/-- the table as it stands for a set of numbers and a kind of law -/
def TBL (g : Nat → Nat → Int32) (wt : Nat → Nat → Int) (may : Int32) (kind : Nat) : Prop := g 62 10 = may ∧ g 62 11 = I kind ∧ NL g (nums may) ∧ BN g (decide (2 ≤ kind)) (nums may) ((nums may).length + 1) ∧ TB g kind (nums may) wt 0
def TOK (g : Nat → Nat → Int32) (wt : Nat → Nat → Int) : Prop := g 62 11 = I (-4) ∨ ∃ kind, kind ≤ 3 ∧ TBL g wt (g 62 10) kind
theorem nums_b {may : Int32} : ∀ x ∈ nums may, 1 ≤ x ∧ x ≤ 24 := fun x hx => ⟨(nums_mem.mp hx).1, (nums_mem.mp hx).2.1⟩
theorem X_build {g : Nat → Nat → Int32} (hw : ∀ x u, 0 ≤ wt x u) (hP : PrOK g wt) (hT : TOK g wt) (may : Int32) {kind : Nat} (hk : kind ≤ 3) :
    ∃ g', f_X7_build (g, RF p q w v ds) 62 may (I kind) = some ((), (g', RF p q w v ds)) ∧ TBL g' wt may kind ∧ Sb [62, 63, 64, 65, 66] g g' := by
  have full : ∃ g', f_X7_build_17 (g, RF p q w v ds) 62 may (I kind) = some ((), (g', RF p q w v ds)) ∧ TBL g' wt may kind ∧ Sb [62, 63, 64, 65, 66] g g' := by
    unfold f_X7_build_17
    simp only [r_61_0, r_61_1, r_61_2, r_61_3, r_61_4, r_61_5, r_61_6, r_61_7, r_62_4, r_62_5, r_62_6, r_62_7, r_62_8, k_61, n_61, k_62, n_62, k_63, n_63, k_64, n_64, k_65, n_65, k_66, n_66, k_67, n_67, k_68, n_68, k_69, n_69, k_70, n_70, k_71, n_71, k_72, n_72, k_73, n_73, k_74, n_74, gd, lt, bd_s, if_true, if_false, reduceIte, si_uc, uc_s, uc_n, upd_s, upd_n, Nat.reduceEqDiff, ne_eq, not_false_eq_true, not_true_eq_false]
    obtain ⟨g1, a1, a2, a3, a4⟩ := X_list (p := p) (q := q) (w := w) (v := v) (ds := ds) (uc (uc g 62 (upd (g 62) 11 (I ↑kind))) 62 (upd (upd (g 62) 11 (I ↑kind)) 10 may))
    rw [a1, bd_s]
    have m10 : g1 62 10 = may := by rw [a4 10 (by decide), uc_s, upd_s]
    have m11 : g1 62 11 = I kind := by rw [a4 11 (by decide), uc_s, upd_n (by decide), upd_s]
    rw [uc_s, upd_s] at a2
    obtain ⟨g2, b1, b2, b3⟩ := X_bnd (p := p) (q := q) (w := w) (v := v) (ds := ds) g1 (nums_sum may) (nums_len may) a2 hk m11
    rw [b1, bd_s]
    have n2 : ∀ a, a ≠ 64 → a ≠ 65 → g2 a = g1 a := fun a h1 h2 => b3 a (by simp [h1, h2])
    have hl := nums_len may
    have e62 : g2 62 9 = I (nums may).length := by rw [n2 62 (by decide) (by decide)]; exact a2.1
    have i1 : inr (I (((nums may).length : Int) * 601 + 300)) 15025 = true := I_inr (by omega) (by omega) (by omega)
    have l1 : (I (((nums may).length : Int) * 601 + 300)).toNatClampNeg = tix (nums may).length 0 := by rw [I_cl (by omega) (by omega)]; unfold tix; rw [Int.add_zero]
    simp only [r_61_0, r_61_1, r_61_2, r_61_3, r_61_4, r_61_5, r_61_6, r_61_7, r_62_4, r_62_5, r_62_6, r_62_7, r_62_8, k_61, n_61, k_62, n_62, k_63, n_63, k_64, n_64, k_65, n_65, k_66, n_66, k_67, n_67, k_68, n_68, k_69, n_69, k_70, n_70, k_71, n_71, k_72, n_72, k_73, n_73, k_74, n_74, gd, lt, bd_s, if_true, if_false, reduceIte, si_uc, uc_s, uc_n, upd_s, upd_n, Nat.reduceEqDiff, ne_eq, not_false_eq_true, not_true_eq_false, e62, I_lit, I_mul, I_add, I_sub, i1, l1]
    have hN3 : NL (uc g2 63 (upd (g2 63) (tix (nums may).length 0) (I 0))) (nums may) := ⟨by rw [uc_n (by decide)]; exact e62, fun j hj => by rw [uc_n (by decide), n2 66 (by decide) (by decide)]; exact a2.2 j hj⟩
    have n1 : ∀ a, a ≠ 62 → a ≠ 66 → g1 a = g a := fun a h1 h2 => by rw [a3 a (by simp [h1, h2]), uc_n h1, uc_n h1]
    have hP3 : PrOK (uc g2 63 (upd (g2 63) (tix (nums may).length 0) (I 0))) wt := fun x u a b c d => by rw [uc_n (by decide), n2 67 (by decide) (by decide), n1 67 (by decide) (by decide)]; exact hP x u a b c d
    have hB3 : BN (uc g2 63 (upd (g2 63) (tix (nums may).length 0) (I 0))) (decide (2 ≤ kind)) (nums may) ((nums may).length + 1) := fun j hj => by rw [uc_n (by decide), uc_n (by decide)]; exact b2 j hj
    have hT3 : TB (uc g2 63 (upd (g2 63) (tix (nums may).length 0) (I 0))) kind (nums may) wt (nums may).length := by
      intro k h1 h2 s h3 h4
      have hk2 : k = (nums may).length := by omega
      subst hk2
      have hb0 : beh (nums may) (nums may).length = 0 := by unfold beh; rw [List.drop_length]; rfl
      have hh : hiB (decide (2 ≤ kind)) (nums may) (nums may).length ≤ 0 := by unfold hiB; rw [hb0]; exact Int.min_le_left _ _
      have hll : 0 ≤ loB (decide (2 ≤ kind)) (nums may) (nums may).length := by
        unfold loB
        rw [hb0]
        split
        · exact Int.le_trans (by decide) (Int.le_max_left _ _)
        · exact Int.le_refl _
      have hs0 : s = 0 := by omega
      subst hs0
      rw [uc_s, upd_s, List.drop_length]
      exact ⟨rfl, (by show (0 : Int) ≤ 0; decide), (by show (0 : Int) ≤ INF; decide)⟩
    obtain ⟨g', c1, c2, c3⟩ := X_rows_lp (p := p) (q := q) (w := w) (v := v) (ds := ds) (wt := wt) (kind := kind) hk hl (nums_sum may) nums_b hw (nums may).length FU _ (FU_lt (by omega)) (Nat.le_refl _) hN3 hP3 hB3 hT3
    refine ⟨g', c1, ⟨?_, ?_, ?_, ?_, c3⟩, ?_⟩
    · rw [c2 62 (by decide), uc_n (by decide), n2 62 (by decide) (by decide)]; exact m10
    · rw [c2 62 (by decide), uc_n (by decide), n2 62 (by decide) (by decide)]; exact m11
    · exact ⟨by rw [c2 62 (by decide)]; exact hN3.1, fun j hj => by rw [c2 66 (by decide)]; exact hN3.2 j hj⟩
    · exact fun j hj => by rw [c2 64 (by decide), c2 65 (by decide)]; exact hB3 j hj
    · refine Sb.tr (Sb.tr (Sb.tr ((Sb.rf.uc (by decide)).uc (by decide)) (a3.mono (by decide))) (b3.mono (by decide))) (Sb.tr (Sb.rf.uc (by decide)) (c2.mono (by decide)))
  unfold f_X7_build
  simp only [k_62, gd, if_true, reduceIte]
  by_cases h1 : I (kind : Int) = g 62 11
  · rw [if_pos h1]
    by_cases h2 : may = g 62 10
    · rw [if_pos h2]
      refine ⟨g, rfl, ?_, Sb.rf⟩
      rcases hT with h3 | ⟨kd', h4, h5⟩
      · rw [h3] at h1
        exact absurd ((I_inj (by omega) (by omega)).mp h1) (by omega)
      · have : kd' = kind := by
          have e := h5.2.1
          rw [← h1] at e
          have := (I_inj (by omega) (by omega)).mp e
          omega
        rw [← this, h2]
        exact h5
    · rw [if_neg h2]; exact full
  · rw [if_neg h1]; exact full
end T
