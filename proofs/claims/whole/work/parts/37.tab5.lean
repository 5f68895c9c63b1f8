/-! the table: a row out of the next one -/
theorem uses_range {last : Nat} (h1 : 1 ≤ last) (h3 : last ≤ 3) (x : Nat) : uses last x = (List.range' 1 last).filter (fun u => cst x u) := by
  have : last = 1 ∨ last = 2 ∨ last = 3 := by omega
  rcases this with rfl | rfl | rfl <;> simp [uses, List.range', List.filter_cons]
theorem lastU_le (k : Nat) : 1 ≤ lastU k ∧ lastU k ≤ 3 := by unfold lastU; split <;> (try split) <;> omega
theorem lastU_1 {k : Nat} (h : ¬ 2 ≤ k) : lastU k = 1 := by unfold lastU; rw [if_neg (by omega), if_neg (by omega)]
theorem bnd_lo (sg : Bool) (xs : List Nat) (k : Nat) (hs : nsum xs ≤ 300) : -300 ≤ loB sg xs k ∧ loB sg xs k ≤ 300 := by
  have h1 := beh_pos xs k
  have h2 := ahd_pos xs k
  have h3 := beh_ahd xs k
  unfold loB
  split <;> omega
theorem bnd_hi (sg : Bool) (xs : List Nat) (k : Nat) (hs : nsum xs ≤ 300) : 0 ≤ hiB sg xs k ∧ hiB sg xs k ≤ 300 := by
  have h1 := beh_pos xs k
  have h2 := ahd_pos xs k
  have h3 := beh_ahd xs k
  unfold hiB
  split <;> omega
section OUT
variable {wt : Nat → Nat → Int}
theorem out_skip {kind : Nat} {xs : List Nat} {k : Nat} {s : Int} (hw : ∀ x u, 0 ≤ wt x u) (hk : k < xs.length) (h1 : loB (decide (2 ≤ kind)) xs k ≤ s) (h2 : s ≤ hiB (decide (2 ≤ kind)) xs k) (ho : ¬ (loB (decide (2 ≤ kind)) xs (k + 1) ≤ s ∧ s ≤ hiB (decide (2 ≤ kind)) xs (k + 1))) : DD wt (lastU kind) (xs.drop (k + 1)) s = INF := by
  have a1 := beh_succ hk
  have a2 := ahd_succ hk
  by_cases hg : 2 ≤ kind
  · simp only [loB, hiB, hg, decide_true, if_true] at h1 h2 ho
    have hf : beh xs (k + 1) < s ∨ s < -(beh xs (k + 1)) := by omega
    exact DD_far hw hf
  · simp only [loB, hiB, hg, decide_false, if_false, Bool.false_eq_true] at h1 h2 ho
    have hf : beh xs (k + 1) < s ∨ s < -(beh xs (k + 1)) := by
      have := beh_pos xs (k + 1)
      omega
    exact DD_far hw hf
theorem out_use {kind : Nat} {xs : List Nat} {k u : Nat} {s : Int} (hw : ∀ x u, 0 ≤ wt x u) (hk : k < xs.length) (hu : 1 ≤ u ∧ u ≤ lastU kind) (h1 : loB (decide (2 ≤ kind)) xs k ≤ s) (h2 : s ≤ hiB (decide (2 ≤ kind)) xs k) (ho : ¬ (loB (decide (2 ≤ kind)) xs (k + 1) ≤ s - cn (xs.getD k 0) u ∧ s - cn (xs.getD k 0) u ≤ hiB (decide (2 ≤ kind)) xs (k + 1))) : DD wt (lastU kind) (xs.drop (k + 1)) (s - cn (xs.getD k 0) u) = INF := by
  have a1 := beh_succ hk
  have a2 := ahd_succ hk
  have hl3 := lastU_le kind
  have hc := cn_abs (x := xs.getD k 0) hu.1 (by omega)
  have hb := beh_pos xs (k + 1)
  by_cases hg : 2 ≤ kind
  · simp only [loB, hiB, hg, decide_true, if_true] at h1 h2 ho
    have hf : beh xs (k + 1) < s - cn (xs.getD k 0) u ∨ s - cn (xs.getD k 0) u < -(beh xs (k + 1)) := by omega
    exact DD_far hw hf
  · simp only [loB, hiB, hg, decide_false, if_false, Bool.false_eq_true] at h1 h2 ho
    have hl := lastU_1 hg
    have hu1 : u = 1 := by omega
    subst hu1
    have hc1 : cn (xs.getD k 0) 1 = (xs.getD k 0 : Nat) := rfl
    by_cases hneg : s - cn (xs.getD k 0) 1 < 0
    · exact DD_neg hw (by omega) hneg
    · have hf : beh xs (k + 1) < s - cn (xs.getD k 0) 1 ∨ s - cn (xs.getD k 0) 1 < -(beh xs (k + 1)) := by omega
      exact DD_far hw hf
end OUT
section T
variable {p q w v : Nat} {ds : Nat → Nat}
theorem X_init_lp {R : Type} (kk : Hp → Nat → Int32 → Int32 → Option (Unit × Hp)) (x2 : Int32) (k : Nat) (lo hi : Int) (hk : k ≤ 24) (hlo : -300 ≤ lo) (hhi : hi ≤ 300) (hh0 : 0 ≤ hi) (hlo2 : lo ≤ 300) :
    ∀ (m fu : Nat) (a : Int) (g : Nat → Nat → Int32), m < fu → hi + 1 - a ≤ m → lo ≤ a → a ≤ 400 → g 65 k = I hi → (∀ s, lo ≤ s → s < a → s ≤ hi → g 63 (tix k s) = I INF) →
    ∃ g', f_X7_build_72 kk fu (g, RF p q w v ds) 62 x2 (I k) (I a) = bd (f_X7_spread (g', RF p q w v ds) 62 (I k) 0 0) (fun _ h4 => gd (kd (h4.2 62 7) = 13) <| gd (inr (I k) (ln (h4.2 62 7)) = true) <| f_X7_build_126 kk FU h4 62 x2 (I k) (h4.1 (h4.2 62 7) (I (k : Int)).toNatClampNeg) 1) ∧ Sb [63] g g' ∧ Rw g' k lo hi (fun _ => INF) ∧ (∀ j, (∀ s, lo ≤ s → s ≤ hi → j ≠ tix k s) → g' 63 j = g 63 j) := by
  have ek : (I (k : Int)).toNatClampNeg = k := by rw [I_cl (by omega) (by omega)]; omega
  have i1 : inr (I (k : Int)) 25 = true := I_inr (by omega) (by omega) (by omega)
  have fin : ∀ (fu : Nat) (a : Int) (g : Nat → Nat → Int32), hi < a → a ≤ 400 → g 65 k = I hi → (∀ s, lo ≤ s → s < a → s ≤ hi → g 63 (tix k s) = I INF) →
      ∃ g', f_X7_build_72 kk (fu + 1) (g, RF p q w v ds) 62 x2 (I k) (I a) = bd (f_X7_spread (g', RF p q w v ds) 62 (I k) 0 0) (fun _ h4 => gd (kd (h4.2 62 7) = 13) <| gd (inr (I k) (ln (h4.2 62 7)) = true) <| f_X7_build_126 kk FU h4 62 x2 (I k) (h4.1 (h4.2 62 7) (I (k : Int)).toNatClampNeg) 1) ∧ Sb [63] g g' ∧ Rw g' k lo hi (fun _ => INF) ∧ (∀ j, (∀ s, lo ≤ s → s ≤ hi → j ≠ tix k s) → g' 63 j = g 63 j) := by
    intro fu a g hha ha2 hg hv
    have c1 : I hi < I a := (I_lt (by omega) (by omega)).mpr hha
    refine ⟨g, ?_, Sb.rf, fun s h1 h2 => ⟨hv s h1 (by omega) h2, (by show (0 : Int) ≤ INF; decide), Int.le_refl INF⟩, fun _ _ => rfl⟩
    rw [f_X7_build_72]
    simp only [r_62_6, k_65, n_65, i1, ek, hg, if_pos c1, gd, if_true, reduceIte]
  intro m
  induction m with
  | zero =>
    intro fu a g hf hm ha ha2 hg hv
    obtain ⟨fu, rfl⟩ : ∃ k, fu = k + 1 := ⟨fu - 1, by omega⟩
    exact fin fu a g (by omega) ha2 hg hv
  | succ m ih =>
    intro fu a g hf hm ha ha2 hg hv
    obtain ⟨fu, rfl⟩ : ∃ k, fu = k + 1 := ⟨fu - 1, by omega⟩
    by_cases hha : hi < a
    · exact fin fu a g hha ha2 hg hv
    · have c1 : ¬ I hi < I a := fun z => hha ((I_lt (by omega) (by omega)).mp z)
      have i2 : inr (I ((k : Int) * 601 + 300 + a)) 15025 = true := I_inr (by omega) (by omega) (by omega)
      have l2 : (I ((k : Int) * 601 + 300 + a)).toNatClampNeg = tix k a := by rw [I_cl (by omega) (by omega)]; rfl
      have step : f_X7_build_72 kk (fu + 1) (g, RF p q w v ds) 62 x2 (I k) (I a) = f_X7_build_72 kk fu (uc g 63 (upd (g 63) (tix k a) (I INF)), RF p q w v ds) 62 x2 (I k) (I (a + 1)) := by
        rw [f_X7_build_72]
        simp only [r_61_0, r_61_1, r_61_2, r_61_3, r_61_4, r_61_5, r_61_6, r_61_7, r_62_4, r_62_5, r_62_6, r_62_7, r_62_8, k_61, n_61, k_62, n_62, k_63, n_63, k_64, n_64, k_65, n_65, k_66, n_66, k_67, n_67, k_68, n_68, k_69, n_69, k_70, n_70, k_71, n_71, k_72, n_72, k_73, n_73, k_74, n_74, i1, ek, hg, if_neg c1, gd, lt, bd_s, if_true, if_false, reduceIte, si_uc, uc_s, uc_n, upd_s, upd_n, Nat.reduceEqDiff, ne_eq, not_false_eq_true, not_true_eq_false, I_lit, I_mul, I_add, i2, l2]
        rfl
      rw [step]
      obtain ⟨g', q1, q2, q3, q4⟩ := ih fu (a + 1) (uc g 63 (upd (g 63) (tix k a) (I INF))) (by omega) (by omega) (by omega) (by omega) (by rw [uc_n (by decide)]; exact hg) (fun s h1 h2 h3 => by
        rw [uc_s]
        by_cases hs : s = a
        · subst hs; rw [upd_s]
        · rw [upd_n (fun z => hs (tix_inj (by omega) (by omega) z).2)]
          exact hv s h1 (by omega) h3)
      refine ⟨g', q1, Sb.tr (Sb.rf.uc (by decide)) q2, q3, fun j hj => ?_⟩
      rw [q4 j hj, uc_s, upd_n (hj a ha (by omega))]
theorem X_uses_lp {wt : Nat → Nat → Int} (kk : Hp → Nat → Int32 → Int32 → Option (Unit × Hp)) {kind k : Nat} {xs : List Nat} (hkind : kind ≤ 3) (hk : k < xs.length) (hlen : xs.length ≤ 24) (hs : nsum xs ≤ 300) (hx1 : 1 ≤ xs.getD k 0) (hx2 : xs.getD k 0 ≤ 24) (hw : ∀ x u, 0 ≤ wt x u) :
    ∀ (m fu u : Nat) (g : Nat → Nat → Int32) (F : Int → Int), m < fu → u + m = lastU kind + 1 → 1 ≤ u → PrOK g wt → BN g (decide (2 ≤ kind)) xs (xs.length + 1) → Rw g k (loB (decide (2 ≤ kind)) xs k) (hiB (decide (2 ≤ kind)) xs k) F → Rw g (k + 1) (loB (decide (2 ≤ kind)) xs (k + 1)) (hiB (decide (2 ≤ kind)) xs (k + 1)) (DD wt (lastU kind) (xs.drop (k + 1))) →
    ∃ g', f_X7_build_126 kk fu (g, RF p q w v ds) 62 (I kind) (I k) (I (xs.getD k 0 : Nat)) (I u) = kk (g', RF p q w v ds) 62 (I kind) (I ((k : Int) - 1)) ∧ Sb [63] g g' ∧ Rw g' k (loB (decide (2 ≤ kind)) xs k) (hiB (decide (2 ≤ kind)) xs k) (fun s => fm (F s) (((List.range' u m).filter (fun u => cst (xs.getD k 0) u)).map (fun u => DD wt (lastU kind) (xs.drop (k + 1)) (s - cn (xs.getD k 0) u) + wt (xs.getD k 0) u))) ∧
      (∀ j, (∀ s, loB (decide (2 ≤ kind)) xs k ≤ s → s ≤ hiB (decide (2 ≤ kind)) xs k → j ≠ tix k s) → g' 63 j = g 63 j) := by
  have hl3 := lastU_le kind
  have blo := bnd_lo (decide (2 ≤ kind)) xs k hs
  have bhi := bnd_hi (decide (2 ≤ kind)) xs k hs
  have blo' := bnd_lo (decide (2 ≤ kind)) xs (k + 1) hs
  have bhi' := bnd_hi (decide (2 ≤ kind)) xs (k + 1) hs
  intro m
  induction m with
  | zero =>
    intro fu u g F hf hu h1 hP hB hR hR'
    obtain ⟨fu, rfl⟩ : ∃ k, fu = k + 1 := ⟨fu - 1, by omega⟩
    have c1 : I (lastU kind : Int) < I (u : Int) := (I_lt (by omega) (by omega)).mpr (by omega)
    refine ⟨g, ?_, Sb.rf, hR, fun _ _ => rfl⟩
    simp only [f_X7_build_126, X_lastUse _ hkind, bd_s, if_pos c1, I_m1, I_add]
    rfl
  | succ m ih =>
    intro fu u g F hf hu h1 hP hB hR hR'
    obtain ⟨fu, rfl⟩ : ∃ k, fu = k + 1 := ⟨fu - 1, by omega⟩
    have c1 : ¬ I (lastU kind : Int) < I (u : Int) := fun z => by have := (I_lt (by omega) (by omega)).mp z; omega
    have eu : (u : Int) + 1 = ((u + 1 : Nat) : Int) := by omega
    have e0 : f_X7_build_126 kk (fu + 1) (g, RF p q w v ds) 62 (I kind) (I k) (I (xs.getD k 0 : Nat)) (I u) = if cst (xs.getD k 0) u = true then bd (f_X7_spread (g, RF p q w v ds) 62 (I k) (I (cn (xs.getD k 0) u)) (I (wt (xs.getD k 0) u))) (fun _ h14 => f_X7_build_126 kk fu h14 62 (I kind) (I k) (I (xs.getD k 0 : Nat)) (I ((u + 1 : Nat) : Int))) else f_X7_build_126 kk fu (g, RF p q w v ds) 62 (I kind) (I k) (I (xs.getD k 0 : Nat)) (I ((u + 1 : Nat) : Int)) := by
      simp only [f_X7_build_126, X_lastUse _ hkind, bd_s, if_neg c1, X_canStand _ (show xs.getD k 0 ≤ 1000 by omega) h1 (show u ≤ 3 by omega), X_countsAs _ (show xs.getD k 0 ≤ 1000 by omega) h1 (show u ≤ 3 by omega), X_weight hP hx1 hx2 h1 (show u ≤ 3 by omega), I_lit, I_add, eu]
      cases cst (xs.getD k 0) u <;> rfl
    rw [e0, List.range'_succ]
    cases hc : cst (xs.getD k 0) u with
    | false =>
      rw [if_neg (by decide), List.filter_cons_of_neg (by rw [hc]; decide)]
      exact ih fu (u + 1) g F (by omega) (by omega) (by omega) hP hB hR hR'
    | true =>
      rw [if_pos rfl, List.filter_cons_of_pos (by rw [hc])]
      have hcn := cn_abs (x := xs.getD k 0) h1 (show u ≤ 3 by omega)
      obtain ⟨p1, p2, p3⟩ := hP (xs.getD k 0) u hx1 hx2 h1 (by omega)
      obtain ⟨g1, s1, s2, s3, s4⟩ := X_spread (p := p) (q := q) (w := w) (v := v) (ds := ds) (k := k) (c := cn (xs.getD k 0) u) (wgt := wt (xs.getD k 0) u) (by omega) blo.1 bhi.2 bhi.1 blo.2 blo'.1 bhi'.2 bhi'.1 blo'.2 (by omega) (by omega) (by omega) (hB k (by omega)).1 (hB k (by omega)).2 (hB (k + 1) (by omega)).1 (hB (k + 1) (by omega)).2 hR hR'
      rw [s1, bd_s]
      have sne : ∀ a, a ≠ 63 → g1 a = g a := fun a ha => s2 a (by simpa using ha)
      have hP1 : PrOK g1 wt := fun x u a b c d => by rw [sne 67 (by decide)]; exact hP x u a b c d
      have hB1 : BN g1 (decide (2 ≤ kind)) xs (xs.length + 1) := fun j hj => by rw [sne 64 (by decide), sne 65 (by decide)]; exact hB j hj
      have hR1' : Rw g1 (k + 1) (loB (decide (2 ≤ kind)) xs (k + 1)) (hiB (decide (2 ≤ kind)) xs (k + 1)) (DD wt (lastU kind) (xs.drop (k + 1))) := hR'.kept (fun s a b => s4 _ (fun s' c d z => by have := (tix_inj (by omega) (by omega) z).1; omega))
      have hR1 : Rw g1 k (loB (decide (2 ≤ kind)) xs k) (hiB (decide (2 ≤ kind)) xs k) (fun s => min (F s) (DD wt (lastU kind) (xs.drop (k + 1)) (s - cn (xs.getD k 0) u) + wt (xs.getD k 0) u)) := s3.congr (fun s a b => by
        by_cases ho : loB (decide (2 ≤ kind)) xs (k + 1) ≤ s - cn (xs.getD k 0) u ∧ s - cn (xs.getD k 0) u ≤ hiB (decide (2 ≤ kind)) xs (k + 1)
        · rw [if_pos ho]
        · rw [if_neg ho, out_use hw hk ⟨h1, by omega⟩ a b ho]
          have := (hR s a b).2.2
          omega)
      obtain ⟨g', t1, t2, t3, t4⟩ := ih fu (u + 1) g1 _ (by omega) (by omega) (by omega) hP1 hB1 hR1 hR1'
      refine ⟨g', t1, Sb.tr s2 t2, t3, fun j hj => ?_⟩
      rw [t4 j hj, s4 j hj]
end T
