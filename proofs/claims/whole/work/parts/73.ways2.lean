/-! in how many ways, on the other side -/
theorem I_64c (z : Int) (h : -2147483648 ≤ z ∧ z < 2147483648) : (I z).toInt64.toInt = z := by rw [Int32.toInt_toInt64, I_toInt h.1 h.2]
section T
variable {p q w v : Nat} {ds : Nat → Nat}
theorem M_w249 (k : Hp → Nat → Int32 → Int32 → Int32 → Int32 → Option (Int32 × Hp)) {set a kd' x : Int32} : ∀ (m fu j : Nat) (g : Nat → Nat → Int32), m < fu → j + m = 601 → (∀ i, i < j → g 97 i = g 98 i) →
    ∃ g', f_X12_waysOf_249 k fu (g, RF p q w v ds) 83 set a kd' x (I j) = k (g', RF p q w v ds) 83 set a kd' (x + 1) ∧ Sb [97] g g' ∧ ∀ i, i < 601 → g' 97 i = g 98 i := by
  intro m
  induction m with
  | zero =>
    intro fu j g hf hk hI
    obtain ⟨fu, rfl⟩ : ∃ k, fu = k + 1 := ⟨fu - 1, by omega⟩
    have : j = 601 := by omega
    subst this
    refine ⟨g, ?_, Sb.rf, hI⟩
    rw [f_X12_waysOf_249]
    exact if_pos (by decide)
  | succ m ih =>
    intro fu j g hf hk hI
    obtain ⟨fu, rfl⟩ : ∃ k, fu = k + 1 := ⟨fu - 1, by omega⟩
    have c1 : ¬ (601 : Int32) ≤ I (j : Int) := fun z => by have := (I_le (a := 601) (by omega) (by omega)).mp z; omega
    obtain ⟨g', e, s', ht⟩ := ih fu (j + 1) (uc g 97 (upd (g 97) j (g 98 j))) (by omega) (by omega) (fun i hi => by
      rw [uc_s, uc_n (by decide)]
      by_cases c : i = j
      · subst c; rw [upd_s]
      · rw [upd_n c]; exact hI i (by omega))
    refine ⟨g', ?_, fun b hb => by rw [s' b hb, uc_n (fun z => hb (by rw [z]; decide))], fun i hi => by rw [ht i hi, uc_n (by decide)]⟩
    rw [← e]
    simp only [f_X12_waysOf_249]
    rw [if_neg c1]
    simp only [r_83_1, r_83_2, r_83_3, r_83_4, r_83_6, r_83_8, r_83_11, r_83_13, r_83_15, r_83_19, r_83_20, r_83_21, r_83_22, r_83_24, r_83_25, r_83_26, r_83_28, r_83_29, k_83, n_83, k_84, n_84, k_85, n_85, k_86, n_86, k_87, n_87, k_88, n_88, k_89, n_89, k_90, n_90, k_91, n_91, k_92, n_92, k_93, n_93, k_94, n_94, k_95, n_95, k_96, n_96, k_97, n_97, k_98, n_98, k_99, n_99, k_100, n_100, k_101, n_101, gd, if_true, reduceIte, I_in (show j < 601 by omega) (show 601 < 1000000 by decide), I_ix (show j < 1000000 by omega), lt_w, I_s]
theorem M_w177 (k : Hp → Nat → Int32 → Int32 → Int32 → Int32 → Option (Int32 × Hp)) (k' : Hp → Nat → Int32 → Int32 → Int32 → Int32 → Int32 → Option (Int32 × Hp)) {set a t0 t1 : Int32} {kind x j : Nat} (hkd : kind ≤ 3) (hx : x ≤ 24) (hj : j < 601) {g : Nat → Nat → Int32} {W : Int → Int32} (hfar : ∀ s : Int, s < -300 ∨ 300 < s → W s = 0) (hW : ∀ i : Nat, i < 601 → g 97 i = W ((i : Int) - 300)) :
    f_X12_waysOf_177 k k' (g, RF p q w v ds) 83 set a (I kind) (I x) (I j) t0 t1 = f_X12_waysOf_228 k k' (g, RF p q w v ds) 83 set a (I kind) (I x) (I j) (t0 + t1) (if kind = 3 ∧ x % 2 = 0 then W ((j : Int) - 300 - ((x / 2 : Nat) : Int)) else 0) := by
  unfold f_X12_waysOf_177 f_X12_waysOf_227
  by_cases hk : kind = 3
  · subst hk
    rw [if_pos (show I ((3 : Nat) : Int) = (3 : Int32) by decide)]
    have e2 : I (x : Int) / (2 : Int32) = I ((x / 2 : Nat) : Int) := by rw [show (2 : Int32) = I 2 from rfl, I_div2 (by omega) (by omega)]; rfl
    have e3 : I (x : Int) - I (x : Int) / (2 : Int32) * (2 : Int32) = I ((x % 2 : Nat) : Int) := by rw [e2, show (2 : Int32) = I 2 from rfl, I_mul, I_sub]; congr 1; omega
    rw [e3, e2, I_sub]
    by_cases h0 : x % 2 = 0
    · rw [if_pos (by rw [h0]; rfl), M_in, bd_w, I_64c _ (by omega), show (0 : Int64).toInt = 0 by decide, show (600 : Int64).toInt = 600 by decide]
      rw [if_pos (show (3 = 3 ∧ x % 2 = 0) from ⟨rfl, h0⟩)]
      by_cases hc : (0 : Int) ≤ (j : Int) - ((x / 2 : Nat) : Int) ∧ (j : Int) - ((x / 2 : Nat) : Int) ≤ 600
      · rw [if_pos hc, if_neg (by decide)]
        have := hW ((j : Int) - ((x / 2 : Nat) : Int)).toNat (by omega)
        simp only [r_83_1, r_83_2, r_83_3, r_83_4, r_83_6, r_83_8, r_83_11, r_83_13, r_83_15, r_83_19, r_83_20, r_83_21, r_83_22, r_83_24, r_83_25, r_83_26, r_83_28, r_83_29, k_83, n_83, k_84, n_84, k_85, n_85, k_86, n_86, k_87, n_87, k_88, n_88, k_89, n_89, k_90, n_90, k_91, n_91, k_92, n_92, k_93, n_93, k_94, n_94, k_95, n_95, k_96, n_96, k_97, n_97, k_98, n_98, k_99, n_99, k_100, n_100, k_101, n_101, gd, if_true, reduceIte, I_inr hc.1 (show (j : Int) - ((x / 2 : Nat) : Int) < (601 : Nat) by omega) (by decide), I_cl (show -2147483648 ≤ (j : Int) - ((x / 2 : Nat) : Int) by omega) (show (j : Int) - ((x / 2 : Nat) : Int) < 2147483648 by omega), this]
        rw [show (((j : Int) - ((x / 2 : Nat) : Int)).toNat : Int) - 300 = (j : Int) - 300 - ((x / 2 : Nat) : Int) by omega]
      · rw [if_neg hc, if_pos rfl, hfar _ (by omega)]
    · rw [if_neg (fun z => h0 (by have := (I_inj (b := 0) (by omega) (by omega)).mp z; omega)), if_neg (fun z => h0 z.2)]
  · rw [if_neg (fun z => hk (by have := (I_inj (b := 3) (by omega) (by omega)).mp z; omega)), if_neg (fun z => hk z.1)]
theorem M_w138 (k : Hp → Nat → Int32 → Int32 → Int32 → Int32 → Option (Int32 × Hp)) (k' : Hp → Nat → Int32 → Int32 → Int32 → Int32 → Int32 → Option (Int32 × Hp)) {set a t0 : Int32} {kind x j : Nat} (hkd : kind ≤ 3) (hx : x ≤ 24) (hj : j < 601) {g : Nat → Nat → Int32} {W : Int → Int32} (hfar : ∀ s : Int, s < -300 ∨ 300 < s → W s = 0) (hW : ∀ i : Nat, i < 601 → g 97 i = W ((i : Int) - 300)) :
    f_X12_waysOf_138 k k' (g, RF p q w v ds) 83 set a (I kind) (I x) (I j) t0 = f_X12_waysOf_177 k k' (g, RF p q w v ds) 83 set a (I kind) (I x) (I j) t0 (if kind < 2 then 0 else W ((j : Int) - 300 + x)) := by
  unfold f_X12_waysOf_138 f_X12_waysOf_176
  by_cases hk : kind < 2
  · rw [if_pos (show I (kind : Int) < (2 : Int32) from (I_lt (b := 2) (by omega) (by omega)).mpr (by omega)), if_pos hk]
  · rw [if_neg (fun z => hk (by have := (I_lt (b := 2) (by omega) (by omega)).mp z; omega)), if_neg hk, I_add, M_in, bd_w, I_64c _ (by omega), show (0 : Int64).toInt = 0 by decide, show (600 : Int64).toInt = 600 by decide]
    by_cases hc : (0 : Int) ≤ (j : Int) + x ∧ (j : Int) + x ≤ 600
    · rw [if_pos hc, if_neg (by decide)]
      have := hW ((j : Int) + x).toNat (by omega)
      simp only [r_83_1, r_83_2, r_83_3, r_83_4, r_83_6, r_83_8, r_83_11, r_83_13, r_83_15, r_83_19, r_83_20, r_83_21, r_83_22, r_83_24, r_83_25, r_83_26, r_83_28, r_83_29, k_83, n_83, k_84, n_84, k_85, n_85, k_86, n_86, k_87, n_87, k_88, n_88, k_89, n_89, k_90, n_90, k_91, n_91, k_92, n_92, k_93, n_93, k_94, n_94, k_95, n_95, k_96, n_96, k_97, n_97, k_98, n_98, k_99, n_99, k_100, n_100, k_101, n_101, gd, if_true, reduceIte, I_inr hc.1 (show (j : Int) + x < (601 : Nat) by omega) (by decide), I_cl (show -2147483648 ≤ (j : Int) + x by omega) (show (j : Int) + x < 2147483648 by omega), this]
      rw [show (((j : Int) + x).toNat : Int) - 300 = (j : Int) - 300 + x by omega]
    · rw [if_neg hc, if_pos rfl, hfar _ (by omega)]
theorem ps_l {W : Int → Int32} {x l : Nat} (h1 : 1 ≤ l) (h3 : l ≤ 3) (s : Int) : W (s - x) + (if l < 2 then 0 else W (s + x)) + (if l = 3 ∧ x % 2 = 0 then W (s - ((x / 2 : Nat) : Int)) else 0) = ps W x s l := by
  have e1 : cst x 1 = true := rfl
  have e2 : cst x 2 = true := rfl
  have e3 : cst x 3 = decide (x % 2 = 0) := by unfold cst; simp
  have c1 : cn x 1 = x := rfl
  have c2 : cn x 2 = -(x : Int) := rfl
  have c3 : cn x 3 = ((x / 2 : Nat) : Int) := rfl
  have : l = 1 ∨ l = 2 ∨ l = 3 := by omega
  rcases this with rfl | rfl | rfl
  · simp only [ps, e1, c1, if_true, Int32.zero_add]
    rw [if_pos (by decide), if_neg (by omega), Int32.add_zero, Int32.add_zero]
  · simp only [ps, e1, c1, e2, c2, if_true, Int32.zero_add]
    rw [if_neg (by decide), if_neg (by omega), Int32.add_zero, Int.sub_neg]
  · simp only [ps, e1, c1, e2, c2, e3, c3, if_true, Int32.zero_add, decide_eq_true_eq, true_and]
    rw [if_neg (by decide), Int.sub_neg]
theorem M_w100 (k : Hp → Nat → Int32 → Int32 → Int32 → Int32 → Option (Int32 × Hp)) {set a : Int32} {kind x : Nat} (hkd : 1 ≤ kind ∧ kind ≤ 3) (hx : x ≤ 24) {W : Int → Int32} (hfar : ∀ s : Int, s < -300 ∨ 300 < s → W s = 0) : ∀ (m fu j : Nat) (g : Nat → Nat → Int32), m < fu → j + m = 601 → (∀ i : Nat, i < 601 → g 97 i = W ((i : Int) - 300)) → (∀ i : Nat, i < j → g 98 i = ps W x ((i : Int) - 300) kind) →
    ∃ g', f_X12_waysOf_100 k fu (g, RF p q w v ds) 83 set a (I kind) (I x) (I j) = f_X12_waysOf_249 k FU (g', RF p q w v ds) 83 set a (I kind) (I x) 0 ∧ Sb [98] g g' ∧ ∀ i : Nat, i < 601 → g' 98 i = ps W x ((i : Int) - 300) kind := by
  intro m
  induction m with
  | zero =>
    intro fu j g hf hk hW hI
    obtain ⟨fu, rfl⟩ : ∃ k, fu = k + 1 := ⟨fu - 1, by omega⟩
    have : j = 601 := by omega
    subst this
    refine ⟨g, ?_, Sb.rf, hI⟩
    rw [f_X12_waysOf_100]
    exact if_pos (by decide)
  | succ m ih =>
    intro fu j g hf hk hW hI
    obtain ⟨fu, rfl⟩ : ∃ k, fu = k + 1 := ⟨fu - 1, by omega⟩
    have c1 : ¬ (601 : Int32) ≤ I (j : Int) := fun z => by have := (I_le (a := 601) (by omega) (by omega)).mp z; omega
    obtain ⟨g', e, s', ht⟩ := ih fu (j + 1) (uc g 98 (upd (g 98) j (ps W x ((j : Int) - 300) kind))) (by omega) (by omega) (fun i hi => by rw [uc_n (by decide)]; exact hW i hi) (fun i hi => by
      rw [uc_s]
      by_cases c : i = j
      · subst c; rw [upd_s]
      · rw [upd_n c]; exact hI i (by omega))
    refine ⟨g', ?_, fun b hb => by rw [s' b hb, uc_n (fun z => hb (by rw [z]; decide))], ht⟩
    have e1 : f_X12_waysOf_100 k (fu + 1) (g, RF p q w v ds) 83 set a (I kind) (I x) (I j) = f_X12_waysOf_138 k (f_X12_waysOf_100 k fu) (g, RF p q w v ds) 83 set a (I kind) (I x) (I j) (W ((j : Int) - 300 - x)) := by
      simp only [f_X12_waysOf_100]
      rw [if_neg c1, I_sub, M_in, bd_w, I_64c _ (by omega), show (0 : Int64).toInt = 0 by decide, show (600 : Int64).toInt = 600 by decide]
      by_cases hc : (0 : Int) ≤ (j : Int) - x ∧ (j : Int) - x ≤ 600
      · rw [if_pos hc, if_neg (by decide)]
        have := hW ((j : Int) - x).toNat (by omega)
        simp only [r_83_1, r_83_2, r_83_3, r_83_4, r_83_6, r_83_8, r_83_11, r_83_13, r_83_15, r_83_19, r_83_20, r_83_21, r_83_22, r_83_24, r_83_25, r_83_26, r_83_28, r_83_29, k_83, n_83, k_84, n_84, k_85, n_85, k_86, n_86, k_87, n_87, k_88, n_88, k_89, n_89, k_90, n_90, k_91, n_91, k_92, n_92, k_93, n_93, k_94, n_94, k_95, n_95, k_96, n_96, k_97, n_97, k_98, n_98, k_99, n_99, k_100, n_100, k_101, n_101, gd, if_true, reduceIte, I_inr hc.1 (show (j : Int) - x < (601 : Nat) by omega) (by decide), I_cl (show -2147483648 ≤ (j : Int) - x by omega) (show (j : Int) - x < 2147483648 by omega), this]
        rw [show (((j : Int) - x).toNat : Int) - 300 = (j : Int) - 300 - x by omega]
      · rw [if_neg hc, if_pos rfl, hfar _ (by omega)]
    rw [← e, e1, M_w138 _ _ hkd.2 hx (by omega) hfar hW, M_w177 _ _ hkd.2 hx (by omega) hfar hW]
    unfold f_X12_waysOf_228
    simp only [r_83_1, r_83_2, r_83_3, r_83_4, r_83_6, r_83_8, r_83_11, r_83_13, r_83_15, r_83_19, r_83_20, r_83_21, r_83_22, r_83_24, r_83_25, r_83_26, r_83_28, r_83_29, k_83, n_83, k_84, n_84, k_85, n_85, k_86, n_86, k_87, n_87, k_88, n_88, k_89, n_89, k_90, n_90, k_91, n_91, k_92, n_92, k_93, n_93, k_94, n_94, k_95, n_95, k_96, n_96, k_97, n_97, k_98, n_98, k_99, n_99, k_100, n_100, k_101, n_101, gd, if_true, reduceIte, I_in (show j < 601 by omega) (show 601 < 1000000 by decide), I_ix (show j < 1000000 by omega), lt_w, I_s, ps_l hkd.1 hkd.2]
theorem M_w75 {set : Int32} {n a kind : Nat} (hkd : 1 ≤ kind ∧ kind ≤ 3) (hn : n ≤ 24) (ha : a ≤ 99) : ∀ (m fu k : Nat) (g : Nat → Nat → Int32), m < fu → k + m = n → g 84 0 = I n → (∀ i : Nat, i < 601 → g 97 i = WA 1 set kind k ((i : Int) - 300)) →
    ∃ g', f_X12_waysOf_75 fu (g, RF p q w v ds) 83 set (I a) (I kind) (I ((k + 1 : Nat) : Int)) = some (WA 1 set kind n a, (g', RF p q w v ds)) ∧ Sb [97, 98] g g' := by
  intro m
  induction m with
  | zero =>
    intro fu k g hf hk h0 hW
    obtain ⟨fu, rfl⟩ : ∃ k, fu = k + 1 := ⟨fu - 1, by omega⟩
    have : k = n := by omega
    subst this
    refine ⟨g, ?_, Sb.rf⟩
    have c1 : I (k : Int) < I ((k + 1 : Nat) : Int) := (I_lt (by omega) (by omega)).mpr (by omega)
    rw [f_X12_waysOf_75]
    simp only [r_83_1, r_83_2, r_83_3, r_83_4, r_83_6, r_83_8, r_83_11, r_83_13, r_83_15, r_83_19, r_83_20, r_83_21, r_83_22, r_83_24, r_83_25, r_83_26, r_83_28, r_83_29, k_83, n_83, k_84, n_84, k_85, n_85, k_86, n_86, k_87, n_87, k_88, n_88, k_89, n_89, k_90, n_90, k_91, n_91, k_92, n_92, k_93, n_93, k_94, n_94, k_95, n_95, k_96, n_96, k_97, n_97, k_98, n_98, k_99, n_99, k_100, n_100, k_101, n_101, ci_0, ci_1, ci_2, ci_3, ci_4, ii_0, ii_1, ii_2, ii_3, ii_4, id_0, id_1, id_2, gd, if_true, reduceIte, h0, if_pos c1, I_300, I_inr (show 0 ≤ 300 + (a : Int) by omega) (show 300 + (a : Int) < (601 : Nat) by omega) (by decide), I_cl (show -2147483648 ≤ 300 + (a : Int) by omega) (show 300 + (a : Int) < 2147483648 by omega)]
    rw [hW _ (by omega), show ((300 + (a : Int)).toNat : Int) - 300 = a by omega]
  | succ m ih =>
    intro fu k g hf hk h0 hW
    obtain ⟨fu, rfl⟩ : ∃ k, fu = k + 1 := ⟨fu - 1, by omega⟩
    have c1 : ¬ I (n : Int) < I ((k + 1 : Nat) : Int) := fun z => by have := (I_lt (by omega) (by omega)).mp z; omega
    have e0 : f_X12_waysOf_75 (fu + 1) (g, RF p q w v ds) 83 set (I a) (I kind) (I ((k + 1 : Nat) : Int)) = if (if bt set k then (1 : Int32) else 0) = 0 then f_X12_waysOf_75 fu (g, RF p q w v ds) 83 set (I a) (I kind) (I ((k + 1 + 1 : Nat) : Int)) else f_X12_waysOf_100 (f_X12_waysOf_75 fu) FU (g, RF p q w v ds) 83 set (I a) (I kind) (I ((k + 1 : Nat) : Int)) 0 := by
      rw [f_X12_waysOf_75]
      simp only [r_83_1, r_83_2, r_83_3, r_83_4, r_83_6, r_83_8, r_83_11, r_83_13, r_83_15, r_83_19, r_83_20, r_83_21, r_83_22, r_83_24, r_83_25, r_83_26, r_83_28, r_83_29, k_83, n_83, k_84, n_84, k_85, n_85, k_86, n_86, k_87, n_87, k_88, n_88, k_89, n_89, k_90, n_90, k_91, n_91, k_92, n_92, k_93, n_93, k_94, n_94, k_95, n_95, k_96, n_96, k_97, n_97, k_98, n_98, k_99, n_99, k_100, n_100, k_101, n_101, ci_0, ci_1, ci_2, ci_3, ci_4, ii_0, ii_1, ii_2, ii_3, ii_4, id_0, id_1, id_2, gd, if_true, reduceIte, h0, if_neg c1, I_p (show 1 ≤ k + 1 by omega), Nat.add_sub_cancel, M_has _ _ (show k < 32 by omega), bd_w, I_s]
    rw [e0]
    by_cases hb : bt set k = true
    · have hWA : WA 1 set kind (k + 1) = fun s => ps (WA 1 set kind k) (k + 1) s kind := if_pos hb
      have hB := BA_300 set (show k ≤ 24 by omega)
      obtain ⟨g1, e1, s1, t1'⟩ := M_w100 (p := p) (q := q) (w := w) (v := v) (ds := ds) (f_X12_waysOf_75 fu) (set := set) (a := I a) hkd (x := k + 1) (by omega) (fun s hs => WA_far (c := 1) (set := set) hkd.2 k s (by omega)) 601 FU 0 g (FU_lt (by omega)) (by omega) hW (fun i hi => absurd hi (by omega))
      obtain ⟨g2, e2, s2, t2⟩ := M_w249 (p := p) (q := q) (w := w) (v := v) (ds := ds) (f_X12_waysOf_75 fu) (set := set) (a := I a) (kd' := I kind) (x := I ((k + 1 : Nat) : Int)) 601 FU 0 g1 (FU_lt (by omega)) (by omega) (fun i hi => absurd hi (by omega))
      obtain ⟨g', e, s'⟩ := ih fu (k + 1) g2 (by omega) (by omega) (by rw [s2 84 (by decide), s1 84 (by decide)]; exact h0) (fun i hi => by rw [t2 i hi, t1' i hi, hWA])
      refine ⟨g', ?_, Sb.tr (Sb.tr (s1.mono (by decide)) (s2.mono (by decide))) s'⟩
      rw [if_neg (by rw [if_pos hb]; decide)]
      refine Eq.trans e1 (Eq.trans e2 ?_)
      rw [I_s]
      exact e
    · have hWA : WA 1 set kind (k + 1) = WA 1 set kind k := if_neg hb
      obtain ⟨g', e, s'⟩ := ih fu (k + 1) g (by omega) (by omega) h0 (by rw [hWA]; exact hW)
      exact ⟨g', by rw [if_pos (by rw [if_neg hb])]; exact e, s'⟩
theorem M_w38 {set a kd' : Int32} : ∀ (m fu j : Nat) (g : Nat → Nat → Int32), m < fu → j + m = 601 → (∀ i : Nat, i < j → g 97 i = if i = 300 then 1 else 0) →
    ∃ g', f_X12_waysOf_38 fu (g, RF p q w v ds) 83 set a kd' (I j) = f_X12_waysOf_75 FU (g', RF p q w v ds) 83 set a kd' 1 ∧ Sb [97] g g' ∧ ∀ i : Nat, i < 601 → g' 97 i = if i = 300 then 1 else 0 := by
  intro m
  induction m with
  | zero =>
    intro fu j g hf hk hI
    obtain ⟨fu, rfl⟩ : ∃ k, fu = k + 1 := ⟨fu - 1, by omega⟩
    have : j = 601 := by omega
    subst this
    refine ⟨g, ?_, Sb.rf, hI⟩
    rw [f_X12_waysOf_38]
    exact if_pos (by decide)
  | succ m ih =>
    intro fu j g hf hk hI
    obtain ⟨fu, rfl⟩ : ∃ k, fu = k + 1 := ⟨fu - 1, by omega⟩
    have c1 : ¬ (601 : Int32) ≤ I (j : Int) := fun z => by have := (I_le (a := 601) (by omega) (by omega)).mp z; omega
    obtain ⟨g', e, s', ht⟩ := ih fu (j + 1) (uc g 97 (upd (g 97) j (if j = 300 then 1 else 0))) (by omega) (by omega) (fun i hi => by
      rw [uc_s]
      by_cases c : i = j
      · subst c; rw [upd_s]
      · rw [upd_n c]; exact hI i (by omega))
    refine ⟨g', ?_, fun b hb => by rw [s' b hb, uc_n (fun z => hb (by rw [z]; decide))], ht⟩
    rw [← e]
    simp only [f_X12_waysOf_38]
    rw [if_neg c1]
    unfold f_X12_waysOf_65
    by_cases c : j = 300
    · subst c
      simp only [r_83_1, r_83_2, r_83_3, r_83_4, r_83_6, r_83_8, r_83_11, r_83_13, r_83_15, r_83_19, r_83_20, r_83_21, r_83_22, r_83_24, r_83_25, r_83_26, r_83_28, r_83_29, k_83, n_83, k_84, n_84, k_85, n_85, k_86, n_86, k_87, n_87, k_88, n_88, k_89, n_89, k_90, n_90, k_91, n_91, k_92, n_92, k_93, n_93, k_94, n_94, k_95, n_95, k_96, n_96, k_97, n_97, k_98, n_98, k_99, n_99, k_100, n_100, k_101, n_101, gd, if_true, reduceIte, if_pos (show I ((300 : Nat) : Int) = (300 : Int32) by decide), I_in (show 300 < 601 by omega) (show 601 < 1000000 by decide), I_ix (show 300 < 1000000 by omega), lt_w, I_s]
    · simp only [r_83_1, r_83_2, r_83_3, r_83_4, r_83_6, r_83_8, r_83_11, r_83_13, r_83_15, r_83_19, r_83_20, r_83_21, r_83_22, r_83_24, r_83_25, r_83_26, r_83_28, r_83_29, k_83, n_83, k_84, n_84, k_85, n_85, k_86, n_86, k_87, n_87, k_88, n_88, k_89, n_89, k_90, n_90, k_91, n_91, k_92, n_92, k_93, n_93, k_94, n_94, k_95, n_95, k_96, n_96, k_97, n_97, k_98, n_98, k_99, n_99, k_100, n_100, k_101, n_101, gd, if_true, reduceIte, if_neg (show ¬ I (j : Int) = (300 : Int32) from fun z => c (by have := (I_inj (b := 300) (by omega) (by omega)).mp z; omega)), I_in (show j < 601 by omega) (show 601 < 1000000 by decide), I_ix (show j < 1000000 by omega), lt_w, I_s, if_neg c]
theorem one_bit {set : Int32} : ∀ k, k ≤ 32 → pc k set = 1 → ∃ i, i < k ∧ bt set i = true ∧ ∀ j, j < k → bt set j = true → j = i := by
  have z : ∀ k, pc k set = 0 → ∀ j, j < k → bt set j = false := by
    intro k
    induction k with
    | zero => intro _ j hj; omega
    | succ k ih =>
      intro h j hj
      unfold pc at h
      by_cases hb : bt set k = true
      · rw [if_pos hb] at h; omega
      · by_cases c : j = k
        · subst c; exact Bool.eq_false_iff.mpr hb
        · exact ih (by omega) j (by omega)
  intro k
  induction k with
  | zero => intro _ h; exact absurd (show (0 : Nat) = 1 from h) (by decide)
  | succ k ih =>
    intro hk h
    unfold pc at h
    by_cases hb : bt set k = true
    · rw [if_pos hb] at h
      refine ⟨k, by omega, hb, fun j hj hj2 => ?_⟩
      by_cases c : j = k
      · exact c
      · rw [z k (by omega) j (by omega)] at hj2; cases hj2
    · rw [if_neg hb] at h
      obtain ⟨i, h1, h2, h3⟩ := ih (by omega) h
      refine ⟨i, by omega, h2, fun j hj hj2 => ?_⟩
      by_cases c : j = k
      · subst c; exact absurd hj2 hb
      · exact h3 j (by omega) hj2
theorem WA_one {set : Int32} {i : Nat} (hi : i < 24) (hb : bt set i = true) (h : ∀ j, j < 24 → bt set j = true → j = i) : ∀ k, k ≤ 24 → ∀ s : Int, WA 1 set 1 k s = if s = (if i < k then ((i + 1 : Nat) : Int) else 0) then 1 else 0 := by
  intro k
  induction k with
  | zero => intro _ s; rfl
  | succ k ih =>
    intro hk s
    unfold WA
    by_cases c : k = i
    · subst c
      rw [if_pos hb]
      show (0 : Int32) + (if cst (k + 1) 1 then _ else 0) = _
      rw [show cst (k + 1) 1 = true from rfl, if_pos rfl, ih (by omega), if_neg (show ¬ k < k by omega), if_pos (show k < k + 1 by omega), Int32.zero_add, show cn (k + 1) 1 = ((k + 1 : Nat) : Int) from rfl]
      by_cases c2 : s = ((k + 1 : Nat) : Int)
      · rw [if_pos c2, if_pos (by omega)]
      · rw [if_neg c2, if_neg (by omega)]
    · have hb2 : ¬ bt set k = true := fun z => c (h k (by omega) z)
      rw [if_neg hb2, ih (by omega) s]
      have : (if i < k then ((i + 1 : Nat) : Int) else 0) = (if i < k + 1 then ((i + 1 : Nat) : Int) else 0) := by
        by_cases c3 : i < k
        · rw [if_pos c3, if_pos (by omega)]
        · rw [if_neg c3, if_neg (by omega)]
      rw [this]
theorem WYS_0 {set : Int32} {n a : Nat} (hn : n ≤ 24) (hL : LO n set) (ha : a ≤ 99) : WYS set 0 a = if (1 ≤ a ∧ a ≤ n) ∧ set = b1 (a - 1) then 1 else 0 := by
  unfold WYS wc
  by_cases h1 : pc 32 set = 1
  · obtain ⟨i, i1, i2, i3⟩ := one_bit 32 (by decide) h1
    have hin : i < n := by
      rcases Nat.lt_or_ge i n with z | z
      · exact z
      · rw [hL i z i1] at i2; cases i2
    rw [if_neg (fun z => z.2 h1), show lastU 0 = 1 from rfl, WA_one (i := i) (by omega) i2 (fun j hj => i3 j (by omega)) 24 (by decide), if_pos (show i < 24 by omega)]
    have es : set = b1 i := by
      apply bt_ext
      intro j hj
      rw [bt_b1 i1 hj]
      by_cases c : j = i
      · rw [c, i2]; simp
      · rw [decide_eq_false c]; exact Bool.eq_false_iff.mpr (fun z => c (i3 j hj z))
    by_cases c : a = i + 1
    · subst c
      rw [if_pos rfl, if_pos ⟨by omega, es⟩]
    · rw [if_neg (by omega), if_neg (fun z => by
        have := congrArg (fun y => bt y i) (es.symm.trans z.2)
        simp only [bt_b1 i1 i1, bt_b1 (show a - 1 < 32 by omega) i1, decide_true] at this
        have := of_decide_eq_true this.symm
        omega)]
  · rw [if_pos ⟨rfl, h1⟩, WA_zero]
    rw [if_neg (fun z => h1 ?_)]
    obtain ⟨⟨z1, z2⟩, z3⟩ := z
    rw [z3]
    have : ∀ k, k < 24 → pc 32 (b1 k) = 1 := by decide +kernel
    exact this (a - 1) (by omega)
theorem M_waysOf {set : Int32} {n a kind : Nat} {g : Nat → Nat → Int32} (h0 : g 84 0 = I n) (hn : n ≤ 24) (hL : LO n set) (ha : a ≤ 99) (hkd : kind ≤ 3) : ∃ g', f_X12_waysOf (g, RF p q w v ds) 83 set (I a) (I kind) = some (WYS set kind a, (g', RF p q w v ds)) ∧ Sb [97, 98] g g' := by
  by_cases hk : kind = 0
  · subst hk
    refine ⟨g, ?_, Sb.rf⟩
    rw [WYS_0 hn hL ha]
    unfold f_X12_waysOf
    rw [gd_t (show kd 83 = 12 from rfl), if_pos (show I ((0 : Nat) : Int) = 0 by decide)]
    simp only [r_83_1, r_83_2, r_83_3, r_83_4, r_83_6, r_83_8, r_83_11, r_83_13, r_83_15, r_83_19, r_83_20, r_83_21, r_83_22, r_83_24, r_83_25, r_83_26, r_83_28, r_83_29, k_83, n_83, k_84, n_84, k_85, n_85, k_86, n_86, k_87, n_87, k_88, n_88, k_89, n_89, k_90, n_90, k_91, n_91, k_92, n_92, k_93, n_93, k_94, n_94, k_95, n_95, k_96, n_96, k_97, n_97, k_98, n_98, k_99, n_99, k_100, n_100, k_101, n_101, ci_0, ci_1, ci_2, ci_3, ci_4, ii_0, ii_1, ii_2, ii_3, ii_4, id_0, id_1, id_2, gd, if_true, reduceIte, h0, M_in, bd_w]
    rw [I_64c _ (by omega), I_64c _ (by omega), show (1 : Int64).toInt = 1 by decide]
    by_cases hc : 1 ≤ a ∧ a ≤ n
    · rw [if_pos (show (1 : Int) ≤ a ∧ (a : Int) ≤ n by omega), if_neg (by decide), I_p hc.1]
      by_cases hs : set = b1 (a - 1)
      · rw [if_pos (show (1 ≤ a ∧ a ≤ n) ∧ set = b1 (a - 1) from ⟨hc, hs⟩)]; exact if_pos hs
      · rw [if_neg (show ¬ ((1 ≤ a ∧ a ≤ n) ∧ set = b1 (a - 1)) from fun z => hs z.2)]; exact if_neg hs
    · rw [if_neg (show ¬ ((1 : Int) ≤ a ∧ (a : Int) ≤ n) by omega), if_pos rfl, if_neg (fun z => hc z.1)]
  · have hlu : lastU kind = kind := lu_k hkd hk
    have hc : wc set kind = 1 := if_neg (fun z => hk z.1)
    have hY : WYS set kind a = WA 1 set kind n a := by
      unfold WYS
      rw [hlu, hc]
      have := WA_more (c := 1) (l := kind) hL (24 - n) (by omega)
      rw [show n + (24 - n) = 24 by omega] at this
      rw [this]
    obtain ⟨g1, e1, s1, t1'⟩ := M_w38 (p := p) (q := q) (w := w) (v := v) (ds := ds) (set := set) (a := I a) (kd' := I kind) 601 FU 0 g (FU_lt (by omega)) (by omega) (fun i hi => absurd hi (by omega))
    obtain ⟨g2, e2, s2⟩ := M_w75 (p := p) (q := q) (w := w) (v := v) (ds := ds) (set := set) (show 1 ≤ kind ∧ kind ≤ 3 by omega) hn ha n FU 0 g1 (FU_lt (by omega)) (by omega) (by rw [s1 84 (by decide)]; exact h0) (fun i hi => by
      rw [t1' i hi]
      show _ = if (i : Int) - 300 = 0 then (1 : Int32) else 0
      by_cases c : i = 300
      · rw [if_pos c, if_pos (by omega)]
      · rw [if_neg c, if_neg (by omega)])
    refine ⟨g2, ?_, Sb.tr (s1.mono (by decide)) s2⟩
    rw [hY]
    unfold f_X12_waysOf
    rw [gd_t (show kd 83 = 12 from rfl), if_neg (fun z => hk (by have := (I_inj (b := 0) (by omega) (by omega)).mp z; omega))]
    exact e1.trans e2
end T
theorem S_ways : Sp3 Inv f_X11_ways f_X12_ways := by
  rintro h a b c ⟨g, p, q, w, v, ds, n, np, kind, rfl, hV⟩
  obtain ⟨kp, -⟩ := Pk hV.p
  have hn := hV.pw.2.1
  have e0 : g p 0 = I n := by rw [hV.pr.1 0 (by decide)]; exact hV.pw.1
  have z1 : ¬ (1 : Int32) = 0 := by decide
  obtain ⟨r, xb, x1, x0⟩ := X_isSet (p := p) (q := q) (w := w) (v := v) (ds := ds) kp e0 hn.2 a
  obtain ⟨r', nb, n1, n0⟩ := M_noSet (p := p) (q := q) (w := w) (v := v) (ds := ds) (g := th g) (by rw [th_n (by decide)]; exact hV.pw.1) hn.1 hn.2 a
  by_cases hc : a ≠ 0 ∧ LO n a
  · have hb := x1 hc
    subst hb
    rcases arg_c b 99 with ⟨am, am1, rfl⟩ | ho
    · rcases arg_c c 3 with ⟨k, k1, rfl⟩ | ho
      · obtain ⟨g1, w', v', r1, hw', s1, r2, r3⟩ := X_reckon (p := p) (q := q) (w := w) (v := v) (ds := ds) (set := a) hV.2.1 k1 g
        have hl : lastU k ≤ 3 := lu3 _
        have r4 := X_coming (p := p) (q := q) (ds := ds) hw' am1 hl r2 r3
        obtain ⟨g2, m1, m2⟩ := M_waysOf (p := p) (q := q) (w := w') (v := v') (ds := ds) (set := a) (n := n) (g := th g1) (by rw [th_n (by decide), s1 84 (by decide)]; exact hV.pw.1) hn.2 hc.2 am1 k1
        refine ⟨WYS a k am, (g1, RF p q w' v' ds), (g2, RF p q w' v' ds), ?_, ?_, g2, p, q, w', v', ds, n, np, kind, rfl, ?_⟩
        · unfold f_X11_ways
          revert r1 r4
          generalize f_X9_reckon = rf
          generalize f_X9_comingTo = cf
          intro r1 r4
          have l1 : ¬ I (am : Int) < 0 := fun z => by have := (I_lt (b := 0) (by omega) (by omega)).mp z; omega
          have l2 : ¬ (99 : Int32) < I (am : Int) := fun z => by have := (I_lt (a := 99) (by omega) (by omega)).mp z; omega
          have l3 : ¬ I (k : Int) < 0 := fun z => by have := (I_lt (b := 0) (by omega) (by omega)).mp z; omega
          have l4 : I (k : Int) ≤ (3 : Int32) := (I_le (b := 3) (by omega) (by omega)).mpr (by omega)
          simp only [r_1_0, r_1_1, r_1_2, r_1_3, r_1_4, r_1_5, r_1_6, r_1_7, r_1_8, r_1_9, r_1_10, r_1_11, k_1, n_1, r_58_0, r_58_1, k_58, n_58, k_59, n_59, k_60, n_60, kp, gd, if_true, reduceIte, xb, bd_w, if_neg z1, if_neg l1, if_neg l2, if_neg l3, if_pos l4, r1, r4]
          rfl
        · obtain ⟨r', nb, n1, n0⟩ := M_noSet (p := p) (q := q) (w := w') (v := v') (ds := ds) (g := th g1) (by rw [th_n (by decide), s1 84 (by decide)]; exact hV.pw.1) hn.1 hn.2 a
          have hb := n1 hc.2
          subst hb
          unfold f_X12_ways
          revert m1
          generalize f_X12_waysOf = wf
          intro m1
          rw [gd_t (show kd 83 = 12 from rfl), th_lt, nb, bd_w, if_pos rfl, if_neg hc.1, M_in, bd_w, I_64c _ (by omega), show (0 : Int64).toInt = 0 by decide, show (99 : Int64).toInt = 99 by decide, if_pos (show (0 : Int) ≤ am ∧ (am : Int) ≤ 99 by omega), if_neg z1, M_in, bd_w, I_64c _ (by omega), show (0 : Int64).toInt = 0 by decide, show (3 : Int64).toInt = 3 by decide, if_pos (show (0 : Int) ≤ k ∧ (k : Int) ≤ 3 by omega), if_neg z1, m1, bd_w]
        · refine hV.fin (s1.xk (by decide)) ?_ ((th_mk g1).tr ⟨m2.mono (by decide), fun j hj => by rw [m2 83 (by decide)]⟩) hw'
          exact hV.sx.same (fun a h1 h2 => s1 a (by simp; omega))
      · refine ⟨-1, (g, RF p q w v ds), (th g, RF p q w v ds), ?_, ?_, hV.ask (th_mk g)⟩
        · unfold f_X11_ways
          generalize f_X9_reckon = rf
          generalize f_X9_comingTo = cf
          have l1 : ¬ I (am : Int) < 0 := fun z => by have := (I_lt (b := 0) (by omega) (by omega)).mp z; omega
          have l2 : ¬ (99 : Int32) < I (am : Int) := fun z => by have := (I_lt (a := 99) (by omega) (by omega)).mp z; omega
          simp only [r_1_0, r_1_1, r_1_2, r_1_3, r_1_4, r_1_5, r_1_6, r_1_7, r_1_8, r_1_9, r_1_10, r_1_11, k_1, n_1, kp, gd, if_true, reduceIte, xb, bd_w, if_neg z1, if_neg l1, if_neg l2]
          by_cases l3 : c < 0
          · rw [if_pos l3]
          · have l3' : ¬ c.toInt < 0 := fun z => l3 (by rw [show (0 : Int32) = I 0 from rfl, lt_out (by omega)]; exact z)
            rw [if_neg l3, if_neg (by rw [show (3 : Int32) = I 3 from rfl, le_out (by omega)]; omega)]
        · have hb := n1 hc.2
          subst hb
          unfold f_X12_ways
          generalize f_X12_waysOf = wf
          rw [gd_t (show kd 83 = 12 from rfl), th_lt, nb, bd_w, if_pos rfl, if_neg hc.1, M_in, bd_w, I_64c _ (by omega), show (0 : Int64).toInt = 0 by decide, show (99 : Int64).toInt = 99 by decide, if_pos (show (0 : Int) ≤ am ∧ (am : Int) ≤ 99 by omega), if_neg z1, M_in, bd_w, Int32.toInt_toInt64, show (0 : Int64).toInt = 0 by decide, show (3 : Int64).toInt = 3 by decide, if_neg (show ¬ ((0 : Int) ≤ c.toInt ∧ c.toInt ≤ 3) by omega), if_pos rfl]
    · refine ⟨-1, (g, RF p q w v ds), (th g, RF p q w v ds), ?_, ?_, hV.ask (th_mk g)⟩
      · unfold f_X11_ways
        generalize f_X9_reckon = rf
        generalize f_X9_comingTo = cf
        simp only [r_1_0, r_1_1, r_1_2, r_1_3, r_1_4, r_1_5, r_1_6, r_1_7, r_1_8, r_1_9, r_1_10, r_1_11, k_1, n_1, kp, gd, if_true, reduceIte, xb, bd_w, if_neg z1]
        by_cases l3 : b < 0
        · rw [if_pos l3]
        · have l3' : ¬ b.toInt < 0 := fun z => l3 (by rw [show (0 : Int32) = I 0 from rfl, lt_out (by omega)]; exact z)
          rw [if_neg l3, if_pos (by rw [show (99 : Int32) = I 99 from rfl, gt_out (by omega)]; omega)]
      · have hb := n1 hc.2
        subst hb
        unfold f_X12_ways
        generalize f_X12_waysOf = wf
        rw [gd_t (show kd 83 = 12 from rfl), th_lt, nb, bd_w, if_pos rfl, if_neg hc.1, M_in, bd_w, Int32.toInt_toInt64, show (0 : Int64).toInt = 0 by decide, show (99 : Int64).toInt = 99 by decide, if_neg (show ¬ ((0 : Int) ≤ b.toInt ∧ b.toInt ≤ 99) by omega), if_pos rfl]
  · have hb := x0 hc
    subst hb
    refine ⟨-1, (g, RF p q w v ds), (th g, RF p q w v ds), ?_, ?_, hV.ask (th_mk g)⟩
    · unfold f_X11_ways
      generalize f_X9_reckon = rf
      generalize f_X9_comingTo = cf
      simp only [r_1_0, r_1_1, r_1_2, r_1_3, r_1_4, r_1_5, r_1_6, r_1_7, r_1_8, r_1_9, r_1_10, r_1_11, k_1, n_1, kp, gd, if_true, reduceIte, xb, bd_w]
    · unfold f_X12_ways
      generalize f_X12_waysOf = wf
      rw [gd_t (show kd 83 = 12 from rfl), th_lt, nb, bd_w]
      by_cases hL : LO n a
      · have hb := n1 hL
        subst hb
        have ha : a = 0 := Classical.byContradiction (fun z => hc ⟨z, hL⟩)
        rw [if_pos rfl, if_pos ha]
      · have hb := n0 hL
        subst hb
        rw [if_neg z1]
