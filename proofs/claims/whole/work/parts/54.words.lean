/-! the words; twice -/
def wx (W : Nat → Int32) (k : Nat) : Nat := (W (2 * k)).toNatClampNeg
def wu (W : Nat → Int32) (k : Nat) : Nat := (W (2 * k + 1)).toNatClampNeg
def sumW (W : Nat → Int32) : Nat → Int32
  | 0 => 0
  | k + 1 => sumW W k + I (cn (wx W k) (wu W k))
def priW (W M : Nat → Int32) : Nat → Int32
  | 0 => 0
  | k + 1 => priW W M k + I (wM M (wx W k) (wu W k) - 1000)
def setW (W : Nat → Int32) : Nat → Int32
  | 0 => 0
  | k + 1 => setW W k ||| b1 (wx W k - 1)
/-- the words on both sides -/
def WW (g : Nat → Nat → Int32) (W : Nat → Int32) (n m : Nat) : Prop := m ≤ 10 ∧ ∀ k, k < m → (1 ≤ wx W k ∧ wx W k ≤ n) ∧ (1 ≤ wu W k ∧ wu W k ≤ 3) ∧ W (2 * k) = I (wx W k) ∧ W (2 * k + 1) = I (wu W k)
theorem WP.ww {g : Nat → Nat → Int32} {n : Nat} (hn : n ≤ 24) (h : WP g n) : ∃ m : Nat, WW g (g 91) n m ∧ g 50 0 = I m ∧ g 83 14 = I m ∧ ∀ k, k < m → g 51 k = I (wx (g 91) k) ∧ g 52 k = I (wu (g 91) k) := by
  obtain ⟨m, h1, h2, h3, h4⟩ := h
  refine ⟨m, ⟨h1, fun k hk => ?_⟩, h2, h3, fun k hk => ?_⟩
  · obtain ⟨x, u, a1, a2, a3, a4, a5, a6⟩ := h4 k hk
    unfold wx wu
    rw [a5, a6, I_ix (by omega), I_ix (by omega)]
    exact ⟨a1, a2, rfl, rfl⟩
  · obtain ⟨x, u, a1, a2, a3, a4, a5, a6⟩ := h4 k hk
    unfold wx wu
    rw [a5, a6, I_ix (by omega), I_ix (by omega)]
    exact ⟨a3, a4⟩
theorem setW_bt {W : Nat → Int32} {m : Nat} (h : ∀ k, k < m → 1 ≤ wx W k ∧ wx W k ≤ 24) {i : Nat} (hi : i < 32) : bt (setW W m) i = true ↔ ∃ k, k < m ∧ wx W k = i + 1 := by
  induction m with
  | zero => show bt 0 i = true ↔ _; rw [bt_0]; simp
  | succ m ih =>
    have hm := h m (by omega)
    show bt (setW W m ||| b1 (wx W m - 1)) i = true ↔ _
    rw [bt_or, Bool.or_eq_true, ih (fun k hk => h k (by omega)), bt_b1 (by omega) hi, decide_eq_true_eq]
    constructor
    · rintro (⟨k, h1, h2⟩ | h1)
      · exact ⟨k, by omega, h2⟩
      · exact ⟨m, by omega, by omega⟩
    · rintro ⟨k, h1, h2⟩
      by_cases e : k = m
      · subst e; exact Or.inr (by omega)
      · exact Or.inl ⟨k, by omega, h2⟩
theorem setW_lo {W : Nat → Int32} {m n : Nat} (hn : n ≤ 24) (h : ∀ k, k < m → 1 ≤ wx W k ∧ wx W k ≤ n) : LO n (setW W m) := fun i h1 h2 => by
  apply Bool.eq_false_iff.mpr
  intro hb
  obtain ⟨k, k1, k2⟩ := (setW_bt (fun k hk => by have := h k hk; omega) h2).mp hb
  have := h k k1
  omega
section T
variable {p q w v : Nat} {ds : Nat → Nat} {g : Nat → Nat → Int32} {W : Nat → Int32} {n m : Nat}
theorem X_set (hn : n ≤ 24) (hW : WW g W n m) (h0 : g 50 0 = I m) (hg : ∀ k, k < m → g 51 k = I (wx W k) ∧ g 52 k = I (wu W k)) : f_X10_set (g, RF p q w v ds) 50 = some (setW W m, (g, RF p q w v ds)) := by
  have hm := hW.1
  have lp : ∀ (r fu k : Nat), r < fu → k + r = m → f_X10_set_4 fu (g, RF p q w v ds) 50 (setW W k) (I (k : Int)) = some (setW W m, (g, RF p q w v ds)) := by
    intro r
    induction r with
    | zero =>
      intro fu k hf hk
      obtain ⟨fu, rfl⟩ : ∃ k, fu = k + 1 := ⟨fu - 1, by omega⟩
      have c1 : I (m : Int) ≤ I (k : Int) := by rw [I_len (by omega) (by omega)]; omega
      simp only [f_X10_set_4, h0, if_pos c1]
      rw [show k = m by omega]
    | succ r ih =>
      intro fu k hf hk
      obtain ⟨fu, rfl⟩ : ∃ k, fu = k + 1 := ⟨fu - 1, by omega⟩
      have c1 : ¬ I (m : Int) ≤ I (k : Int) := by rw [I_len (by omega) (by omega)]; omega
      have hk' := hW.2 k (by omega)
      have nx := ih fu (k + 1) (by omega) (by omega)
      simp only [f_X10_set_4, h0, if_neg c1, r_50_1, r_50_2, k_50, n_50, k_51, n_51, k_52, n_52, gd, if_true, reduceIte, I_in (show k < 10 by omega) (show 10 < 1000000 by decide), I_ix (show k < 1000000 by omega), (hg k (by omega)).1, b1_eq hk'.1.1, I_s]
      exact nx
  unfold f_X10_set
  simp only [r_50_1, r_50_2, k_50, n_50, k_51, n_51, k_52, n_52, gd, if_true, reduceIte]
  exact lp m FU 0 (FU_lt (by omega)) (by omega)
theorem X_sum (hn : n ≤ 24) (hW : WW g W n m) (h0 : g 50 0 = I m) (hg : ∀ k, k < m → g 51 k = I (wx W k) ∧ g 52 k = I (wu W k)) : f_X10_sum (g, RF p q w v ds) 50 = some (sumW W m, (g, RF p q w v ds)) := by
  have hm := hW.1
  have lp : ∀ (r fu k : Nat), r < fu → k + r = m → f_X10_sum_4 fu (g, RF p q w v ds) 50 (sumW W k) (I (k : Int)) = some (sumW W m, (g, RF p q w v ds)) := by
    intro r
    induction r with
    | zero =>
      intro fu k hf hk
      obtain ⟨fu, rfl⟩ : ∃ k, fu = k + 1 := ⟨fu - 1, by omega⟩
      have c1 : I (m : Int) ≤ I (k : Int) := by rw [I_len (by omega) (by omega)]; omega
      simp only [f_X10_sum_4, h0, if_pos c1]
      rw [show k = m by omega]
    | succ r ih =>
      intro fu k hf hk
      obtain ⟨fu, rfl⟩ : ∃ k, fu = k + 1 := ⟨fu - 1, by omega⟩
      have c1 : ¬ I (m : Int) ≤ I (k : Int) := by rw [I_len (by omega) (by omega)]; omega
      have hk' := hW.2 k (by omega)
      have nx := ih fu (k + 1) (by omega) (by omega)
      simp only [f_X10_sum_4, h0, if_neg c1, r_50_1, r_50_2, k_50, n_50, k_51, n_51, k_52, n_52, gd, if_true, reduceIte, I_in (show k < 10 by omega) (show 10 < 1000000 by decide), I_ix (show k < 1000000 by omega), (hg k (by omega)).1, (hg k (by omega)).2, X_countsAs _ (show wx W k ≤ 1000 by omega) hk'.2.1.1 hk'.2.1.2, bd_s, I_s]
      exact nx
  unfold f_X10_sum
  simp only [r_50_1, r_50_2, k_50, n_50, k_51, n_51, k_52, n_52, gd, if_true, reduceIte]
  exact lp m FU 0 (FU_lt (by omega)) (by omega)
theorem X_price {a np kind x u : Nat} {M : Nat → Int32} (hp : a = 5 ∨ a = 9) (hM : PW M n np kind) (hR : PR (g a) (g (a + 1)) (g (a + 2)) (g (a + 3)) M) (hx : 1 ≤ x ∧ x ≤ n) (hu : 1 ≤ u ∧ u ≤ 3) : f_X4_price (g, RF p q w v ds) a (I x) (I u) = some (I (wM M x u - 1000), (g, RF p q w v ds)) := by
  obtain ⟨kp, k1, k2, k3, l1, l2, l3⟩ := Pk hp
  have r5 : RF p q w v ds a 5 = a + 1 := by rcases hp with rfl | rfl <;> rfl
  have hn := hM.2.1
  have e0 : g a 0 = I n := by rw [hR.1 0 (by decide)]; exact hM.1
  have xN := X_isNumber (c := g a) (M := g a) (p := p) (q := q) (w := w) (v := v) (ds := ds) kp e0 hn.2 (I x)
  rw [I_tN (show x < 1000000 by omega), if_pos (by omega)] at xN
  obtain ⟨q1, q2, q3⟩ := MPr_of (g := fun _ => M) hM x hx.1 (by omega)
  simp only [] at q1 q2 q3
  have e4 : g (a + 1) x = M (4 + x) := by
    have := hR.2.1 (x - 1) (by omega)
    rwa [show x - 1 + 1 = x by omega, show 5 + (x - 1) = 4 + x by omega] at this
  have e3 : g a 3 = M 3 := hR.1 3 (by decide)
  have e5 : g a 4 = M 4 := hR.1 4 (by decide)
  have z1 : ¬ (1 : Int32) = 0 := by decide
  unfold f_X4_price
  simp only [kp, gd, lt, bd_s, if_true, if_false, reduceIte, si_uc, uc_s, uc_n, upd_s, upd_n, Nat.reduceEqDiff, ne_eq, not_false_eq_true, not_true_eq_false, xN, z1, r5, k1, l1, I_in (show x < 25 by omega) (show 25 < 1000000 by decide), I_ix (show x < 1000000 by omega), e4, e3, e5]
  have : u = 1 ∨ u = 2 ∨ u = 3 := by omega
  rcases this with rfl | rfl | rfl
  · rw [if_neg (by decide), if_neg (by decide), q1]
    show some (I _ + I 0, _) = _
    rw [I_add, Int.add_zero]
  · rw [if_pos (by decide), q2]
  · rw [if_neg (by decide), if_pos (by decide), q3]
theorem X_prices {np kind : Nat} {M : Nat → Int32} (hp : p = 5 ∨ p = 9) (hM : PW M n np kind) (hR : PR (g p) (g (p + 1)) (g (p + 2)) (g (p + 3)) M) (hW : WW g W n m) (h0 : g 50 0 = I m) (hg : ∀ k, k < m → g 51 k = I (wx W k) ∧ g 52 k = I (wu W k)) : f_X10_price (g, RF p q w v ds) 50 p = some (priW W M m, (g, RF p q w v ds)) := by
  have hm := hW.1
  have kp := (Pk hp).1
  have lp : ∀ (r fu k : Nat), r < fu → k + r = m → f_X10_price_4 fu (g, RF p q w v ds) 50 p (priW W M k) (I (k : Int)) = some (priW W M m, (g, RF p q w v ds)) := by
    intro r
    induction r with
    | zero =>
      intro fu k hf hk
      obtain ⟨fu, rfl⟩ : ∃ k, fu = k + 1 := ⟨fu - 1, by omega⟩
      have c1 : I (m : Int) ≤ I (k : Int) := by rw [I_len (by omega) (by omega)]; omega
      simp only [f_X10_price_4, h0, if_pos c1]
      rw [show k = m by omega]
    | succ r ih =>
      intro fu k hf hk
      obtain ⟨fu, rfl⟩ : ∃ k, fu = k + 1 := ⟨fu - 1, by omega⟩
      have c1 : ¬ I (m : Int) ≤ I (k : Int) := by rw [I_len (by omega) (by omega)]; omega
      have hk' := hW.2 k (by omega)
      have nx := ih fu (k + 1) (by omega) (by omega)
      simp only [f_X10_price_4, h0, if_neg c1, r_50_1, r_50_2, k_50, n_50, k_51, n_51, k_52, n_52, gd, if_true, reduceIte, I_in (show k < 10 by omega) (show 10 < 1000000 by decide), I_ix (show k < 1000000 by omega), (hg k (by omega)).1, (hg k (by omega)).2, X_price hp hM hR hk'.1 hk'.2.1, bd_s, I_s]
      exact nx
  unfold f_X10_price
  simp only [r_50_1, r_50_2, k_50, n_50, k_51, n_51, k_52, n_52, kp, gd, if_true, reduceIte]
  exact lp m FU 0 (FU_lt (by omega)) (by omega)
/-- the words are a saying -/
def isS (W : Nat → Int32) (kind m : Nat) : Bool := decide (m ≠ 0) && decide (kind = 0 → m = 1) && (List.range m).all (fun k => decide (wu W k ≤ lastU kind))
theorem all_rng (f : Nat → Bool) (m : Nat) : (List.range m).all f = true ↔ ∀ k, k < m → f k = true := by
  rw [List.all_eq_true]
  exact ⟨fun h k hk => h k (List.mem_range.mpr hk), fun h k hk => h k (List.mem_range.mp hk)⟩
theorem X_saying {kind : Nat} (hk3 : kind ≤ 3) (hn : n ≤ 24) (hW : WW g W n m) (h0 : g 50 0 = I m) (hg : ∀ k, k < m → g 51 k = I (wx W k) ∧ g 52 k = I (wu W k)) : f_X10_areSaying (g, RF p q w v ds) 50 (I kind) = some (if isS W kind m then 1 else 0, (g, RF p q w v ds)) := by
  have hm := hW.1
  have hl := lastU_le kind
  have lp : ∀ (r fu k : Nat), r < fu → k + r = m → (∀ j, j < k → wu W j ≤ lastU kind) → f_X10_areSaying_23 fu (g, RF p q w v ds) 50 (I kind) (I (k : Int)) = some (if (List.range m).all (fun k => decide (wu W k ≤ lastU kind)) then 1 else 0, (g, RF p q w v ds)) := by
    intro r
    induction r with
    | zero =>
      intro fu k hf hk hj
      obtain ⟨fu, rfl⟩ : ∃ k, fu = k + 1 := ⟨fu - 1, by omega⟩
      have c1 : I (m : Int) ≤ I (k : Int) := by rw [I_len (by omega) (by omega)]; omega
      simp only [f_X10_areSaying_23, h0, if_pos c1]
      rw [if_pos ((all_rng _ _).mpr (fun j hj' => decide_eq_true (hj j (by omega))))]
    | succ r ih =>
      intro fu k hf hk hj
      obtain ⟨fu, rfl⟩ : ∃ k, fu = k + 1 := ⟨fu - 1, by omega⟩
      have c1 : ¬ I (m : Int) ≤ I (k : Int) := by rw [I_len (by omega) (by omega)]; omega
      have hk' := hW.2 k (by omega)
      simp only [f_X10_areSaying_23, h0, if_neg c1, r_50_1, r_50_2, k_50, n_50, k_51, n_51, k_52, n_52, gd, if_true, reduceIte, I_in (show k < 10 by omega) (show 10 < 1000000 by decide), I_ix (show k < 1000000 by omega), (hg k (by omega)).2, X_lastUse _ hk3, bd_s, I_s, I_len (show wu W k < 1000000 by omega) (show lastU kind < 1000000 by omega)]
      by_cases c : wu W k ≤ lastU kind
      · rw [if_pos c]
        exact ih fu (k + 1) (by omega) (by omega) (fun j hj' => by
          by_cases e : j = k
          · subst e; exact c
          · exact hj j (by omega))
      · rw [if_neg c, if_neg (fun z => c (by have := (all_rng _ _).mp z k (by omega); simpa using this))]
  have l0 := lp m FU 0 (FU_lt (by omega)) (by omega) (fun j hj => absurd hj (by omega))
  have l0 : f_X10_areSaying_23 FU (g, RF p q w v ds) 50 (I kind) 0 = _ := l0
  have z0 : (I (m : Int) = 0) = (m = 0) := I_eqn (b := 0) (by omega) (by omega)
  have zk : (I (kind : Int) = 0) = (kind = 0) := I_eqn (b := 0) (by omega) (by omega)
  have z1 : (I (m : Int) ≤ 1) = (m ≤ 1) := I_len (b := 1) (by omega) (by omega)
  unfold f_X10_areSaying
  simp only [r_50_1, r_50_2, k_50, n_50, k_51, n_51, k_52, n_52, gd, if_true, reduceIte, h0, z0, zk, z1, l0]
  unfold isS
  by_cases c0 : m = 0
  · rw [if_pos c0, decide_eq_false (fun z => z c0)]; rfl
  · rw [if_neg c0, decide_eq_true c0, Bool.true_and]
    by_cases ck : kind = 0
    · rw [if_pos ck]
      by_cases cm : m ≤ 1
      · rw [if_pos cm, decide_eq_true (fun _ => by omega), Bool.true_and]
      · rw [if_neg cm, decide_eq_false (fun z => cm (by have := z ck; omega)), Bool.false_and]; rfl
    · rw [if_neg ck, decide_eq_true (fun z => absurd z ck), Bool.true_and]
theorem tk2 (k : Nat) : (2 : Int32) * I (k : Int) = I ((2 * k : Nat) : Int) := by show I 2 * I (k : Int) = _; rw [I_mul]; rfl
theorem M_sum (hn : n ≤ 24) (hW : WW g (g 91) n m) (h0 : g 83 14 = I m) : f_X12_sumOfWords (g, RF p q w v ds) 83 = some (sumW (g 91) m, (g, RF p q w v ds)) := by
  have hm := hW.1
  have lp : ∀ (r fu k : Nat), r < fu → k + r = m → f_X12_sumOfWords_4 fu (g, RF p q w v ds) 83 (sumW (g 91) k) (I (k : Int)) = some (sumW (g 91) m, (g, RF p q w v ds)) := by
    intro r
    induction r with
    | zero =>
      intro fu k hf hk
      obtain ⟨fu, rfl⟩ : ∃ k, fu = k + 1 := ⟨fu - 1, by omega⟩
      have c1 : I (m : Int) ≤ I (k : Int) := by rw [I_len (by omega) (by omega)]; omega
      simp only [f_X12_sumOfWords_4, h0, if_pos c1]
      rw [show k = m by omega]
    | succ r ih =>
      intro fu k hf hk
      obtain ⟨fu, rfl⟩ : ∃ k, fu = k + 1 := ⟨fu - 1, by omega⟩
      have c1 : ¬ I (m : Int) ≤ I (k : Int) := by rw [I_len (by omega) (by omega)]; omega
      have hk' := hW.2 k (by omega)
      have nx := ih fu (k + 1) (by omega) (by omega)
      simp only [f_X12_sumOfWords_4, h0, if_neg c1, r_83_1, r_83_2, r_83_3, r_83_4, r_83_6, r_83_8, r_83_11, r_83_13, r_83_15, r_83_19, r_83_20, r_83_21, r_83_22, r_83_24, r_83_25, r_83_26, r_83_28, r_83_29, k_83, n_83, k_84, n_84, k_85, n_85, k_86, n_86, k_87, n_87, k_88, n_88, k_89, n_89, k_90, n_90, k_91, n_91, k_92, n_92, k_93, n_93, k_94, n_94, k_95, n_95, k_96, n_96, k_97, n_97, k_98, n_98, k_99, n_99, k_100, n_100, k_101, n_101, gd, if_true, reduceIte, tk2, I_s, I_in (show 2 * k < 20 by omega) (show 20 < 1000000 by decide), I_in (show 2 * k + 1 < 20 by omega) (show 20 < 1000000 by decide), I_ix (show 2 * k < 1000000 by omega), I_ix (show 2 * k + 1 < 1000000 by omega), hk'.2.2.1, hk'.2.2.2, M_counts _ (show wx (g 91) k ≤ 1000 by omega) hk'.2.1.1 hk'.2.1.2, bd_s]
      exact nx
  unfold f_X12_sumOfWords
  simp only [r_83_1, r_83_2, r_83_3, r_83_4, r_83_6, r_83_8, r_83_11, r_83_13, r_83_15, r_83_19, r_83_20, r_83_21, r_83_22, r_83_24, r_83_25, r_83_26, r_83_28, r_83_29, k_83, n_83, k_84, n_84, k_85, n_85, k_86, n_86, k_87, n_87, k_88, n_88, k_89, n_89, k_90, n_90, k_91, n_91, k_92, n_92, k_93, n_93, k_94, n_94, k_95, n_95, k_96, n_96, k_97, n_97, k_98, n_98, k_99, n_99, k_100, n_100, k_101, n_101, gd, if_true, reduceIte]
  exact lp m FU 0 (FU_lt (by omega)) (by omega)
theorem M_prices {np kind : Nat} (hM : PW (g 84) n np kind) (hW : WW g (g 91) n m) (h0 : g 83 14 = I m) : f_X12_priceOfWords (g, RF p q w v ds) 83 = some (priW (g 91) (g 84) m, (g, RF p q w v ds)) := by
  have hm := hW.1
  have hn := hM.2.1
  have lp : ∀ (r fu k : Nat), r < fu → k + r = m → f_X12_priceOfWords_4 fu (g, RF p q w v ds) 83 (priW (g 91) (g 84) k) (I (k : Int)) = some (priW (g 91) (g 84) m, (g, RF p q w v ds)) := by
    intro r
    induction r with
    | zero =>
      intro fu k hf hk
      obtain ⟨fu, rfl⟩ : ∃ k, fu = k + 1 := ⟨fu - 1, by omega⟩
      have c1 : I (m : Int) ≤ I (k : Int) := by rw [I_len (by omega) (by omega)]; omega
      simp only [f_X12_priceOfWords_4, h0, if_pos c1]
      rw [show k = m by omega]
    | succ r ih =>
      intro fu k hf hk
      obtain ⟨fu, rfl⟩ : ∃ k, fu = k + 1 := ⟨fu - 1, by omega⟩
      have c1 : ¬ I (m : Int) ≤ I (k : Int) := by rw [I_len (by omega) (by omega)]; omega
      have hk' := hW.2 k (by omega)
      have nx := ih fu (k + 1) (by omega) (by omega)
      simp only [f_X12_priceOfWords_4, h0, if_neg c1, r_83_1, r_83_2, r_83_3, r_83_4, r_83_6, r_83_8, r_83_11, r_83_13, r_83_15, r_83_19, r_83_20, r_83_21, r_83_22, r_83_24, r_83_25, r_83_26, r_83_28, r_83_29, k_83, n_83, k_84, n_84, k_85, n_85, k_86, n_86, k_87, n_87, k_88, n_88, k_89, n_89, k_90, n_90, k_91, n_91, k_92, n_92, k_93, n_93, k_94, n_94, k_95, n_95, k_96, n_96, k_97, n_97, k_98, n_98, k_99, n_99, k_100, n_100, k_101, n_101, gd, if_true, reduceIte, tk2, I_s, I_in (show 2 * k < 20 by omega) (show 20 < 1000000 by decide), I_in (show 2 * k + 1 < 20 by omega) (show 20 < 1000000 by decide), I_ix (show 2 * k < 1000000 by omega), I_ix (show 2 * k + 1 < 1000000 by omega), hk'.2.2.1, hk'.2.2.2, M_price (MPr_of hM) hk'.1.1 (show wx (g 91) k ≤ 24 by omega) hk'.2.1.1 hk'.2.1.2, bd_s]
      exact nx
  unfold f_X12_priceOfWords
  simp only [r_83_1, r_83_2, r_83_3, r_83_4, r_83_6, r_83_8, r_83_11, r_83_13, r_83_15, r_83_19, r_83_20, r_83_21, r_83_22, r_83_24, r_83_25, r_83_26, r_83_28, r_83_29, k_83, n_83, k_84, n_84, k_85, n_85, k_86, n_86, k_87, n_87, k_88, n_88, k_89, n_89, k_90, n_90, k_91, n_91, k_92, n_92, k_93, n_93, k_94, n_94, k_95, n_95, k_96, n_96, k_97, n_97, k_98, n_98, k_99, n_99, k_100, n_100, k_101, n_101, gd, if_true, reduceIte]
  exact lp m FU 0 (FU_lt (by omega)) (by omega)
theorem M_saying {np kind : Nat} (hM : PW (g 84) n np kind) (hW : WW g (g 91) n m) (h0 : g 83 14 = I m) : f_X12_isSaying (g, RF p q w v ds) 83 = some (if isS (g 91) kind m then 1 else 0, (g, RF p q w v ds)) := by
  have hm := hW.1
  have hn := hM.2.1
  have hk3 := hM.2.2.2.2.2.1
  have hl := lastU_le kind
  have lp : ∀ (r fu k : Nat) (b : Bool), r < fu → k + r = m → f_X12_isSaying_34 fu (g, RF p q w v ds) 83 (I kind) (if b then 1 else 0) (I (k : Int)) = some (if b && (List.range' k r).all (fun k => decide (wu (g 91) k ≤ lastU kind)) then 1 else 0, (g, RF p q w v ds)) := by
    intro r
    induction r with
    | zero =>
      intro fu k b hf hk
      obtain ⟨fu, rfl⟩ : ∃ k, fu = k + 1 := ⟨fu - 1, by omega⟩
      have c1 : I (m : Int) ≤ I (k : Int) := by rw [I_len (by omega) (by omega)]; omega
      simp only [f_X12_isSaying_34, h0, if_pos c1]
      cases b <;> rfl
    | succ r ih =>
      intro fu k b hf hk
      obtain ⟨fu, rfl⟩ : ∃ k, fu = k + 1 := ⟨fu - 1, by omega⟩
      have c1 : ¬ I (m : Int) ≤ I (k : Int) := by rw [I_len (by omega) (by omega)]; omega
      have hk' := hW.2 k (by omega)
      have nt := ih fu (k + 1) true (by omega) (by omega)
      have nf := ih fu (k + 1) false (by omega) (by omega)
      simp only [if_true, Bool.false_eq_true, if_false, Bool.true_and, Bool.false_and] at nt nf
      rw [List.range'_succ, List.all_cons]
      simp only [f_X12_isSaying_34, f_X12_isSaying_75, h0, if_neg c1, r_83_1, r_83_2, r_83_3, r_83_4, r_83_6, r_83_8, r_83_11, r_83_13, r_83_15, r_83_19, r_83_20, r_83_21, r_83_22, r_83_24, r_83_25, r_83_26, r_83_28, r_83_29, k_83, n_83, k_84, n_84, k_85, n_85, k_86, n_86, k_87, n_87, k_88, n_88, k_89, n_89, k_90, n_90, k_91, n_91, k_92, n_92, k_93, n_93, k_94, n_94, k_95, n_95, k_96, n_96, k_97, n_97, k_98, n_98, k_99, n_99, k_100, n_100, k_101, n_101, gd, if_true, reduceIte, tk2, I_s, I_in (show 2 * k + 1 < 20 by omega) (show 20 < 1000000 by decide), I_ix (show 2 * k + 1 < 1000000 by omega), hk'.2.2.2]
      cases b with
      | false =>
        simp only [Bool.false_eq_true, if_false, if_true, reduceIte, Bool.false_and]
        exact nf
      | true =>
        simp only [if_true, Bool.true_and]
        rw [if_neg (by decide)]
        have hu := hk'.2.1
        have eu : wu (g 91) k = 1 ∨ wu (g 91) k = 2 ∨ wu (g 91) k = 3 := by omega
        have ek : kind = 0 ∨ kind = 1 ∨ kind = 2 ∨ kind = 3 := by omega
        rcases eu with e | e | e <;> rcases ek with rfl | rfl | rfl | rfl <;> rw [e] <;> first | exact nt | exact nf
  have l1 := fun b => lp m FU 0 b (FU_lt (by omega)) (by omega)
  have ek : g 84 2 = I kind := hM.2.2.2.2.1
  have z0 : (I (m : Int) ≤ 0) = (m ≤ 0) := I_len (b := 0) (by omega) (by omega)
  have zk : (I (kind : Int) = 0) = (kind = 0) := I_eqn (b := 0) (by omega) (by omega)
  have z1 : (I (m : Int) = 1) = (m = 1) := I_eqn (b := 1) (by omega) (by omega)
  have lt1 : f_X12_isSaying_34 FU (g, RF p q w v ds) 83 (I kind) 1 0 = _ := l1 true
  have lf1 : f_X12_isSaying_34 FU (g, RF p q w v ds) 83 (I kind) 0 0 = _ := l1 false
  unfold f_X12_isSaying
  simp only [r_83_1, r_83_2, r_83_3, r_83_4, r_83_6, r_83_8, r_83_11, r_83_13, r_83_15, r_83_19, r_83_20, r_83_21, r_83_22, r_83_24, r_83_25, r_83_26, r_83_28, r_83_29, k_83, n_83, k_84, n_84, k_85, n_85, k_86, n_86, k_87, n_87, k_88, n_88, k_89, n_89, k_90, n_90, k_91, n_91, k_92, n_92, k_93, n_93, k_94, n_94, k_95, n_95, k_96, n_96, k_97, n_97, k_98, n_98, k_99, n_99, k_100, n_100, k_101, n_101, ci_0, ci_1, ci_2, ci_3, ci_4, ii_0, ii_1, ii_2, ii_3, ii_4, id_0, id_1, id_2, gd, if_true, reduceIte, h0, ek, z0, zk, z1, lt1, lf1]
  unfold isS
  rw [List.range_eq_range']
  by_cases c0 : m = 0
  · rw [if_pos (by omega), decide_eq_false (fun z => z c0)]; rfl
  · rw [if_neg (by omega), decide_eq_true c0, Bool.true_and]
    by_cases ck : kind = 0
    · rw [if_pos ck]
      by_cases cm : m = 1
      · rw [if_pos cm, decide_eq_true (fun _ => cm)]; simp only [Bool.true_and]
      · rw [if_neg cm, decide_eq_false (fun z => cm (z ck))]; simp only [Bool.false_and]; rfl
    · rw [if_neg ck, decide_eq_true (fun z => absurd z ck)]; simp only [Bool.true_and]
end T
theorem WW.th {g G : Nat → Nat → Int32} {W : Nat → Int32} {n m : Nat} (h : WW g W n m) : WW G W n m := h
theorem S_words : Sp1 Inv f_X11_words f_X12_words := by
  rintro h a ⟨g, p, q, w, v, ds, n, np, kind, rfl, hV⟩
  obtain ⟨kp, -⟩ := Pk hV.p
  have hn := hV.pw.2.1
  have e2 : g p 2 = I kind := by rw [hV.pr.1 2 (by decide)]; exact hV.pw.2.2.2.2.1
  obtain ⟨m, hW, w1, w2, w3⟩ := hV.2.2.2.2.2.2.2.2.1.ww hn.2
  refine ⟨if a = (0 : Int32) then sumW (g 91) m + 1000 else if a = (1 : Int32) then priW (g 91) (g 84) m else if a = (2 : Int32) then (if isS (g 91) kind m then 1 else 0) else -1, (g, RF p q w v ds), (th g, RF p q w v ds), ?_, ?_, hV.ask (th_mk g)⟩
  · unfold f_X11_words
    have eb : (if (if isS (g 91) kind m = true then (1 : Int32) else 0) = 0 then (0 : Int32) else 1) = (if isS (g 91) kind m = true then 1 else 0) := by cases isS (g 91) kind m <;> rfl
    simp only [r_1_0, r_1_1, r_1_2, r_1_3, r_1_4, r_1_5, r_1_6, r_1_7, r_1_8, r_1_9, r_1_10, r_1_11, k_1, n_1, r_50_1, r_50_2, k_50, n_50, k_51, n_51, k_52, n_52, kp, gd, lt, bd_s, if_true, if_false, reduceIte, si_uc, uc_s, uc_n, upd_s, upd_n, Nat.reduceEqDiff, ne_eq, not_false_eq_true, not_true_eq_false, e2, X_sum hn.2 hW w1 w3, X_prices hV.p hV.pw hV.pr hW w1 w3, X_saying hV.pw.2.2.2.2.2.1 hn.2 hW w1 w3, eb, ite_som]
  · have e84 : th g 84 = g 84 := th_n (by decide)
    have e91 : th g 91 = g 91 := th_n (by decide)
    have f14 : th g 83 14 = I m := by rw [th_83 (by decide)]; exact w2
    have s1 := M_sum (p := p) (q := q) (w := w) (v := v) (ds := ds) (g := th g) hn.2 (by rw [e91]; exact hW.th) f14
    have s2 := M_prices (p := p) (q := q) (w := w) (v := v) (ds := ds) (g := th g) (by rw [e84]; exact hV.pw) (by rw [e91]; exact hW.th) f14
    have s3 := M_saying (p := p) (q := q) (w := w) (v := v) (ds := ds) (g := th g) (by rw [e84]; exact hV.pw) (by rw [e91]; exact hW.th) f14
    rw [e91] at s1 s2 s3
    rw [e84] at s2
    have eb : (if (if isS (g 91) kind m = true then (1 : Int32) else 0) = 0 then (0 : Int32) else 1) = (if isS (g 91) kind m = true then 1 else 0) := by cases isS (g 91) kind m <;> rfl
    unfold f_X12_words
    rw [gd_t (show kd 83 = 12 from rfl), th_lt]
    simp only [s1, s2, s3, bd_s, ite_som, eb, Int32.add_comm (1000 : Int32)]
theorem M_tell_yes {p q w v : Nat} {ds : Nat → Nat} {g : Nat → Nat → Int32} {n m : Nat} (hn : n ≤ 24) (hW : WW g (g 91) n m) (h0 : g 83 14 = I m) {x : Nat} (hx : x ≤ 24) (u : Int32) : ∀ (r fu k : Nat), r < fu → k + r = m → (∃ j, k ≤ j ∧ j < m ∧ wx (g 91) j = x) →
    f_X12_tell_29 fu (g, RF p q w v ds) 83 (I x) u (I (k : Int)) = some (-2, (g, RF p q w v ds)) := by
  have hm := hW.1
  intro r
  induction r with
  | zero =>
    intro fu k hf hk he
    obtain ⟨j, a, b, _⟩ := he
    omega
  | succ r ih =>
    intro fu k hf hk he
    obtain ⟨fu, rfl⟩ : ∃ k, fu = k + 1 := ⟨fu - 1, by omega⟩
    have c1 : ¬ I (m : Int) ≤ I (k : Int) := by rw [I_len (by omega) (by omega)]; omega
    have hk' := hW.2 k (by omega)
    simp only [f_X12_tell_29, h0, if_neg c1, r_83_1, r_83_2, r_83_3, r_83_4, r_83_6, r_83_8, r_83_11, r_83_13, r_83_15, r_83_19, r_83_20, r_83_21, r_83_22, r_83_24, r_83_25, r_83_26, r_83_28, r_83_29, k_83, n_83, k_84, n_84, k_85, n_85, k_86, n_86, k_87, n_87, k_88, n_88, k_89, n_89, k_90, n_90, k_91, n_91, k_92, n_92, k_93, n_93, k_94, n_94, k_95, n_95, k_96, n_96, k_97, n_97, k_98, n_98, k_99, n_99, k_100, n_100, k_101, n_101, gd, if_true, reduceIte, tk2, I_s, I_in (show 2 * k < 20 by omega) (show 20 < 1000000 by decide), I_ix (show 2 * k < 1000000 by omega), hk'.2.2.1, I_eqn (show wx (g 91) k < 1000000 by omega) (show x < 1000000 by omega)]
    by_cases c : wx (g 91) k = x
    · rw [if_pos c]
    · rw [if_neg c]
      obtain ⟨j, a, b, d⟩ := he
      refine ih fu (k + 1) (by omega) (by omega) ⟨j, ?_, b, d⟩
      by_cases ej : j = k
      · subst ej; exact absurd d c
      · omega
theorem M_tell_no {p q w v : Nat} {ds : Nat → Nat} {g : Nat → Nat → Int32} {n m : Nat} (hn : n ≤ 24) (hW : WW g (g 91) n m) (h0 : g 83 14 = I m) {x : Nat} (hx : x ≤ 24) (u : Int32) : ∀ (r fu k : Nat), r < fu → k + r = m → (¬ ∃ j, j < m ∧ wx (g 91) j = x) →
    f_X12_tell_29 fu (g, RF p q w v ds) 83 (I x) u (I (k : Int)) = (if u = (3 : Int32) then (if (I (x : Int) - I (x : Int) / (2 : Int32) * (2 : Int32)) = (1 : Int32) then some (-2, (g, RF p q w v ds)) else f_X12_tell_73 (g, RF p q w v ds) 83 (I x) u) else f_X12_tell_73 (g, RF p q w v ds) 83 (I x) u) := by
  have hm := hW.1
  intro r
  induction r with
  | zero =>
    intro fu k hf hk he
    obtain ⟨fu, rfl⟩ : ∃ k, fu = k + 1 := ⟨fu - 1, by omega⟩
    have c1 : I (m : Int) ≤ I (k : Int) := by rw [I_len (by omega) (by omega)]; omega
    simp only [f_X12_tell_29, h0, if_pos c1]
  | succ r ih =>
    intro fu k hf hk he
    obtain ⟨fu, rfl⟩ : ∃ k, fu = k + 1 := ⟨fu - 1, by omega⟩
    have c1 : ¬ I (m : Int) ≤ I (k : Int) := by rw [I_len (by omega) (by omega)]; omega
    have hk' := hW.2 k (by omega)
    simp only [f_X12_tell_29, h0, if_neg c1, r_83_1, r_83_2, r_83_3, r_83_4, r_83_6, r_83_8, r_83_11, r_83_13, r_83_15, r_83_19, r_83_20, r_83_21, r_83_22, r_83_24, r_83_25, r_83_26, r_83_28, r_83_29, k_83, n_83, k_84, n_84, k_85, n_85, k_86, n_86, k_87, n_87, k_88, n_88, k_89, n_89, k_90, n_90, k_91, n_91, k_92, n_92, k_93, n_93, k_94, n_94, k_95, n_95, k_96, n_96, k_97, n_97, k_98, n_98, k_99, n_99, k_100, n_100, k_101, n_101, gd, if_true, reduceIte, tk2, I_s, I_in (show 2 * k < 20 by omega) (show 20 < 1000000 by decide), I_ix (show 2 * k < 1000000 by omega), hk'.2.2.1, I_eqn (show wx (g 91) k < 1000000 by omega) (show x < 1000000 by omega)]
    rw [if_neg (fun c => he ⟨k, by omega, c⟩)]
    exact ih fu (k + 1) (by omega) (by omega) he
theorem S_tell : Sp2 Inv f_X11_tell f_X12_tell := by
  rintro h a b ⟨g, p, q, w, v, ds, n, np, kind, rfl, hV⟩
  obtain ⟨kp, -⟩ := Pk hV.p
  have hn := hV.pw.2.1
  have e0 : g p 0 = I n := by rw [hV.pr.1 0 (by decide)]; exact hV.pw.1
  have xN := X_isNumber (c := g p) (M := g p) (p := p) (q := q) (w := w) (v := v) (ds := ds) kp e0 hn.2 a
  have mN : ∀ G : Nat → Nat → Int32, G 84 = g 84 → f_X12_noNumber (th G, RF p q w v ds) 83 a = some (if 1 ≤ a.toInt ∧ a.toInt ≤ n then 0 else 1, (th G, RF p q w v ds)) := fun G e => M_noNumber (by rw [th_n (by decide), e]; exact hV.pw.1) hn.2 a
  have z1 : ¬ (1 : Int32) = 0 := by decide
  have l1 : (b < (1 : Int32)) = (b.toInt < 1) := lt_out (z := 1) (by decide)
  have l3 : (b ≤ (3 : Int32)) = (b.toInt ≤ 3) := le_out (z := 3) (by decide)
  by_cases hc : (1 ≤ a.toInt ∧ a.toInt ≤ n) ∧ (1 ≤ b.toInt ∧ b.toInt ≤ 3)
  · obtain ⟨x, hx, rfl⟩ := num_c hc.1
    obtain ⟨u, hu, rfl⟩ := num_c (n := 3) hc.2
    obtain ⟨m, hW, w1, w2, w3⟩ := hV.2.2.2.2.2.2.2.2.1.ww hn.2
    have hm := hW.1
    have hb : bt (setW (g 91) m) (x - 1) = true ↔ ∃ k, k < m ∧ wx (g 91) k = x := by
      rw [setW_bt (fun k hk => by have := (hW.2 k hk).1; omega) (by omega)]
      constructor
      · rintro ⟨k, k1, k2⟩; exact ⟨k, k1, by omega⟩
      · rintro ⟨k, k1, k2⟩; exact ⟨k, k1, by omega⟩
    rw [if_pos hc.1] at xN
    have X0 : f_X11_tell (g, RF p q w v ds) 1 (I x) (I u) = if bt (setW (g 91) m) (x - 1) = true ∨ cst x u = false then some (-2, (g, RF p q w v ds)) else bd (f_X10_append (g, RF p q w v ds) 50 (I x) (I u)) (fun r16 h17 => if r16 = 0 then some (-3, h17) else gd (kd (h17.2 1 6) = 10) (some ((h17.1 (h17.2 1 6) 0), h17))) := by
      unfold f_X11_tell
      simp only [r_1_0, r_1_1, r_1_2, r_1_3, r_1_4, r_1_5, r_1_6, r_1_7, r_1_8, r_1_9, r_1_10, r_1_11, k_1, n_1, kp, k_50, gd, if_true, reduceIte, xN, bd_s, if_neg z1, l1, l3, if_neg (show ¬ (I (u : Int)).toInt < 1 by omega), if_pos hc.2.2, X_set hn.2 hW w1 w3, I_p hx.1, X_hasBit _ _ (show x - 1 < 32 by omega), X_canStand _ (show x ≤ 1000 by omega) hu.1 hu.2]
      cases hbb : bt (setW (g 91) m) (x - 1) with
      | true => rw [if_pos (Or.inl rfl), if_neg (show ¬ (if true = true then (1 : Int32) else 0) = 0 by decide)]
      | false =>
        rw [if_pos (show (if false = true then (1 : Int32) else 0) = 0 by decide)]
        cases hcs : cst x u with
        | false => rw [if_pos (Or.inr rfl), if_pos (show (if false = true then (1 : Int32) else 0) = 0 by decide)]
        | true => rw [if_neg (show ¬ (false = true ∨ true = false) by decide), if_neg (show ¬ (if true = true then (1 : Int32) else 0) = 0 by decide)]
    have M0 : ∀ G : Nat → Nat → Int32, G 84 = g 84 → G 91 = g 91 → G 83 = g 83 → f_X12_tell (G, RF p q w v ds) 83 (I x) (I u) = if bt (setW (g 91) m) (x - 1) = true ∨ cst x u = false then some (-2, (th G, RF p q w v ds)) else f_X12_tell_73 (th G, RF p q w v ds) 83 (I x) (I u) := by
      intro G e84 e91 e83
      have f91 : th G 91 = g 91 := by rw [th_n (by decide)]; exact e91
      have mN := mN G e84
      rw [if_pos hc.1] at mN
      have ly := fun he => M_tell_yes (p := p) (q := q) (w := w) (v := v) (ds := ds) (g := th G) (m := m) hn.2 (by rw [f91]; exact hW.th) (by rw [th_83 (by decide), e83]; exact w2) (x := x) (by omega) (I u) m FU 0 (FU_lt (by omega)) (by omega) he
      have ln' := fun he => M_tell_no (p := p) (q := q) (w := w) (v := v) (ds := ds) (g := th G) (m := m) hn.2 (by rw [f91]; exact hW.th) (by rw [th_83 (by decide), e83]; exact w2) (x := x) (by omega) (I u) m FU 0 (FU_lt (by omega)) (by omega) he
      rw [f91] at ly ln'
      have ly : _ → f_X12_tell_29 FU (th G, RF p q w v ds) 83 (I x) (I u) 0 = _ := ly
      have ln' : _ → f_X12_tell_29 FU (th G, RF p q w v ds) 83 (I x) (I u) 0 = _ := ln'
      unfold f_X12_tell
      rw [gd_t (show kd 83 = 12 from rfl), th_lt]
      simp only [mN, bd_s, if_true, reduceIte, M_in, Int32.toInt_toInt64, show (1 : Int64).toInt = 1 by decide, show (3 : Int64).toInt = 3 by decide, if_pos hc.2, if_neg z1]
      have e3 : (I (u : Int) = (3 : Int32)) = (u = 3) := I_eqn (b := 3) (by omega) (by omega)
      have eo : (I (x : Int) - I (x : Int) / (2 : Int32) * (2 : Int32) = (1 : Int32)) = (x % 2 = 1) := by
        show (I (x : Int) - I (x : Int) / I 2 * I 2 = I 1) = _
        rw [I_div2 (by omega) (by omega), I_mul, I_sub]
        apply propext
        rw [I_inj (by omega) (by omega)]
        omega
      have hcs : cst x u = false ↔ (u = 3 ∧ x % 2 = 1) := by
        unfold cst
        rw [decide_eq_false_iff_not]
        omega
      by_cases c1 : bt (setW (g 91) m) (x - 1) = true
      · obtain ⟨k, k1, k2⟩ := hb.mp c1
        rw [ly ⟨k, Nat.zero_le _, k1, k2⟩, if_pos (Or.inl c1)]
      · rw [ln' (fun z => c1 (hb.mpr z))]
        simp only [e3, eo]
        by_cases c2 : u = 3
        · rw [if_pos c2]
          by_cases c3 : x % 2 = 1
          · rw [if_pos c3, if_pos (Or.inr (hcs.mpr ⟨c2, c3⟩))]
          · rw [if_neg c3, if_neg (fun z => z.elim c1 (fun e => c3 (hcs.mp e).2))]
        · rw [if_neg c2, if_neg (fun z => z.elim c1 (fun e => c2 (hcs.mp e).1))]
    by_cases hno : bt (setW (g 91) m) (x - 1) = true ∨ cst x u = false
    · have M1 := M0 g rfl rfl rfl
      rw [if_pos hno] at X0 M1
      exact ⟨_, _, _, X0, M1, hV.ask (th_mk g)⟩
    · rw [if_neg hno] at X0
      by_cases hm10 : m < 10
      · obtain ⟨g1, hg1⟩ : ∃ g1, g1 = uc (uc (uc g 51 (upd (g 51) m (I x))) 52 (upd (g 52) m (I u))) 50 (upd (g 50) 0 (I ((m + 1 : Nat) : Int))) := ⟨_, rfl⟩
        have s1 : Sb [50, 51, 52, 83, 91] g g1 := by rw [hg1]; exact ((Sb.rf.uc (by decide)).uc (by decide)).uc (by decide)
        have g191 : g1 91 = g 91 := by rw [hg1, uc_n (by decide), uc_n (by decide), uc_n (by decide)]
        have g183 : g1 83 = g 83 := by rw [hg1, uc_n (by decide), uc_n (by decide), uc_n (by decide)]
        have M1 := M0 g1 (s1 84 (by decide)) g191 g183
        rw [if_neg hno] at M1
        refine ⟨I ((m + 1 : Nat) : Int), (g1, RF p q w v ds), (uc (uc (th g1) 91 (upd (upd (g 91) (2 * m) (I x)) (2 * m + 1) (I u))) 83 (upd (th g1 83) 14 (I ((m + 1 : Nat) : Int))), RF p q w v ds), ?_, ?_, ?_⟩
        · have lm : I (m : Int) < (10 : Int32) := (I_lt (b := 10) (by omega) (by omega)).mpr (by omega)
          rw [X0, hg1]
          unfold f_X10_append
          simp only [r_1_0, r_1_1, r_1_2, r_1_3, r_1_4, r_1_5, r_1_6, r_1_7, r_1_8, r_1_9, r_1_10, r_1_11, k_1, n_1, r_50_1, r_50_2, k_50, n_50, k_51, n_51, k_52, n_52, gd, lt, bd_s, if_true, if_false, reduceIte, si_uc, uc_s, uc_n, upd_s, upd_n, Nat.reduceEqDiff, ne_eq, not_false_eq_true, not_true_eq_false, z1, w1, if_pos lm, I_in (show m < 10 by omega) (show 10 < 1000000 by decide), I_ix (show m < 1000000 by omega), I_s]
        · have f14 : th g1 83 14 = I (m : Int) := by rw [th_83 (by decide), g183]; exact w2
          have f91 : th g1 91 = g 91 := by rw [th_n (by decide)]; exact g191
          have lm : ¬ I (m : Int) = (10 : Int32) := fun z => by have := (I_inj (b := 10) (by omega) (by omega)).mp z; omega
          rw [M1]
          unfold f_X12_tell_73
          simp only [f14, if_neg lm, r_83_1, r_83_2, r_83_3, r_83_4, r_83_6, r_83_8, r_83_11, r_83_13, r_83_15, r_83_19, r_83_20, r_83_21, r_83_22, r_83_24, r_83_25, r_83_26, r_83_28, r_83_29, k_83, n_83, k_84, n_84, k_85, n_85, k_86, n_86, k_87, n_87, k_88, n_88, k_89, n_89, k_90, n_90, k_91, n_91, k_92, n_92, k_93, n_93, k_94, n_94, k_95, n_95, k_96, n_96, k_97, n_97, k_98, n_98, k_99, n_99, k_100, n_100, k_101, n_101, gd, if_true, reduceIte, tk2, I_in (show 2 * m < 20 by omega) (show 20 < 1000000 by decide), I_ix (show 2 * m < 1000000 by omega), lt_w, f91, uc_n (show 83 ≠ 91 by decide), I_s, I_in (show 2 * m + 1 < 20 by omega) (show 20 < 1000000 by decide), I_ix (show 2 * m + 1 < 1000000 by omega), uc_s, uc_uc, upd_s]
        · obtain ⟨g2, hg2⟩ : ∃ g2, g2 = uc (uc (th g1) 91 (upd (upd (g 91) (2 * m) (I x)) (2 * m + 1) (I u))) 83 (upd (th g1 83) 14 (I ((m + 1 : Nat) : Int))) := ⟨_, rfl⟩
          rw [← hg2]
          have s : Sb [50, 51, 52, 83, 91] g g2 := by rw [hg2]; unfold th; exact ((s1.uc (by decide)).uc (by decide)).uc (by decide)
          have f : ∀ j, j ≠ 0 → j ≠ 14 → g2 83 j = g 83 j := fun j h1 h2 => by rw [hg2, uc_s, upd_n h2, th_83 h1, g183]
          have f9 : g2 83 14 = I ((m + 1 : Nat) : Int) := by rw [hg2, uc_s, upd_s]
          have f2 : g2 50 0 = I ((m + 1 : Nat) : Int) := by rw [hg2, uc_n (by decide), uc_n (by decide), th_n (by decide), hg1, uc_s, upd_s]
          have f3 : g2 51 = upd (g 51) m (I x) := by rw [hg2, uc_n (by decide), uc_n (by decide), th_n (by decide), hg1, uc_n (by decide), uc_n (by decide), uc_s]
          have f4 : g2 52 = upd (g 52) m (I u) := by rw [hg2, uc_n (by decide), uc_n (by decide), th_n (by decide), hg1, uc_n (by decide), uc_s]
          have f91 : g2 91 = upd (upd (g 91) (2 * m) (I x)) (2 * m + 1) (I u) := by rw [hg2, uc_n (by decide), uc_s]
          refine ⟨g2, p, q, w, v, ds, n, np, kind, rfl, hV.1, hV.2.1, hV.2.2.1, hV.2.2.2.1.sb s (by decide), by rw [f 12 (by decide) (by decide)]; exact hV.2.2.2.2.1, hV.2.2.2.2.2.1, hV.2.2.2.2.2.2.1.sb hV.2.2.2.2.2.1 s (by decide) (f 5 (by decide) (by decide)), hV.2.2.2.2.2.2.2.1.sb s (by decide) (f 7 (by decide) (by decide)), ⟨m + 1, by omega, f2, f9, fun k hk => ?_⟩, hV.2.2.2.2.2.2.2.2.2.1.sb s (by decide) (f 27 (by decide) (by decide)), hV.2.2.2.2.2.2.2.2.2.2.sb s (by decide) (f 9 (by decide) (by decide))⟩
          rw [f3, f4, f91]
          by_cases e : k = m
          · subst e
            exact ⟨x, u, hx, hu, upd_s _ _ _, upd_s _ _ _, by rw [upd_n (by omega), upd_s], upd_s _ _ _⟩
          · rw [upd_n e, upd_n e, upd_n (show 2 * k ≠ 2 * m + 1 by omega), upd_n (show 2 * k ≠ 2 * m by omega), upd_n (show 2 * k + 1 ≠ 2 * m + 1 by omega), upd_n (show 2 * k + 1 ≠ 2 * m by omega)]
            have hk' := hW.2 k (by omega)
            have hg' := w3 k (by omega)
            exact ⟨wx (g 91) k, wu (g 91) k, hk'.1, hk'.2.1, hg'.1, hg'.2, hk'.2.2.1, hk'.2.2.2⟩
      · have hm10 : m = 10 := by omega
        subst hm10
        have M1 := M0 g rfl rfl rfl
        rw [if_neg hno] at M1
        refine ⟨-3, (g, RF p q w v ds), (th g, RF p q w v ds), ?_, ?_, hV.ask (th_mk g)⟩
        · rw [X0]
          unfold f_X10_append
          simp only [r_50_1, r_50_2, k_50, n_50, k_51, n_51, k_52, n_52, gd, lt, bd_s, if_true, if_false, reduceIte, si_uc, uc_s, uc_n, upd_s, upd_n, Nat.reduceEqDiff, ne_eq, not_false_eq_true, not_true_eq_false, w1, if_neg (show ¬ I ((10 : Nat) : Int) < (10 : Int32) by decide)]
        · have f14 : th g 83 14 = I ((10 : Nat) : Int) := by rw [th_83 (by decide)]; exact w2
          rw [M1]
          unfold f_X12_tell_73
          simp only [f14, if_pos (show I ((10 : Nat) : Int) = (10 : Int32) by decide)]
  · refine ⟨-1, (g, RF p q w v ds), (th g, RF p q w v ds), ?_, ?_, hV.ask (th_mk g)⟩
    · unfold f_X11_tell
      simp only [r_1_0, r_1_1, r_1_2, r_1_3, r_1_4, r_1_5, r_1_6, r_1_7, r_1_8, r_1_9, r_1_10, r_1_11, k_1, n_1, kp, gd, if_true, reduceIte, xN, bd_s]
      by_cases c1 : 1 ≤ a.toInt ∧ a.toInt ≤ n
      · rw [if_pos c1, if_neg z1]
        simp only [l1, l3]
        by_cases c2 : b.toInt < 1
        · rw [if_pos c2]
        · rw [if_neg c2, if_neg (fun z => hc ⟨c1, by omega⟩)]
      · rw [if_neg c1, if_pos rfl]
    · unfold f_X12_tell
      rw [gd_t (show kd 83 = 12 from rfl), th_lt]
      simp only [mN g rfl, bd_s, M_in, Int32.toInt_toInt64, show (1 : Int64).toInt = 1 by decide, show (3 : Int64).toInt = 3 by decide]
      by_cases c1 : 1 ≤ a.toInt ∧ a.toInt ≤ n
      · rw [if_pos c1, if_pos rfl, if_neg (fun z => hc ⟨c1, z⟩), if_pos rfl]
      · rw [if_neg c1, if_neg z1]
