/-! the clerk's book, read by the reference -/
section T
variable {p q w v : Nat} {ds : Nat → Nat}
theorem M_rb160 {f : Nat → Nat} {g : Nat → Nat → Int32} (hg : ∀ y, y < 64 → g 101 y = I (f y : Nat)) : ∀ (r fu k : Nat), r < fu → k + r = 64 → f_X12_readingsBy_160 fu (g, RF p q w v ds) 83 (I (sm k f : Nat)) (I k) = some (I (sm 64 f : Nat), (g, RF p q w v ds)) := by
  intro r
  induction r with
  | zero =>
    intro fu k hf hk
    obtain ⟨fu, rfl⟩ : ∃ k, fu = k + 1 := ⟨fu - 1, by omega⟩
    have : k = 64 := by omega
    subst this
    rw [f_X12_readingsBy_160]
    exact if_pos (by decide)
  | succ r ih =>
    intro fu k hf hk
    obtain ⟨fu, rfl⟩ : ∃ k, fu = k + 1 := ⟨fu - 1, by omega⟩
    have c1 : ¬ (64 : Int32) ≤ I (k : Int) := fun z => by have := (I_le (a := 64) (by omega) (by omega)).mp z; omega
    rw [← ih fu (k + 1) (by omega) (by omega)]
    simp only [f_X12_readingsBy_160]
    rw [if_neg c1]
    simp only [r_83_1, r_83_2, r_83_3, r_83_4, r_83_6, r_83_8, r_83_11, r_83_13, r_83_15, r_83_19, r_83_20, r_83_21, r_83_22, r_83_24, r_83_25, r_83_26, r_83_28, r_83_29, k_83, n_83, k_84, n_84, k_85, n_85, k_86, n_86, k_87, n_87, k_88, n_88, k_89, n_89, k_90, n_90, k_91, n_91, k_92, n_92, k_93, n_93, k_94, n_94, k_95, n_95, k_96, n_96, k_97, n_97, k_98, n_98, k_99, n_99, k_100, n_100, k_101, n_101, gd, if_true, reduceIte, I_in (show k < 64 by omega) (show 64 < 1000000 by decide), I_ix (show k < 1000000 by omega), hg k (by omega), I_k, I_s, sm_s]
theorem M_rb78 (k31 : Hp → Nat → Int32 → Int32 → Int32 → Option (Int32 × Hp)) (k67 : Hp → Nat → Int32 → Int32 → Int32 → Int32 → Int32 → Option (Int32 × Hp)) {a b c x : Int32} {who : Nat} (hwho : who < 64) {f : Nat → Nat} {g : Nat → Nat → Int32} (hg : ∀ y, y ≤ who → g 101 y = I (f y : Nat)) : ∀ (r fu i : Nat), r < fu → i + r = 6 →
    f_X12_readingsBy_78 k31 k67 fu (g, RF p q w v ds) 83 a b c x (I who) (I (sm i (fun i => if bt (I (who : Int)) i && bt x i then f (who - 2 ^ i) else 0) : Nat)) (I i) = k67 (uc g 101 (upd (g 101) who (I (sm 6 (fun i => if bt (I (who : Int)) i && bt x i then f (who - 2 ^ i) else 0) : Nat))), RF p q w v ds) 83 a b c x (I who + (-1)) := by
  intro r
  induction r with
  | zero =>
    intro fu i hf hk
    obtain ⟨fu, rfl⟩ : ∃ k, fu = k + 1 := ⟨fu - 1, by omega⟩
    have : i = 6 := by omega
    subst this
    simp only [f_X12_readingsBy_78]
    rw [if_pos (by decide)]
    simp only [r_83_1, r_83_2, r_83_3, r_83_4, r_83_6, r_83_8, r_83_11, r_83_13, r_83_15, r_83_19, r_83_20, r_83_21, r_83_22, r_83_24, r_83_25, r_83_26, r_83_28, r_83_29, k_83, n_83, k_84, n_84, k_85, n_85, k_86, n_86, k_87, n_87, k_88, n_88, k_89, n_89, k_90, n_90, k_91, n_91, k_92, n_92, k_93, n_93, k_94, n_94, k_95, n_95, k_96, n_96, k_97, n_97, k_98, n_98, k_99, n_99, k_100, n_100, k_101, n_101, gd, if_true, reduceIte, I_in (show who < 64 by omega) (show 64 < 1000000 by decide), I_ix (show who < 1000000 by omega), lt_w]
  | succ r ih =>
    intro fu i hf hk
    obtain ⟨fu, rfl⟩ : ∃ k, fu = k + 1 := ⟨fu - 1, by omega⟩
    have c1 : ¬ (6 : Int32) ≤ I (i : Int) := fun z => by have := (I_le (a := 6) (by omega) (by omega)).mp z; omega
    rw [← ih fu (i + 1) (by omega) (by omega)]
    simp only [f_X12_readingsBy_78]
    rw [if_neg c1, M_has _ _ (show i < 32 by omega), bd_w, sm_s]
    by_cases h1 : bt (I (who : Int)) i = true
    · rw [if_pos h1, if_neg (by decide), M_has _ _ (show i < 32 by omega), bd_w]
      by_cases h2 : bt x i = true
      · have hsc := set_clr who hwho i (by omega) h1
        have hsb := set_back who hwho i (by omega) h1
        unfold b1 at hsc
        rw [if_pos h2, if_neg (by decide), if_pos (show (bt (I (who : Int)) i && bt x i) = true by rw [h1, h2]; rfl)]
        rw [hsc]
        simp only [r_83_1, r_83_2, r_83_3, r_83_4, r_83_6, r_83_8, r_83_11, r_83_13, r_83_15, r_83_19, r_83_20, r_83_21, r_83_22, r_83_24, r_83_25, r_83_26, r_83_28, r_83_29, k_83, n_83, k_84, n_84, k_85, n_85, k_86, n_86, k_87, n_87, k_88, n_88, k_89, n_89, k_90, n_90, k_91, n_91, k_92, n_92, k_93, n_93, k_94, n_94, k_95, n_95, k_96, n_96, k_97, n_97, k_98, n_98, k_99, n_99, k_100, n_100, k_101, n_101, gd, if_true, reduceIte, I_in hsb.1 (show 64 < 1000000 by decide), I_ix (show who - 2 ^ i < 1000000 by omega), hg (who - 2 ^ i) (Nat.sub_le _ _), I_k, I_s]
      · rw [if_neg h2, if_pos rfl, if_neg (show ¬ (bt (I (who : Int)) i && bt x i) = true by rw [Bool.eq_false_iff.mpr h2, Bool.and_false]; decide), Int32.add_zero, Nat.add_zero, I_s]
    · rw [if_neg h1, if_pos rfl, if_neg (show ¬ (bt (I (who : Int)) i && bt x i) = true by rw [Bool.eq_false_iff.mpr h1, Bool.false_and]; decide), Int32.add_zero, Nat.add_zero, I_s]
theorem M_rb67 (k31 : Hp → Nat → Int32 → Int32 → Int32 → Option (Int32 × Hp)) {a b x : Int32} {k : Nat} {D : Nat → Int32} (hx : D k = x) : ∀ (r fu : Nat) (g : Nat → Nat → Int32), r < fu → r ≤ 64 → (∀ y, y < r → g 101 y = I (CQ D k y : Nat)) → (∀ y, r ≤ y → y < 64 → g 101 y = I (CQ D (k + 1) y : Nat)) →
    ∃ g', f_X12_readingsBy_67 k31 fu (g, RF p q w v ds) 83 a b (I k) x (I ((r : Int) - 1)) = k31 (g', RF p q w v ds) 83 a b (I ((k + 1 : Nat) : Int)) ∧ Sb [101] g g' ∧ ∀ y, y < 64 → g' 101 y = I (CQ D (k + 1) y : Nat) := by
  intro r
  induction r with
  | zero =>
    intro fu g hf hr h1 h2
    obtain ⟨fu, rfl⟩ : ∃ k, fu = k + 1 := ⟨fu - 1, by omega⟩
    refine ⟨g, ?_, Sb.rf, fun y hy => h2 y (by omega) hy⟩
    simp only [f_X12_readingsBy_67]
    rw [if_pos (by decide), I_s]
  | succ r ih =>
    intro fu g hf hr h1 h2
    obtain ⟨fu, rfl⟩ : ∃ k, fu = k + 1 := ⟨fu - 1, by omega⟩
    have er : (((r + 1 : Nat) : Int) - 1) = (r : Int) := by omega
    have c1 : ¬ I (r : Int) < 0 := fun z => by have := (I_lt (b := 0) (by omega) (by omega)).mp z; omega
    have e1 := M_rb78 (p := p) (q := q) (w := w) (v := v) (ds := ds) k31 (f_X12_readingsBy_67 k31 fu) (a := a) (b := b) (c := I k) (x := x) (who := r) (by omega) (f := CQ D k) (g := g) (fun y hy => h1 y (by omega)) 6 FU 0 (FU_lt (by omega)) (by omega)
    have hct : sm 6 (fun i => if bt (I (r : Int)) i && bt x i then CQ D k (r - 2 ^ i) else 0) = CQ D (k + 1) r := by rw [← hx]; rfl
    rw [hct] at e1
    obtain ⟨g', e, s', h'⟩ := ih fu (uc g 101 (upd (g 101) r (I (CQ D (k + 1) r : Nat)))) (by omega) (by omega) (fun y hy => by rw [uc_s, upd_n (by omega)]; exact h1 y (by omega)) (fun y hy hy2 => by
      rw [uc_s]
      by_cases c : y = r
      · subst c; rw [upd_s]
      · rw [upd_n c]; exact h2 y (by omega) hy2)
    refine ⟨g', ?_, fun b hb => by rw [s' b hb, uc_n (fun z => hb (by rw [z]; decide))], h'⟩
    rw [← e]
    simp only [f_X12_readingsBy_67]
    rw [er, if_neg c1]
    refine Eq.trans e1 ?_
    rw [show I (r : Int) + (-1) = I ((r : Int) - 1) by rw [I_m1, I_add]; rfl]
theorem M_rb31 {m : Nat} (hm : m ≤ 6) {a b : Int32} {D : Nat → Int32} : ∀ (r fu k : Nat) (g : Nat → Nat → Int32), r < fu → k + r = m → g 83 27 = I m → (∀ t : Nat, t < m → (if I (t : Int) = a then g 100 t &&& b else g 100 t) = D t) → (∀ y, y < 64 → g 101 y = I (CQ D k y : Nat)) →
    ∃ g', f_X12_readingsBy_31 fu (g, RF p q w v ds) 83 a b (I k) = some (I (F D m 0 0 : Nat), (g', RF p q w v ds)) ∧ Sb [101] g g' := by
  intro r
  induction r with
  | zero =>
    intro fu k g hf hk h0 hD hC
    obtain ⟨fu, rfl⟩ : ∃ k, fu = k + 1 := ⟨fu - 1, by omega⟩
    have : k = m := by omega
    subst this
    refine ⟨g, ?_, Sb.rf⟩
    simp only [f_X12_readingsBy_31]
    rw [h0, if_pos ((I_le (by omega) (by omega)).mpr (by omega))]
    have := M_rb160 (p := p) (q := q) (w := w) (v := v) (ds := ds) hC 64 FU 0 (FU_lt (by omega)) (by omega)
    rw [F_tot] at this
    exact this
  | succ r ih =>
    intro fu k g hf hk h0 hD hC
    obtain ⟨fu, rfl⟩ : ∃ k, fu = k + 1 := ⟨fu - 1, by omega⟩
    have c1 : ¬ I (m : Int) ≤ I (k : Int) := fun z => by have := (I_le (by omega) (by omega)).mp z; omega
    obtain ⟨g1, e1, s1, h1⟩ := M_rb67 (p := p) (q := q) (w := w) (v := v) (ds := ds) (f_X12_readingsBy_31 fu) (a := a) (b := b) (k := k) (D := D) rfl 64 FU g (FU_lt (by omega)) (Nat.le_refl _) hC (fun y hy hy2 => absurd hy2 (by omega))
    obtain ⟨g', e, s'⟩ := ih fu (k + 1) g1 (by omega) (by omega) (by rw [s1 83 (by decide)]; exact h0) (fun t ht => by rw [s1 100 (by decide)]; exact hD t ht) h1
    refine ⟨g', ?_, Sb.tr s1 s'⟩
    rw [← e, ← e1]
    simp only [f_X12_readingsBy_31]
    rw [h0, if_neg c1, ← hD k (by omega)]
    simp only [r_83_1, r_83_2, r_83_3, r_83_4, r_83_6, r_83_8, r_83_11, r_83_13, r_83_15, r_83_19, r_83_20, r_83_21, r_83_22, r_83_24, r_83_25, r_83_26, r_83_28, r_83_29, k_83, n_83, k_84, n_84, k_85, n_85, k_86, n_86, k_87, n_87, k_88, n_88, k_89, n_89, k_90, n_90, k_91, n_91, k_92, n_92, k_93, n_93, k_94, n_94, k_95, n_95, k_96, n_96, k_97, n_97, k_98, n_98, k_99, n_99, k_100, n_100, k_101, n_101, gd, if_true, reduceIte, I_in (show k < 6 by omega) (show 6 < 1000000 by decide), I_ix (show k < 1000000 by omega)]
    by_cases c : I (k : Int) = a
    · rw [if_pos c, if_pos c]; rfl
    · rw [if_neg c, if_neg c]; rfl
theorem M_rb2 {a b : Int32} {D : Nat → Int32} : ∀ (r fu k : Nat) (g : Nat → Nat → Int32), r < fu → k + r = 64 → (∀ y, y < k → g 101 y = I (CQ D 0 y : Nat)) →
    ∃ g', f_X12_readingsBy_2 fu (g, RF p q w v ds) 83 a b (I k) = f_X12_readingsBy_31 FU (g', RF p q w v ds) 83 a b 0 ∧ Sb [101] g g' ∧ ∀ y, y < 64 → g' 101 y = I (CQ D 0 y : Nat) := by
  intro r
  induction r with
  | zero =>
    intro fu k g hf hk hC
    obtain ⟨fu, rfl⟩ : ∃ k, fu = k + 1 := ⟨fu - 1, by omega⟩
    have : k = 64 := by omega
    subst this
    refine ⟨g, ?_, Sb.rf, hC⟩
    rw [f_X12_readingsBy_2]
    exact if_pos (by decide)
  | succ r ih =>
    intro fu k g hf hk hC
    obtain ⟨fu, rfl⟩ : ∃ k, fu = k + 1 := ⟨fu - 1, by omega⟩
    have c1 : ¬ (64 : Int32) ≤ I (k : Int) := fun z => by have := (I_le (a := 64) (by omega) (by omega)).mp z; omega
    obtain ⟨g', e, s', h'⟩ := ih fu (k + 1) (uc g 101 (upd (g 101) k (I (CQ D 0 k : Nat)))) (by omega) (by omega) (fun y hy => by
      rw [uc_s]
      by_cases c : y = k
      · subst c; rw [upd_s]
      · rw [upd_n c]; exact hC y (by omega))
    refine ⟨g', ?_, fun b hb => by rw [s' b hb, uc_n (fun z => hb (by rw [z]; decide))], h'⟩
    rw [← e]
    simp only [f_X12_readingsBy_2]
    rw [if_neg c1]
    unfold f_X12_readingsBy_22
    by_cases c : k = 0
    · subst c
      rw [show CQ D 0 0 = 1 from rfl]
      simp only [r_83_1, r_83_2, r_83_3, r_83_4, r_83_6, r_83_8, r_83_11, r_83_13, r_83_15, r_83_19, r_83_20, r_83_21, r_83_22, r_83_24, r_83_25, r_83_26, r_83_28, r_83_29, k_83, n_83, k_84, n_84, k_85, n_85, k_86, n_86, k_87, n_87, k_88, n_88, k_89, n_89, k_90, n_90, k_91, n_91, k_92, n_92, k_93, n_93, k_94, n_94, k_95, n_95, k_96, n_96, k_97, n_97, k_98, n_98, k_99, n_99, k_100, n_100, k_101, n_101, gd, if_true, reduceIte, if_pos (show I ((0 : Nat) : Int) = 0 by decide), I_in (show 0 < 64 by omega) (show 64 < 1000000 by decide), I_ix (show 0 < 1000000 by omega), lt_w, I_s]
      rfl
    · rw [show CQ D 0 k = 0 from if_neg c]
      simp only [r_83_1, r_83_2, r_83_3, r_83_4, r_83_6, r_83_8, r_83_11, r_83_13, r_83_15, r_83_19, r_83_20, r_83_21, r_83_22, r_83_24, r_83_25, r_83_26, r_83_28, r_83_29, k_83, n_83, k_84, n_84, k_85, n_85, k_86, n_86, k_87, n_87, k_88, n_88, k_89, n_89, k_90, n_90, k_91, n_91, k_92, n_92, k_93, n_93, k_94, n_94, k_95, n_95, k_96, n_96, k_97, n_97, k_98, n_98, k_99, n_99, k_100, n_100, k_101, n_101, gd, if_true, reduceIte, if_neg (show ¬ I (k : Int) = 0 from fun z => c (by have := (I_inj (b := 0) (by omega) (by omega)).mp z; omega)), I_in (show k < 64 by omega) (show 64 < 1000000 by decide), I_ix (show k < 1000000 by omega), lt_w, I_s]
      rfl
theorem M_rb {m : Nat} (hm : m ≤ 6) {a b : Int32} {D : Nat → Int32} {g : Nat → Nat → Int32} (h0 : g 83 27 = I m) (hD : ∀ t : Nat, t < m → (if I (t : Int) = a then g 100 t &&& b else g 100 t) = D t) :
    ∃ g', f_X12_readingsBy (g, RF p q w v ds) 83 a b = some (I (F D m 0 0 : Nat), (g', RF p q w v ds)) ∧ Sb [101] g g' := by
  obtain ⟨g1, e1, s1, h1⟩ := M_rb2 (p := p) (q := q) (w := w) (v := v) (ds := ds) (a := a) (b := b) (D := D) 64 FU 0 g (FU_lt (by omega)) (by omega) (fun y hy => absurd hy (by omega))
  obtain ⟨g2, e2, s2⟩ := M_rb31 (p := p) (q := q) (w := w) (v := v) (ds := ds) hm (a := a) (b := b) (D := D) m FU 0 g1 (FU_lt (by omega)) (by omega) (by rw [s1 83 (by decide)]; exact h0) (fun t ht => by rw [s1 100 (by decide)]; exact hD t ht) h1
  refine ⟨g2, ?_, Sb.tr s1 s2⟩
  unfold f_X12_readingsBy
  rw [gd_t (show kd 83 = 12 from rfl)]
  exact e1.trans e2
theorem M_bk126 {m np t : Nat} (hm : m ≤ 6) (hnp : np ≤ 6) (ht : t < m) {C : Nat → Int32} {rs : Nat} (hrs : (rs = np ∧ ∀ j, j < np → F (Cr C t j) m 0 0 = F C m 0 0 → F C m 0 0 = 0) ∨ (rs < np ∧ F (Cr C t rs) m 0 0 = F C m 0 0 ∧ 0 < F C m 0 0 ∧ ∀ j, j < rs → F (Cr C t j) m 0 0 ≠ F C m 0 0)) : ∀ (r fu i : Nat) (g : Nat → Nat → Int32), r < fu → i + r = rs → g 84 1 = I np → g 83 27 = I m → (∀ t, t < m → g 100 t = C t) →
    ∃ g', f_X12_book_126 fu (g, RF p q w v ds) 83 (I t) (I (F C m 0 0 : Nat)) (I i) = some (if rs = np then -4 else I rs, (g', RF p q w v ds)) ∧ Sb [101] g g' := by
  have hF := F_le C m 0 0
  have h6 : 6 ^ m ≤ 6 ^ 6 := Nat.pow_le_pow_right (by decide) hm
  have h66 : (6 : Nat) ^ 6 = 46656 := by decide
  have hbk : ∀ (i : Nat) (g : Nat → Nat → Int32), i < 6 → g 83 27 = I m → (∀ t, t < m → g 100 t = C t) → ∃ g', f_X12_readingsBy (g, RF p q w v ds) 83 (I t) (b1 i) = some (I (F (Cr C t i) m 0 0 : Nat), (g', RF p q w v ds)) ∧ Sb [101] g g' := fun i g hi h0 hC => M_rb hm h0 (fun t' ht' => by
    unfold Cr
    rw [hC t' ht']
    by_cases c : t' = t
    · subst c; rw [if_pos rfl, if_pos rfl]
    · rw [if_neg c, if_neg (fun z => c (by have := (I_inj (by omega) (by omega)).mp z; omega))])
  intro r
  induction r with
  | zero =>
    intro fu i g hf hi h1 h0 hC
    obtain ⟨fu, rfl⟩ : ∃ k, fu = k + 1 := ⟨fu - 1, by omega⟩
    have : i = rs := by omega
    subst this
    rcases hrs with ⟨e, -⟩ | ⟨e1, e2, e3, -⟩
    · refine ⟨g, ?_, Sb.rf⟩
      rw [if_pos e, f_X12_book_126]
      simp only [r_83_1, r_83_2, r_83_3, r_83_4, r_83_6, r_83_8, r_83_11, r_83_13, r_83_15, r_83_19, r_83_20, r_83_21, r_83_22, r_83_24, r_83_25, r_83_26, r_83_28, r_83_29, k_83, n_83, k_84, n_84, k_85, n_85, k_86, n_86, k_87, n_87, k_88, n_88, k_89, n_89, k_90, n_90, k_91, n_91, k_92, n_92, k_93, n_93, k_94, n_94, k_95, n_95, k_96, n_96, k_97, n_97, k_98, n_98, k_99, n_99, k_100, n_100, k_101, n_101, ci_0, ci_1, ci_2, ci_3, ci_4, ii_0, ii_1, ii_2, ii_3, ii_4, id_0, id_1, id_2, gd, if_true, reduceIte, h1, if_pos (show I (np : Int) ≤ I (i : Int) from (I_le (by omega) (by omega)).mpr (by omega))]
    · obtain ⟨g', q1, q2⟩ := hbk i g (by omega) h0 hC
      refine ⟨g', ?_, q2⟩
      rw [if_neg (by omega), f_X12_book_126]
      have cn : ¬ I (np : Int) ≤ I (i : Int) := fun z => by have := (I_le (by omega) (by omega)).mp z; omega
      have cp : ¬ I ((F C m 0 0 : Nat) : Int) ≤ 0 := fun z => by have := (I_le (b := 0) (by omega) (by omega)).mp z; omega
      unfold b1 at q1
      revert q1
      generalize f_X12_readingsBy = rb
      intro q1
      simp only [r_83_1, r_83_2, r_83_3, r_83_4, r_83_6, r_83_8, r_83_11, r_83_13, r_83_15, r_83_19, r_83_20, r_83_21, r_83_22, r_83_24, r_83_25, r_83_26, r_83_28, r_83_29, k_83, n_83, k_84, n_84, k_85, n_85, k_86, n_86, k_87, n_87, k_88, n_88, k_89, n_89, k_90, n_90, k_91, n_91, k_92, n_92, k_93, n_93, k_94, n_94, k_95, n_95, k_96, n_96, k_97, n_97, k_98, n_98, k_99, n_99, k_100, n_100, k_101, n_101, ci_0, ci_1, ci_2, ci_3, ci_4, ii_0, ii_1, ii_2, ii_3, ii_4, id_0, id_1, id_2, gd, if_true, reduceIte, h1, if_neg cn, if_neg cp, q1, bd_w, e2]
  | succ r ih =>
    intro fu i g hf hi h1 h0 hC
    obtain ⟨fu, rfl⟩ : ∃ k, fu = k + 1 := ⟨fu - 1, by omega⟩
    have hin : i < np := by rcases hrs with z | z <;> omega
    have cn : ¬ I (np : Int) ≤ I (i : Int) := fun z => by have := (I_le (by omega) (by omega)).mp z; omega
    by_cases hz : F C m 0 0 = 0
    · have hrn : rs = np := by rcases hrs with z | z <;> omega
      refine ⟨g, ?_, Sb.rf⟩
      rw [if_pos hrn, f_X12_book_126]
      simp only [r_83_1, r_83_2, r_83_3, r_83_4, r_83_6, r_83_8, r_83_11, r_83_13, r_83_15, r_83_19, r_83_20, r_83_21, r_83_22, r_83_24, r_83_25, r_83_26, r_83_28, r_83_29, k_83, n_83, k_84, n_84, k_85, n_85, k_86, n_86, k_87, n_87, k_88, n_88, k_89, n_89, k_90, n_90, k_91, n_91, k_92, n_92, k_93, n_93, k_94, n_94, k_95, n_95, k_96, n_96, k_97, n_97, k_98, n_98, k_99, n_99, k_100, n_100, k_101, n_101, ci_0, ci_1, ci_2, ci_3, ci_4, ii_0, ii_1, ii_2, ii_3, ii_4, id_0, id_1, id_2, gd, if_true, reduceIte, h1, if_neg cn, hz, if_pos (show I ((0 : Nat) : Int) ≤ 0 by decide)]
    · obtain ⟨g1, q1, q2⟩ := hbk i g (by omega) h0 hC
      have hne : F (Cr C t i) m 0 0 ≠ F C m 0 0 := by
        rcases hrs with z | z
        · exact fun e => hz (z.2 i hin e)
        · exact z.2.2.2 i (by omega)
      have hFi := F_le (Cr C t i) m 0 0
      obtain ⟨g', e, s'⟩ := ih fu (i + 1) g1 (by omega) (by omega) (by rw [q2 84 (by decide)]; exact h1) (by rw [q2 83 (by decide)]; exact h0) (fun t ht => by rw [q2 100 (by decide)]; exact hC t ht)
      refine ⟨g', ?_, Sb.tr q2 s'⟩
      have cp : ¬ I ((F C m 0 0 : Nat) : Int) ≤ 0 := fun z => by have := (I_le (b := 0) (by omega) (by omega)).mp z; omega
      have ce : ¬ I ((F (Cr C t i) m 0 0 : Nat) : Int) = I ((F C m 0 0 : Nat) : Int) := fun z => hne (by have := (I_inj (by omega) (by omega)).mp z; omega)
      rw [← e, f_X12_book_126]
      unfold b1 at q1
      revert q1
      generalize f_X12_readingsBy = rb
      intro q1
      simp only [r_83_1, r_83_2, r_83_3, r_83_4, r_83_6, r_83_8, r_83_11, r_83_13, r_83_15, r_83_19, r_83_20, r_83_21, r_83_22, r_83_24, r_83_25, r_83_26, r_83_28, r_83_29, k_83, n_83, k_84, n_84, k_85, n_85, k_86, n_86, k_87, n_87, k_88, n_88, k_89, n_89, k_90, n_90, k_91, n_91, k_92, n_92, k_93, n_93, k_94, n_94, k_95, n_95, k_96, n_96, k_97, n_97, k_98, n_98, k_99, n_99, k_100, n_100, k_101, n_101, ci_0, ci_1, ci_2, ci_3, ci_4, ii_0, ii_1, ii_2, ii_3, ii_4, id_0, id_1, id_2, gd, if_true, reduceIte, h1, if_neg cn, if_neg cp, q1, bd_w, if_neg ce, I_s]
theorem M_bk44 (k27 : Hp → Nat → Int32 → Int32 → Option (Int32 × Hp)) {M : Nat → Int32} {n np kind t : Nat} {x set : Int32} (hM : PW M n np kind) (ht : t < 6) (hL : LO n set) : ∀ (r fu i : Nat) (g : Nat → Nat → Int32), r < fu → i + r = np → g 84 = M → g 99 t = set → g 100 t = mk i (fun i => decide (0 < WYS set kind (am M i))) →
    ∃ g', f_X12_book_44 k27 fu (g, RF p q w v ds) 83 x (I t) (I i) = k27 (g', RF p q w v ds) 83 x (I ((t + 1 : Nat) : Int)) ∧ Sb [97, 98, 100] g g' ∧ (∀ j, j ≠ t → g' 100 j = g 100 j) ∧ g' 100 t = mk np (fun i => decide (0 < WYS set kind (am M i))) := by
  have hnp := hM.2.2.2.1
  have hn := hM.2.1
  intro r
  induction r with
  | zero =>
    intro fu i g hf hi h1 h2 h5
    obtain ⟨fu, rfl⟩ : ∃ k, fu = k + 1 := ⟨fu - 1, by omega⟩
    have : i = np := by omega
    subst this
    refine ⟨g, ?_, Sb.rf, fun _ _ => rfl, h5⟩
    rw [f_X12_book_44]
    have e1 : g 84 1 = I i := by rw [h1]; exact hM.2.2.1
    simp only [r_83_1, r_83_2, r_83_3, r_83_4, r_83_6, r_83_8, r_83_11, r_83_13, r_83_15, r_83_19, r_83_20, r_83_21, r_83_22, r_83_24, r_83_25, r_83_26, r_83_28, r_83_29, k_83, n_83, k_84, n_84, k_85, n_85, k_86, n_86, k_87, n_87, k_88, n_88, k_89, n_89, k_90, n_90, k_91, n_91, k_92, n_92, k_93, n_93, k_94, n_94, k_95, n_95, k_96, n_96, k_97, n_97, k_98, n_98, k_99, n_99, k_100, n_100, k_101, n_101, ci_0, ci_1, ci_2, ci_3, ci_4, ii_0, ii_1, ii_2, ii_3, ii_4, id_0, id_1, id_2, gd, if_true, reduceIte, e1, if_pos (show I (i : Int) ≤ I (i : Int) from (I_le (by omega) (by omega)).mpr (by omega)), I_s]
  | succ r ih =>
    intro fu i g hf hi h1 h2 h5
    obtain ⟨fu, rfl⟩ : ∃ k, fu = k + 1 := ⟨fu - 1, by omega⟩
    have c1 : ¬ I (np : Int) ≤ I (i : Int) := fun z => by have := (I_le (by omega) (by omega)).mp z; omega
    obtain ⟨am1, am2, am3⟩ := am_e hM (show i < np by omega)
    obtain ⟨g1, w1, s1⟩ := M_waysOf (p := p) (q := q) (w := w) (v := v) (ds := ds) (set := set) (n := n) (a := am M i) (kind := kind) (g := g) (by rw [h1]; exact hM.1) hn.2 hL am3 hM.2.2.2.2.2.1
    have hb : (if WYS set kind (am M i) ≤ 0 then (0 : Int32) else b1 i) = if decide (0 < WYS set kind (am M i)) then b1 i else 0 := by
      by_cases c : WYS set kind (am M i) ≤ 0
      · rw [if_pos c, if_neg (by rw [decide_eq_true_eq]; exact Int32.not_lt.mpr c)]
      · rw [if_neg c, if_pos (by rw [decide_eq_true_eq]; exact Int32.not_le.mp c)]
    obtain ⟨g', e, s', hj, ht'⟩ := ih fu (i + 1) (uc g1 100 (upd (g1 100) t (mk (i + 1) (fun i => decide (0 < WYS set kind (am M i)))))) (by omega) (by omega) (by rw [uc_n (by decide), s1 84 (by decide)]; exact h1) (by rw [uc_n (by decide), s1 99 (by decide)]; exact h2) (by rw [uc_s, upd_s])
    refine ⟨g', ?_, Sb.tr (Sb.tr (s1.mono (by decide)) (Sb.rf.uc (by decide))) s', fun j hj2 => by rw [hj j hj2, uc_s, upd_n hj2, s1 100 (by decide)], ht'⟩
    have e1 : g 84 1 = I np := by rw [h1]; exact hM.2.2.1
    have e2 : g 84 2 = I kind := by rw [h1]; exact hM.2.2.2.2.1
    have e3 : g 84 (53 + i) = I (am M i) := by rw [h1]; exact am1
    rw [← e, f_X12_book_44]
    revert w1
    generalize f_X12_waysOf = wf
    intro w1
    have i53 : (53 : Int32) + I (i : Int) = I ((53 + i : Nat) : Int) := I_k 53 i
    simp only [r_83_1, r_83_2, r_83_3, r_83_4, r_83_6, r_83_8, r_83_11, r_83_13, r_83_15, r_83_19, r_83_20, r_83_21, r_83_22, r_83_24, r_83_25, r_83_26, r_83_28, r_83_29, k_83, n_83, k_84, n_84, k_85, n_85, k_86, n_86, k_87, n_87, k_88, n_88, k_89, n_89, k_90, n_90, k_91, n_91, k_92, n_92, k_93, n_93, k_94, n_94, k_95, n_95, k_96, n_96, k_97, n_97, k_98, n_98, k_99, n_99, k_100, n_100, k_101, n_101, ci_0, ci_1, ci_2, ci_3, ci_4, ii_0, ii_1, ii_2, ii_3, ii_4, id_0, id_1, id_2, gd, if_true, reduceIte, e1, if_neg c1, I_in (show t < 6 by omega) (show 6 < 1000000 by decide), I_ix (show t < 1000000 by omega), i53, I_in (show 53 + i < 59 by omega) (show 59 < 1000000 by decide), I_ix (show 53 + i < 1000000 by omega), e2, e3, h2, w1, bd_w]
    unfold f_X12_book_96
    simp only [r_83_1, r_83_2, r_83_3, r_83_4, r_83_6, r_83_8, r_83_11, r_83_13, r_83_15, r_83_19, r_83_20, r_83_21, r_83_22, r_83_24, r_83_25, r_83_26, r_83_28, r_83_29, k_83, n_83, k_84, n_84, k_85, n_85, k_86, n_86, k_87, n_87, k_88, n_88, k_89, n_89, k_90, n_90, k_91, n_91, k_92, n_92, k_93, n_93, k_94, n_94, k_95, n_95, k_96, n_96, k_97, n_97, k_98, n_98, k_99, n_99, k_100, n_100, k_101, n_101, gd, if_true, reduceIte, I_in (show t < 6 by omega) (show 6 < 1000000 by decide), I_ix (show t < 1000000 by omega), lt_w, I_s, h5]
    rw [mk_s]
    revert hb
    generalize mk i (fun i => decide (0 < WYS set kind (am M i))) = z
    intro hb
    rw [← hb]
    by_cases c : WYS set kind (am M i) ≤ 0
    · rw [if_pos c, if_pos c]
    · rw [if_neg c, if_neg c]; rfl
def bkE (h : Hp) (x : Int32) : Option (Int32 × Hp) := bd (f_X12_readingsBy h 83 (-4 : Int32) (0 : Int32)) (fun r1 h2 => if 0 ≤ x then f_X12_book_126 FU h2 83 x r1 (0 : Int32) else some (r1, h2))
theorem M_bk27 {n np kind m : Nat} {x : Int32} (hm : m ≤ 6) : ∀ (r fu k : Nat) (g : Nat → Nat → Int32), r < fu → k + r = m → PW (g 84) n np kind → g 83 27 = I m → (∀ t, t < m → LO n (g 99 t)) → (∀ t, t < k → g 100 t = CB (g 84) (g 99) kind np t) →
    ∃ g', f_X12_book_27 fu (g, RF p q w v ds) 83 x (I k) = bkE (g', RF p q w v ds) x ∧ Sb [97, 98, 100] g g' ∧ ∀ t, t < m → g' 100 t = CB (g 84) (g 99) kind np t := by
  intro r
  induction r with
  | zero =>
    intro fu k g hf hk hM h0 hL hC
    obtain ⟨fu, rfl⟩ : ∃ k, fu = k + 1 := ⟨fu - 1, by omega⟩
    have : k = m := by omega
    subst this
    refine ⟨g, ?_, Sb.rf, hC⟩
    simp only [f_X12_book_27]
    rw [h0, if_pos ((I_le (by omega) (by omega)).mpr (by omega))]
    rfl
  | succ r ih =>
    intro fu k g hf hk hM h0 hL hC
    obtain ⟨fu, rfl⟩ : ∃ k, fu = k + 1 := ⟨fu - 1, by omega⟩
    have c1 : ¬ I (m : Int) ≤ I (k : Int) := fun z => by have := (I_le (by omega) (by omega)).mp z; omega
    have hnp := hM.2.2.2.1
    obtain ⟨g1, e1, s1, j1, t1'⟩ := M_bk44 (p := p) (q := q) (w := w) (v := v) (ds := ds) (f_X12_book_27 fu) (x := x) hM (show k < 6 by omega) (hL k (by omega)) np FU 0 (uc g 100 (upd (g 100) k 0)) (FU_lt (by omega)) (by omega) (uc_n (by decide)) (by rw [uc_n (by decide)]) (by rw [uc_s, upd_s]; rfl)
    have s2 : Sb [97, 98, 100] g g1 := Sb.tr (Sb.rf.uc (by decide)) s1
    have e84 : g1 84 = g 84 := s2 84 (by decide)
    have e99 : g1 99 = g 99 := s2 99 (by decide)
    obtain ⟨g', e, s', h'⟩ := ih fu (k + 1) g1 (by omega) (by omega) (by rw [e84]; exact hM) (by rw [s2 83 (by decide)]; exact h0) (by rw [e99]; exact hL) (fun t ht => by
      rw [e84, e99]
      by_cases c : t = k
      · subst c; exact t1'
      · rw [j1 t c, uc_s, upd_n c]; exact hC t (by omega))
    rw [e84, e99] at h'
    refine ⟨g', ?_, Sb.tr s2 s', h'⟩
    rw [← e, ← e1]
    simp only [f_X12_book_27]
    rw [h0, if_neg c1]
    generalize f_X12_book_44 (f_X12_book_27 fu) FU = lf
    simp only [r_83_1, r_83_2, r_83_3, r_83_4, r_83_6, r_83_8, r_83_11, r_83_13, r_83_15, r_83_19, r_83_20, r_83_21, r_83_22, r_83_24, r_83_25, r_83_26, r_83_28, r_83_29, k_83, n_83, k_84, n_84, k_85, n_85, k_86, n_86, k_87, n_87, k_88, n_88, k_89, n_89, k_90, n_90, k_91, n_91, k_92, n_92, k_93, n_93, k_94, n_94, k_95, n_95, k_96, n_96, k_97, n_97, k_98, n_98, k_99, n_99, k_100, n_100, k_101, n_101, gd, if_true, reduceIte, I_in (show k < 6 by omega) (show 6 < 1000000 by decide), I_ix (show k < 1000000 by omega), lt_w]
    rfl
end T
/-- who is sure -/
theorem sure_c {N : Nat → Nat} {X : Int32} (hX : ∀ j, j < 32 → bt X j = (decide (j < 6) && decide (0 < N j))) : (∃ i, i < 6 ∧ N i = sm 6 N ∧ 0 < sm 6 N ∧ (∀ j, j < 6 → j ≠ i → N j = 0) ∧ pc 32 X = 1 ∧ bt X i = true ∧ ∀ j, j < i → bt X j = false) ∨ (pc 32 X ≠ 1 ∧ ∀ i, i < 6 → N i = sm 6 N → sm 6 N = 0) := by
  by_cases h1 : pc 32 X = 1
  · obtain ⟨i, i1, i2, i3⟩ := one_bit 32 (by decide) h1
    have hi : i < 6 ∧ 0 < N i := by
      rw [hX i i1, Bool.and_eq_true, decide_eq_true_eq, decide_eq_true_eq] at i2
      exact i2
    have hz : ∀ j, j < 6 → j ≠ i → N j = 0 := fun j hj hne => by
      rcases Nat.eq_zero_or_pos (N j) with z | z
      · exact z
      · exact absurd (i3 j (by omega) (by rw [hX j (by omega), decide_eq_true hj, decide_eq_true z]; rfl)) hne
    have e := sm_one (f := N) hi.1 hz
    refine Or.inl ⟨i, hi.1, e.symm, by omega, hz, h1, i2, fun j hj => ?_⟩
    apply Bool.eq_false_iff.mpr
    intro z
    have := i3 j (by omega) z
    omega
  · refine Or.inr ⟨h1, fun i hi hN => Classical.byContradiction (fun hne => h1 ?_)⟩
    have hz : ∀ j, j < 6 → j ≠ i → N j = 0 := fun j hj hne2 => by
      have hs : N i + N j ≤ sm 6 N := by
        have h2 : sm 6 (fun k => (if k = i then N i else 0) + (if k = j then N j else 0)) = N i + N j := by
          rw [sm_add, sm_one (i := i) hi (fun k _ hk => if_neg hk), sm_one (i := j) hj (fun k _ hk => if_neg hk), if_pos rfl, if_pos rfl]
        have h3 : ∀ n, sm n (fun k => (if k = i then N i else 0) + (if k = j then N j else 0)) ≤ sm n N := by
          intro n
          induction n with
          | zero => exact Nat.le_refl _
          | succ n ih =>
            rw [sm_s, sm_s]
            have : (if n = i then N i else 0) + (if n = j then N j else 0) ≤ N n := by
              by_cases c : n = i
              · rw [if_pos c, if_neg (by omega), c]; exact Nat.le_refl _
              · rw [if_neg c]
                by_cases c2 : n = j
                · rw [if_pos c2, c2]; omega
                · rw [if_neg c2]; exact Nat.zero_le _
            omega
        have := h3 6
        omega
      omega
    have eX : X = b1 i := by
      apply bt_ext
      intro j hj
      rw [hX j hj, bt_b1 (by omega) hj]
      by_cases c : j = i
      · subst c
        rw [decide_eq_true hi, decide_eq_true (show 0 < N j by omega), decide_eq_true rfl]; rfl
      · rw [decide_eq_false c]
        by_cases c2 : j < 6
        · rw [hz j c2 c]; simp
        · rw [decide_eq_false c2]; rfl
    rw [eX]
    have : ∀ k, k < 6 → pc 32 (b1 k) = 1 := by decide +kernel
    exact this i hi
