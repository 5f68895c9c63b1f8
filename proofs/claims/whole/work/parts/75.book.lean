/-! the clerk's book, read by the class -/
def ft (C : Nat → Int32) (d k : Nat) (gv : Int32) (i : Nat) : Nat := if bt (C k) i && !bt gv i then F C d (k + 1) (gv ||| b1 i) else 0
theorem F_ft (C : Nat → Int32) (d k : Nat) (gv : Int32) : F C (d + 1) k gv = sm 6 (ft C d k gv) := rfl
theorem dec_add (a b : Nat) : decide (0 < a + b) = (decide (0 < a) || decide (0 < b)) := by
  by_cases h : 0 < a
  · rw [decide_eq_true h, decide_eq_true (show 0 < a + b by omega)]; rfl
  · have : a = 0 := by omega
    subst this
    rw [Nat.zero_add]; rfl
/-- who was it in some reading -/
def WB' (C : Nat → Int32) (d k : Nat) (gv : Int32) (S : Nat → Int32) (i t j : Nat) : Bool := if t < k then bt (S t) j && decide (0 < sm i (ft C d k gv)) else decide (j < 6) && decide (0 < sm i (ft (Cr C t j) d k gv))
theorem WB_no {C : Nat → Int32} {d k i : Nat} {gv : Int32} (S : Nat → Int32) (hc : ¬ (bt (C k) i && !bt gv i) = true) (t j : Nat) : WB' C d k gv S (i + 1) t j = WB' C d k gv S i t j := by
  unfold WB'
  have e : ft C d k gv i = 0 := if_neg hc
  rw [sm_s, e, Nat.add_zero, sm_s]
  have e2 : ft (Cr C t j) d k gv i = 0 := by
    apply if_neg
    intro z
    apply hc
    rw [Bool.and_eq_true] at z ⊢
    refine ⟨?_, z.2⟩
    have z1 := z.1
    unfold Cr at z1
    split at z1
    · rw [bt_and, Bool.and_eq_true] at z1; exact z1.1
    · exact z1
  rw [e2, Nat.add_zero]
section T
variable {p q w v : Nat} {ds : Nat → Nat}
theorem X_rf26 (rec : Hp → Nat → Int32 → Int32 → Option (Unit × Hp)) {m : Nat} (hm : m ≤ 6) : ∀ (r fu t : Nat) (g : Nat → Nat → Int32), r < fu → t + r = m → g 53 0 = I m →
    ∃ g', f_X0_readFrom_26 rec fu (g, RF p q w v ds) 53 (I t) = some ((), (g', RF p q w v ds)) ∧ Sb [56] g g' ∧ ∀ j, j < m → g' 56 j = if t ≤ j then g 56 j ||| g 57 j else g 56 j := by
  intro r
  induction r with
  | zero =>
    intro fu t g hf hk h0
    obtain ⟨fu, rfl⟩ : ∃ k, fu = k + 1 := ⟨fu - 1, by omega⟩
    have : t = m := by omega
    subst this
    refine ⟨g, ?_, Sb.rf, fun j hj => (if_neg (by omega)).symm⟩
    rw [f_X0_readFrom_26]
    simp only [h0, if_pos (show I (t : Int) ≤ I (t : Int) from (I_le (by omega) (by omega)).mpr (by omega))]
  | succ r ih =>
    intro fu t g hf hk h0
    obtain ⟨fu, rfl⟩ : ∃ k, fu = k + 1 := ⟨fu - 1, by omega⟩
    have c1 : ¬ I (m : Int) ≤ I (t : Int) := fun z => by have := (I_le (by omega) (by omega)).mp z; omega
    obtain ⟨g', e, s', ht⟩ := ih fu (t + 1) (uc g 56 (upd (g 56) t (g 56 t ||| g 57 t))) (by omega) (by omega) (by rw [uc_n (by decide)]; exact h0)
    refine ⟨g', ?_, fun b hb => by rw [s' b hb, uc_n (fun z => hb (by rw [z]; decide))], fun j hj => ?_⟩
    · rw [← e, f_X0_readFrom_26]
      simp only [h0, if_neg c1, r_53_2, r_53_3, r_53_4, r_53_5, k_53, n_53, k_54, n_54, k_55, n_55, k_56, n_56, k_57, n_57, gd, if_true, reduceIte, I_in (show t < 6 by omega) (show 6 < 1000000 by decide), I_ix (show t < 1000000 by omega), lt_w, I_s]
    · rw [ht j hj, uc_s, uc_n (by decide)]
      by_cases c : j = t
      · subst c; rw [if_neg (by omega), upd_s, if_pos (Nat.le_refl _)]
      · rw [upd_n c]
        by_cases c2 : t + 1 ≤ j
        · rw [if_pos c2, if_pos (by omega)]
        · rw [if_neg c2, if_neg (by omega)]
theorem X_rf58 {m d k : Nat} {C : Nat → Int32} {gv : Int32} (hm : m ≤ 6) (hk : k + (d + 1) = m) (rec : Hp → Nat → Int32 → Int32 → Option (Unit × Hp))
    (hrec : ∀ (g : Nat → Nat → Int32) (gv : Int32), g 53 0 = I m → (∀ t, t < m → g 55 t = C t) → ∃ g', rec (g, RF p q w v ds) 53 (I ((k + 1 : Nat) : Int)) gv = some ((), (g', RF p q w v ds)) ∧ Sb [53, 56, 57] g g' ∧ g' 53 0 = g 53 0 ∧ g' 53 1 = g 53 1 + I (F C d (k + 1) gv : Nat) ∧ (∀ t, t < k + 1 → g' 57 t = g 57 t) ∧ ∀ t, t < m → ∀ j, j < 32 → bt (g' 56 t) j = (bt (g 56 t) j || (if t < k + 1 then bt (g 57 t) j && decide (0 < F C d (k + 1) gv) else decide (j < 6) && decide (0 < F (Cr C t j) d (k + 1) gv))))
    (g0 : Nat → Nat → Int32) : ∀ (r fu i : Nat) (g : Nat → Nat → Int32), r < fu → i + r = 6 → g 53 0 = I m → (∀ t, t < m → g 55 t = C t) → Sb [53, 56, 57] g0 g → g 53 0 = g0 53 0 → g 53 1 = g0 53 1 + I (sm i (ft C d k gv) : Nat) → (∀ t, t < k → g 57 t = g0 57 t) → (∀ t, t < m → ∀ j, j < 32 → bt (g 56 t) j = (bt (g0 56 t) j || WB' C d k gv (g0 57) i t j)) →
    ∃ g', f_X0_readFrom_58 rec fu (g, RF p q w v ds) 53 (I k) gv (I i) = some ((), (g', RF p q w v ds)) ∧ Sb [53, 56, 57] g0 g' ∧ g' 53 0 = g0 53 0 ∧ g' 53 1 = g0 53 1 + I (sm 6 (ft C d k gv) : Nat) ∧ (∀ t, t < k → g' 57 t = g0 57 t) ∧ (∀ t, t < m → ∀ j, j < 32 → bt (g' 56 t) j = (bt (g0 56 t) j || WB' C d k gv (g0 57) 6 t j)) := by
  intro r
  induction r with
  | zero =>
    intro fu i g hf hi h0 hC a1 a2 a3 a4 a5
    obtain ⟨fu, rfl⟩ : ∃ k, fu = k + 1 := ⟨fu - 1, by omega⟩
    have : i = 6 := by omega
    subst this
    refine ⟨g, ?_, a1, a2, a3, a4, a5⟩
    rw [f_X0_readFrom_58]
    exact if_pos (by decide)
  | succ r ih =>
    intro fu i g hf hi h0 hC a1 a2 a3 a4 a5
    obtain ⟨fu, rfl⟩ : ∃ k, fu = k + 1 := ⟨fu - 1, by omega⟩
    have c1 : ¬ (6 : Int32) ≤ I (i : Int) := fun z => by have := (I_le (a := 6) (by omega) (by omega)).mp z; omega
    have eb : bt (C k &&& (gv ^^^ (-1))) i = (bt (C k) i && !bt gv i) := by rw [bt_and, bt_not (by omega)]
    have e0 : f_X0_readFrom_58 rec (fu + 1) (g, RF p q w v ds) 53 (I k) gv (I i) = if (if (bt (C k) i && !bt gv i) then (1 : Int32) else 0) = 0 then f_X0_readFrom_58 rec fu (g, RF p q w v ds) 53 (I k) gv (I ((i + 1 : Nat) : Int)) else bd (rec (uc g 57 (upd (g 57) k (b1 i)), RF p q w v ds) 53 (I ((k + 1 : Nat) : Int)) (gv ||| b1 i)) (fun _ h11 => f_X0_readFrom_58 rec fu h11 53 (I k) gv (I ((i + 1 : Nat) : Int))) := by
      simp only [f_X0_readFrom_58]
      rw [if_neg c1]
      simp only [r_53_2, r_53_3, r_53_4, r_53_5, k_53, n_53, k_54, n_54, k_55, n_55, k_56, n_56, k_57, n_57, gd, if_true, reduceIte, I_in (show k < 6 by omega) (show 6 < 1000000 by decide), I_ix (show k < 1000000 by omega), hC k (by omega), X_hasBit _ _ (show i < 32 by omega), bd_w, eb, lt_w, I_s]
      rfl
    rw [e0]
    by_cases hc : (bt (C k) i && !bt gv i) = true
    · rw [if_neg (by rw [if_pos hc]; decide)]
      obtain ⟨g1, e1, s1, b0, b1', b2, b3⟩ := hrec (uc g 57 (upd (g 57) k (b1 i))) (gv ||| b1 i) (by rw [uc_n (by decide)]; exact h0) (fun t ht => by rw [uc_n (by decide)]; exact hC t ht)
      rw [uc_n (by decide)] at b0 b1'
      have hft : ft C d k gv i = F C d (k + 1) (gv ||| b1 i) := if_pos hc
      have f57 : ∀ t, t < k → g1 57 t = g0 57 t := fun t ht => by rw [b2 t (by omega), uc_s, upd_n (by omega)]; exact a4 t ht
      rw [e1, bd_w]
      apply ih fu (i + 1) g1 (by omega) (by omega) (by rw [b0]; exact h0) (fun t ht => by rw [s1 55 (by decide), uc_n (by decide)]; exact hC t ht)
      · exact Sb.tr a1 (Sb.tr (Sb.rf.uc (by decide)) s1)
      · rw [b0]; exact a2
      · rw [b1', a3, sm_s, hft, Int32.add_assoc, I_k]
      · exact f57
      · intro t ht j hj
        rw [b3 t ht j hj, uc_n (by decide), a5 t ht j hj, Bool.or_assoc]
        congr 1
        unfold WB'
        rw [sm_s, hft, sm_s]
        rw [uc_s]
        by_cases c : t < k
        · rw [if_pos c, if_pos (by omega), if_pos c, upd_n (by omega), a4 t c, dec_add, Bool.and_or_distrib_left]
        · rw [if_neg c, if_neg c]
          by_cases c2 : t = k
          · subst c2
            rw [if_pos (by omega), upd_s, bt_b1 (by omega) hj]
            by_cases c3 : j = i
            · subst c3
              have : ft (Cr C t j) d t gv j = F C d (t + 1) (gv ||| b1 j) := by
                unfold ft
                rw [Cr_at (by omega) (by omega), decide_eq_true rfl, Bool.and_true, if_pos hc, Cr_far _ _ _ (by omega)]
              rw [this, dec_add, decide_eq_true rfl, decide_eq_true (show j < 6 by omega)]
              rfl
            · rw [decide_eq_false c3, Bool.false_and, Bool.or_false]
              by_cases c4 : j < 6
              · have : ft (Cr C t j) d t gv i = 0 := by
                  unfold ft
                  rw [Cr_at c4 (by omega), decide_eq_false (fun z => c3 z.symm), Bool.and_false, Bool.false_and]
                  rfl
                rw [this, Nat.add_zero]
              · rw [decide_eq_false c4, Bool.false_and, Bool.false_and]
          · have e : Cr C t j k = C k := by unfold Cr; rw [if_neg (by omega)]
            have : ft (Cr C t j) d k gv i = F (Cr C t j) d (k + 1) (gv ||| b1 i) := by
              unfold ft
              rw [e, if_pos hc]
            rw [if_neg (by omega), this, dec_add, Bool.and_or_distrib_left]
    · rw [if_pos (by rw [if_neg hc])]
      have hft : ft C d k gv i = 0 := if_neg hc
      apply ih fu (i + 1) g (by omega) (by omega) h0 hC a1 a2
      · rw [a3, sm_s, hft, Nat.add_zero]
      · exact a4
      · intro t ht j hj
        rw [a5 t ht j hj, WB_no _ hc]
theorem X_rf {m : Nat} {C : Nat → Int32} (hm : m ≤ 6) : ∀ (d dd k : Nat) (g : Nat → Nat → Int32) (gv : Int32), d < dd → k + d = m → g 53 0 = I m → (∀ t, t < m → g 55 t = C t) →
    ∃ g', f_X0_readFrom dd (g, RF p q w v ds) 53 (I k) gv = some ((), (g', RF p q w v ds)) ∧ Sb [53, 56, 57] g g' ∧ g' 53 0 = g 53 0 ∧ g' 53 1 = g 53 1 + I (F C d k gv : Nat) ∧ (∀ t, t < k → g' 57 t = g 57 t) ∧ ∀ t, t < m → ∀ j, j < 32 → bt (g' 56 t) j = (bt (g 56 t) j || (if t < k then bt (g 57 t) j && decide (0 < F C d k gv) else decide (j < 6) && decide (0 < F (Cr C t j) d k gv))) := by
  intro d
  induction d with
  | zero =>
    intro dd k g gv hd hk h0 hC
    obtain ⟨dd, rfl⟩ : ∃ k, dd = k + 1 := ⟨dd - 1, by omega⟩
    have : k = m := by omega
    subst this
    obtain ⟨g1, hg1⟩ : ∃ g1, g1 = uc g 53 (upd (g 53) 1 (g 53 1 + 1)) := ⟨_, rfl⟩
    obtain ⟨g2, e2, s2, t2⟩ := X_rf26 (p := p) (q := q) (w := w) (v := v) (ds := ds) (f_X0_readFrom dd) hm k FU 0 g1 (FU_lt (by omega)) (by omega) (by rw [hg1, uc_s, upd_n (by decide)]; exact h0)
    refine ⟨g2, ?_, Sb.tr (by rw [hg1]; exact Sb.rf.uc (by decide)) (s2.mono (by decide)), ?_, ?_, fun t ht => ?_, fun t ht j hj => ?_⟩
    · show f_X0_readFrom_body (f_X0_readFrom dd) _ _ _ _ = _
      unfold f_X0_readFrom_body f_X0_readFrom_14
      rw [gd_t (show kd 53 = 0 from rfl), show (g, RF p q w v ds).1 53 0 = I k from h0, if_pos ((I_le (by omega) (by omega)).mpr (by omega)), lt_w]
      rw [hg1] at e2
      exact e2
    · rw [s2 53 (by decide), hg1, uc_s, upd_n (by decide)]
    · rw [s2 53 (by decide), hg1, uc_s, upd_s]; rfl
    · rw [s2 57 (by decide), hg1, uc_n (by decide)]
    · rw [t2 t ht, if_pos (Nat.zero_le _), bt_or, hg1, uc_n (by decide), uc_n (by decide), if_pos ht, show decide (0 < F C 0 k gv) = true from rfl, Bool.and_true]
  | succ d ih =>
    intro dd k g gv hd hk h0 hC
    obtain ⟨dd, rfl⟩ : ∃ k, dd = k + 1 := ⟨dd - 1, by omega⟩
    obtain ⟨g', e, b1', b2, b3, b4, b5⟩ := X_rf58 (p := p) (q := q) (w := w) (v := v) (ds := ds) (gv := gv) hm hk (f_X0_readFrom dd) (fun g gv h1 h2 => ih dd (k + 1) g gv (by omega) (by omega) h1 h2) g 6 FU 0 g (FU_lt (by omega)) (by omega) h0 hC Sb.rf rfl (by rw [sm_0]; exact (Int32.add_zero _).symm) (fun _ _ => rfl) (fun t ht j hj => by
      unfold WB'
      rw [sm_0, sm_0]
      split <;> simp)
    refine ⟨g', ?_, b1', b2, b3, b4, fun t ht j hj => b5 t ht j hj⟩
    show f_X0_readFrom_body (f_X0_readFrom dd) _ _ _ _ = _
    unfold f_X0_readFrom_body
    rw [gd_t (show kd 53 = 0 from rfl), show (g, RF p q w v ds).1 53 0 = I m from h0, if_neg (fun z => by have := (I_le (by omega) (by omega)).mp z; omega), if_pos (show I (k : Int) < (6 : Int32) from (I_lt (b := 6) (by omega) (by omega)).mpr (by omega))]
    exact e
/-- who may have said a row -/
def CB (M R : Nat → Int32) (kind np : Nat) (t : Nat) : Int32 := mk np (fun i => decide (0 < WYS (R t) kind (am M i)))
theorem mk_s {n : Nat} (f : Nat → Bool) : mk (n + 1) f = mk n f ||| (if f n then b1 n else 0) := rfl
theorem X_rd41 (k : Hp → Nat → Nat → Nat → Int32 → Option (Unit × Hp)) {M : Nat → Int32} {n np kind kd' : Nat} {c set : Int32} {l t : Nat} (hp : p = 5 ∨ p = 9) (hw : WV w v) (hM : PW M n np kd') (ht : t < 6) (hl : l ≤ 3) (hset : ∀ i : Nat, WA c set l 24 (i : Int) = WYS set kind i) : ∀ (r fu i : Nat) (g : Nat → Nat → Int32), r < fu → i + r = np → g p 1 = I np → (∀ i, i < 6 → g (p + 3) i = M (53 + i)) → g 58 2 = I (BA set 24 : Nat) → (∀ t : Int, -((BA set 24 : Nat) : Int) ≤ t → t ≤ (BA set 24 : Nat) → g w (300 + t).toNat = WA c set l 24 t) → g 55 t = mk i (fun i => decide (0 < WYS set kind (am M i))) →
    ∃ g', f_X0_read_41 k fu (g, RF p q w v ds) 53 p 58 (I t) (I i) = k (g', RF p q w v ds) 53 p 58 (I ((t + 1 : Nat) : Int)) ∧ Sb [55] g g' ∧ (∀ j, j ≠ t → g' 55 j = g 55 j) ∧ g' 55 t = mk np (fun i => decide (0 < WYS set kind (am M i))) := by
  have hnp := hM.2.2.2.1
  have kp : RF p q w v ds p 7 = p + 3 ∧ kd (p + 3) = 13 ∧ ln (p + 3) = 6 := by rcases hp with rfl | rfl <;> exact ⟨rfl, rfl, rfl⟩
  have nw : w ≠ 55 := by unfold WV at hw; omega
  intro r
  induction r with
  | zero =>
    intro fu i g hf hi h1 h2 h3 h4 h5
    obtain ⟨fu, rfl⟩ : ∃ k, fu = k + 1 := ⟨fu - 1, by omega⟩
    have : i = np := by omega
    subst this
    refine ⟨g, ?_, Sb.rf, fun _ _ => rfl, h5⟩
    rw [f_X0_read_41]
    simp only [h1, if_pos (show I (i : Int) ≤ I (i : Int) from (I_le (by omega) (by omega)).mpr (by omega)), I_s]
  | succ r ih =>
    intro fu i g hf hi h1 h2 h3 h4 h5
    obtain ⟨fu, rfl⟩ : ∃ k, fu = k + 1 := ⟨fu - 1, by omega⟩
    have c1 : ¬ I (np : Int) ≤ I (i : Int) := fun z => by have := (I_le (by omega) (by omega)).mp z; omega
    obtain ⟨am1, am2, am3⟩ := am_e hM (show i < np by omega)
    have hcm := X_coming (p := p) (q := q) (ds := ds) hw am3 hl h3 h4
    have hb : (if WYS set kind (am M i) ≤ 0 then (0 : Int32) else b1 i) = if decide (0 < WYS set kind (am M i)) then b1 i else 0 := by
      by_cases c : WYS set kind (am M i) ≤ 0
      · rw [if_pos c, if_neg (by rw [decide_eq_true_eq]; exact Int32.not_lt.mpr c)]
      · rw [if_neg c, if_pos (by rw [decide_eq_true_eq]; exact Int32.not_le.mp c)]
    obtain ⟨g', e, s', hj, ht'⟩ := ih fu (i + 1) (uc g 55 (upd (g 55) t (mk (i + 1) (fun i => decide (0 < WYS set kind (am M i)))))) (by omega) (by omega) (by rw [uc_n (by omega)]; exact h1) (fun i hi => by rw [uc_n (by omega)]; exact h2 i hi) (by rw [uc_n (by decide)]; exact h3) (fun t a1 a2 => by rw [uc_n nw]; exact h4 t a1 a2) (by rw [uc_s, upd_s])
    refine ⟨g', ?_, fun b hb => by rw [s' b hb, uc_n (fun z => hb (by rw [z]; decide))], fun j hj2 => by rw [hj j hj2, uc_s, upd_n hj2], ht'⟩
    rw [← e]
    simp only [f_X0_read_41]
    rw [h1, if_neg c1]
    simp only [r_53_2, r_53_3, r_53_4, r_53_5, k_53, n_53, k_54, n_54, k_55, n_55, k_56, n_56, k_57, n_57, kp, gd, if_true, reduceIte, I_in (show t < 6 by omega) (show 6 < 1000000 by decide), I_ix (show t < 1000000 by omega), I_in (show i < 6 by omega) (show 6 < 1000000 by decide), I_ix (show i < 1000000 by omega), h2 i (by omega), am1, hcm, bd_w, hset]
    unfold f_X0_read_79
    simp only [r_53_2, r_53_3, r_53_4, r_53_5, k_53, n_53, k_54, n_54, k_55, n_55, k_56, n_56, k_57, n_57, gd, if_true, reduceIte, I_in (show t < 6 by omega) (show 6 < 1000000 by decide), I_ix (show t < 1000000 by omega), lt_w, I_s, h5]
    rw [mk_s]
    revert hb
    generalize mk i (fun i => decide (0 < WYS set kind (am M i))) = z
    intro hb
    rw [← hb]
    by_cases c : WYS set kind (am M i) ≤ 0
    · rw [if_pos c, if_pos c]
    · rw [if_neg c, if_neg c]; rfl
theorem X_rd2 {M : Nat → Int32} {n np kind m : Nat} (hp : p = 5 ∨ p = 9) (hM : PW M n np kind) (hm : m ≤ 6) : ∀ (r fu k w v : Nat) (g : Nat → Nat → Int32), r < fu → k + r = m → WV w v → g 53 0 = I m → g p 1 = I np → g p 2 = I kind → (∀ i, i < 6 → g (p + 3) i = M (53 + i)) → (∀ t, t < k → g 55 t = CB M (g 54) kind np t ∧ g 56 t = 0) →
    ∃ g' w' v', f_X0_read_2 fu (g, RF p q w v ds) 53 p 58 (I k) = some ((), (g', RF p q w' v' ds)) ∧ WV w' v' ∧ Sb [53, 55, 56, 57, 58, 59, 60] g g' ∧ g' 53 0 = g 53 0 ∧ g' 53 1 = I (F (CB M (g 54) kind np) m 0 0 : Nat) ∧ ∀ t, t < m → ∀ j, j < 32 → bt (g' 56 t) j = (decide (j < 6) && decide (0 < F (Cr (CB M (g 54) kind np) t j) m 0 0)) := by
  have kp : kd p = 4 := by rcases hp with rfl | rfl <;> rfl
  intro r
  induction r with
  | zero =>
    intro fu k w v g hf hk hw h0 h1 h2 h3 hI
    obtain ⟨fu, rfl⟩ : ∃ k, fu = k + 1 := ⟨fu - 1, by omega⟩
    have : k = m := by omega
    subst this
    obtain ⟨g1, hg1⟩ : ∃ g1, g1 = uc g 53 (upd (g 53) 1 0) := ⟨_, rfl⟩
    obtain ⟨g', e, s', b0, b1', b2, b3⟩ := X_rf (p := p) (q := q) (w := w) (v := v) (ds := ds) (C := CB M (g 54) kind np) hm k 8 0 g1 0 (by omega) (by omega) (by rw [hg1, uc_s, upd_n (by decide)]; exact h0) (fun t ht => by rw [hg1, uc_n (by decide)]; exact (hI t ht).1)
    refine ⟨g', w, v, ?_, hw, Sb.tr (by rw [hg1]; exact Sb.rf.uc (by decide)) (s'.mono (by decide)), by rw [b0, hg1, uc_s, upd_n (by decide)], by rw [b1', hg1, uc_s, upd_s, Int32.zero_add], fun t ht j hj => ?_⟩
    · simp only [f_X0_read_2]
      rw [h0, if_pos ((I_le (by omega) (by omega)).mpr (by omega)), lt_w, ← hg1]
      rw [show f_X0_readFrom 8 (g1, RF p q w v ds) 53 0 0 = _ from e, bd_w]
    · rw [b3 t ht j hj, if_neg (by omega), hg1, uc_n (by decide), (hI t ht).2, bt_0, Bool.false_or]
  | succ r ih =>
    intro fu k w v g hf hk hw h0 h1 h2 h3 hI
    obtain ⟨fu, rfl⟩ : ∃ k, fu = k + 1 := ⟨fu - 1, by omega⟩
    have c1 : ¬ I (m : Int) ≤ I (k : Int) := fun z => by have := (I_le (by omega) (by omega)).mp z; omega
    have hkd := hM.2.2.2.2.2.1
    have hl : lastU kind ≤ 3 := lu3 _
    obtain ⟨g1, w', v', r1, hw', s1, r2, r3⟩ := X_reckon (p := p) (q := q) (ds := ds) (set := g 54 k) hw hkd g
    obtain ⟨g2, hg2⟩ : ∃ g2, g2 = uc (uc g1 55 (upd (g1 55) k 0)) 56 (upd (g1 56) k 0) := ⟨_, rfl⟩
    have nw : w' ≠ 55 ∧ w' ≠ 56 := by unfold WV at hw'; omega
    have s2 : Sb [55, 56] g1 g2 := by rw [hg2]; exact (Sb.rf.uc (by decide)).uc (by decide)
    have s12 : Sb [55, 56, 58, 59, 60] g g2 := Sb.tr (s1.mono (by decide)) (s2.mono (by decide))
    obtain ⟨g3, e3, s3, j3, k3⟩ := X_rd41 (q := q) (ds := ds) (n := n) (np := np) (kd' := kind) (kind := kind) (f_X0_read_2 fu) hp hw' hM (show k < 6 by omega) hl (set := g 54 k) (c := wc (g 54 k) kind) (fun _ => rfl) np FU 0 g2 (FU_lt (by have := hM.2.2.2.1; omega)) (by omega) (by rw [s12 p (by simp; omega)]; exact h1) (fun i hi => by rw [s12 (p + 3) (by simp; omega)]; exact h3 i hi) (by rw [s2 58 (by decide)]; exact r2) (fun t a1 a2 => by rw [s2 w' (by simp; omega)]; exact r3 t a1 a2) (by rw [hg2, uc_n (by decide), uc_s, upd_s]; rfl)
    have s13 : Sb [55, 56, 58, 59, 60] g g3 := Sb.tr s12 (s3.mono (by decide))
    have e54 : g3 54 = g 54 := s13 54 (by decide)
    have i55 : ∀ t, t < k + 1 → g3 55 t = CB M (g3 54) kind np t ∧ g3 56 t = 0 := fun t ht => by
      rw [e54]
      by_cases c : t = k
      · subst c
        refine ⟨k3, ?_⟩
        rw [s3 56 (by decide), hg2, uc_s, upd_s]
      · rw [j3 t c, s3 56 (by decide), hg2, uc_n (by decide), uc_s, upd_n c, uc_s, upd_n c, s1 55 (by decide), s1 56 (by decide)]
        exact hI t (by omega)
    obtain ⟨g', w'', v'', e, hw'', s', b0, b1', b3⟩ := ih fu (k + 1) w' v' g3 (by omega) (by omega) hw' (by rw [s13 53 (by decide)]; exact h0) (by rw [s13 p (by simp; omega)]; exact h1) (by rw [s13 p (by simp; omega)]; exact h2) (fun i hi => by rw [s13 (p + 3) (by simp; omega)]; exact h3 i hi) i55
    rw [e54] at b1' b3
    refine ⟨g', w'', v'', ?_, hw'', Sb.tr (s13.mono (by decide)) s', by rw [b0, s13 53 (by decide)], b1', b3⟩
    rw [← e, ← e3]
    simp only [f_X0_read_2]
    rw [h0, if_neg c1]
    revert r1 hg2
    generalize f_X9_reckon = rf
    generalize f_X0_read_41 (f_X0_read_2 fu) FU = lf
    intro r1 hg2
    simp only [r_53_2, r_53_3, r_53_4, r_53_5, k_53, n_53, k_54, n_54, k_55, n_55, k_56, n_56, k_57, n_57, gd, if_true, reduceIte, I_in (show k < 6 by omega) (show 6 < 1000000 by decide), I_ix (show k < 1000000 by omega), h2, r1, bd_w, lt_w, uc_n (show 56 ≠ 55 by decide)]
    rw [hg2]
    rfl
theorem X_fb_lp (h : Hp) (x : Int32) {i : Nat} (hi : i < 24) (hb : bt x i = true) (hl : ∀ j, j < i → bt x j = false) : ∀ (m fu k : Nat), m < fu → k + m = i → f_X11_firstBit_2 fu h x (I k) = some (I i, h) := by
  intro m
  induction m with
  | zero =>
    intro fu k hf hk
    obtain ⟨fu, rfl⟩ : ∃ k, fu = k + 1 := ⟨fu - 1, by omega⟩
    have : k = i := by omega
    subst this
    simp only [f_X11_firstBit_2]
    rw [if_neg (show ¬ (24 : Int32) ≤ I (k : Int) from fun z => by have := (I_le (a := 24) (by omega) (by omega)).mp z; omega), X_hasBit _ _ (by omega), bd_w, hb, if_neg (by decide)]
  | succ m ih =>
    intro fu k hf hk
    obtain ⟨fu, rfl⟩ : ∃ k, fu = k + 1 := ⟨fu - 1, by omega⟩
    simp only [f_X11_firstBit_2]
    rw [if_neg (show ¬ (24 : Int32) ≤ I (k : Int) from fun z => by have := (I_le (a := 24) (by omega) (by omega)).mp z; omega), X_hasBit _ _ (by omega), bd_w, hl k (by omega), if_pos (by decide), I_s]
    exact ih fu (k + 1) (by omega) (by omega)
theorem X_fb (h : Hp) {x : Int32} {i : Nat} (hi : i < 24) (hb : bt x i = true) (hl : ∀ j, j < i → bt x j = false) : f_X11_firstBit h x = some (I i, h) := X_fb_lp h x hi hb hl i FU 0 (FU_lt (by omega)) (by omega)
end T
