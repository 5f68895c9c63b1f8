/-! the reference's search for an order -/
def an (R : Nat → Int32) (i : Nat) : Nat → Bool
  | 0 => false
  | t + 1 => an R i t || decide (R t = I (i : Int))
theorem an_cg {R S : Nat → Int32} {i : Nat} : ∀ t, (∀ j, j < t → R j = S j) → an R i t = an S i t := by
  intro t
  induction t with
  | zero => intro _; rfl
  | succ t ih => intro h; unfold an; rw [ih (fun j hj => h j (by omega)), h t (by omega)]
def ROM (g : Nat → Nat → Int32) (st : Int × List Nat) : Prop := g 83 23 = I st.1 ∧ (-1 ≤ st.1 ∧ st.1 ≤ 6) ∧ st.2.length ≤ 6 ∧ ∀ j, j < st.2.length → g 96 j = I ((st.2.getD j 0 : Nat) : Int)
/-- what is left alone at a place of the row -/
def OF (k : Nat) (g g' : Nat → Nat → Int32) : Prop := (∀ j, j < k → g' 93 j = g 93 j) ∧ (∀ j, j ≤ k → g' 94 j = g 94 j ∧ g' 95 j = g 95 j) ∧ (∀ j, j ≠ 23 → (j < 16 ∨ 18 < j) → g' 83 j = g 83 j) ∧ Sb [83, 92, 93, 94, 95, 96] g g'
theorem OF.rf {k : Nat} {g : Nat → Nat → Int32} : OF k g g := ⟨fun _ _ => rfl, fun _ _ => ⟨rfl, rfl⟩, fun _ _ _ => rfl, Sb.rf⟩
theorem OF.tr {k : Nat} {g g' g'' : Nat → Nat → Int32} (h : OF k g g') (h' : OF k g' g'') : OF k g g'' := ⟨fun j hj => (h'.1 j hj).trans (h.1 j hj), fun j hj => ⟨(h'.2.1 j hj).1.trans (h.2.1 j hj).1, (h'.2.1 j hj).2.trans (h.2.1 j hj).2⟩, fun j h1 h2 => (h'.2.2.1 j h1 h2).trans (h.2.2.1 j h1 h2), Sb.tr h.2.2.2 h'.2.2.2⟩
theorem OF.dn {k : Nat} {g g' : Nat → Nat → Int32} (h : OF (k + 1) g g') : OF k g g' := ⟨fun j hj => h.1 j (by omega), fun j hj => h.2.1 j (by omega), h.2.2.1, h.2.2.2⟩
def MO (g : Nat → Nat → Int32) (M T0 : Nat → Int32) : Prop := g 84 = M ∧ g 86 = T0 ∧ g 83 12 = I ((0 : Nat) : Int)
theorem MO.of {k : Nat} {g g' : Nat → Nat → Int32} {M T0 : Nat → Int32} (h : MO g M T0) (hf : OF k g g') : MO g' M T0 := ⟨by rw [hf.2.2.2 84 (by decide)]; exact h.1, by rw [hf.2.2.2 86 (by decide)]; exact h.2.1, by rw [hf.2.2.1 12 (by decide) (by omega)]; exact h.2.2⟩
def KK : Nat → Nat
  | 0 => 1
  | d + 1 => (d + 1) * (1 + KK d) + 1
section T
variable {p q w v : Nat} {ds : Nat → Nat}
theorem M_ah_lp {g : Nat → Nat → Int32} {i k : Nat} (hk : k ≤ 6) : ∀ (r fu t : Nat), r < fu → t + r = k → f_X12_isAhead_5 fu (g, RF p q w v ds) 83 (I i) (I k) (if an (g 93) i t then 1 else 0) (I t) = some (if an (g 93) i k then 1 else 0, (g, RF p q w v ds)) := by
  intro r
  induction r with
  | zero =>
    intro fu t hf ht
    obtain ⟨fu, rfl⟩ : ∃ k, fu = k + 1 := ⟨fu - 1, by omega⟩
    have : t = k := by omega
    subst this
    simp only [f_X12_isAhead_5]
    rw [if_pos (show I (t : Int) ≤ I (t : Int) from (I_le (by omega) (by omega)).mpr (by omega))]
    cases an (g 93) i t
    · rw [if_neg (by decide), gd_t (Or.inl rfl)]
    · rw [if_pos rfl, gd_t (Or.inr rfl)]
  | succ r ih =>
    intro fu t hf ht
    obtain ⟨fu, rfl⟩ : ∃ k, fu = k + 1 := ⟨fu - 1, by omega⟩
    have c1 : ¬ I (k : Int) ≤ I (t : Int) := fun z => by have := (I_le (by omega) (by omega)).mp z; omega
    rw [← ih fu (t + 1) (by omega) (by omega)]
    have e : an (g 93) i (t + 1) = (an (g 93) i t || decide (g 93 t = I (i : Int))) := rfl
    rw [e]
    simp only [f_X12_isAhead_5]
    rw [if_neg c1]
    cases an (g 93) i t
    · rw [if_pos (by decide), Bool.false_or]
      simp only [r_83_1, r_83_2, r_83_3, r_83_4, r_83_6, r_83_8, r_83_11, r_83_13, r_83_15, r_83_19, r_83_20, r_83_21, r_83_22, r_83_24, r_83_25, r_83_26, r_83_28, r_83_29, k_83, n_83, k_84, n_84, k_85, n_85, k_86, n_86, k_87, n_87, k_88, n_88, k_89, n_89, k_90, n_90, k_91, n_91, k_92, n_92, k_93, n_93, k_94, n_94, k_95, n_95, k_96, n_96, k_97, n_97, k_98, n_98, k_99, n_99, k_100, n_100, k_101, n_101, gd, if_true, reduceIte, I_in (show t < 7 by omega) (show 7 < 1000000 by decide), I_ix (show t < 1000000 by omega), I_s]
      by_cases z : g 93 t = I (i : Int)
      · rw [if_pos z, if_pos (decide_eq_true z)]
      · rw [if_neg z, if_neg (by rw [decide_eq_true_eq]; exact z)]
    · rw [if_neg (by decide), Bool.true_or, if_pos rfl, I_s]
theorem M_ah {g : Nat → Nat → Int32} {i k : Nat} (hk : k ≤ 6) : f_X12_isAhead (g, RF p q w v ds) 83 (I i) (I k) = some (if an (g 93) i k then 1 else 0, (g, RF p q w v ds)) := by
  unfold f_X12_isAhead
  rw [gd_t (show kd 83 = 12 from rfl)]
  exact M_ah_lp hk k FU 0 (FU_lt (by omega)) (by omega)
theorem M_o126 (k41 : Hp → Nat → Int32 → Int32 → Int32 → Option (Unit × Hp)) {g : Nat → Nat → Int32} {sil left mm : Int32} {np k i1 : Nat} (hnp : np ≤ 6) (hk : k ≤ 6) (h1 : g 84 1 = I np) (hl : ∀ j, j < np → bt left j = (bt sil j && !an (g 93) j k)) (hi1 : i1 ≤ np) (hat : i1 < np → bt left i1 = true) : ∀ (r fu i : Nat), r < fu → i + r = i1 → (∀ j, i ≤ j → j < i1 → bt left j = false) →
    f_X12_layOrder_126 k41 fu (g, RF p q w v ds) 83 sil mm (I k) (I i) = f_X12_layOrder_162 k41 (g, RF p q w v ds) 83 sil mm (I k) (I i1) := by
  intro r
  induction r with
  | zero =>
    intro fu i hf hi hz
    obtain ⟨fu, rfl⟩ : ∃ k, fu = k + 1 := ⟨fu - 1, by omega⟩
    have : i = i1 := by omega
    subst this
    simp only [f_X12_layOrder_126, r_83_1, r_83_2, r_83_3, r_83_4, r_83_6, r_83_8, r_83_11, r_83_13, r_83_15, r_83_19, r_83_20, r_83_21, r_83_22, r_83_24, r_83_25, r_83_26, r_83_28, r_83_29, k_83, n_83, k_84, n_84, k_85, n_85, k_86, n_86, k_87, n_87, k_88, n_88, k_89, n_89, k_90, n_90, k_91, n_91, k_92, n_92, k_93, n_93, k_94, n_94, k_95, n_95, k_96, n_96, k_97, n_97, k_98, n_98, k_99, n_99, k_100, n_100, k_101, n_101, ci_0, ci_1, ci_2, ci_3, ci_4, ii_0, ii_1, ii_2, ii_3, ii_4, id_0, id_1, id_2, gd, if_true, reduceIte, h1]
    by_cases c : i = np
    · rw [if_pos (show I (np : Int) ≤ I (i : Int) from (I_le (by omega) (by omega)).mpr (by omega))]
    · have hb := hat (by omega)
      rw [hl i (by omega), Bool.and_eq_true, Bool.not_eq_true'] at hb
      rw [if_neg (fun z => by have := (I_le (by omega) (by omega)).mp z; omega), M_has _ _ (show i < 32 by omega), bd_w, hb.1, if_neg (by decide), M_ah hk, bd_w, hb.2, if_pos (by decide)]
  | succ r ih =>
    intro fu i hf hi hz
    obtain ⟨fu, rfl⟩ : ∃ k, fu = k + 1 := ⟨fu - 1, by omega⟩
    rw [← ih fu (i + 1) (by omega) (by omega) (fun j h1 h2 => hz j (by omega) h2)]
    simp only [f_X12_layOrder_126, r_83_1, r_83_2, r_83_3, r_83_4, r_83_6, r_83_8, r_83_11, r_83_13, r_83_15, r_83_19, r_83_20, r_83_21, r_83_22, r_83_24, r_83_25, r_83_26, r_83_28, r_83_29, k_83, n_83, k_84, n_84, k_85, n_85, k_86, n_86, k_87, n_87, k_88, n_88, k_89, n_89, k_90, n_90, k_91, n_91, k_92, n_92, k_93, n_93, k_94, n_94, k_95, n_95, k_96, n_96, k_97, n_97, k_98, n_98, k_99, n_99, k_100, n_100, k_101, n_101, ci_0, ci_1, ci_2, ci_3, ci_4, ii_0, ii_1, ii_2, ii_3, ii_4, id_0, id_1, id_2, gd, if_true, reduceIte, h1]
    rw [if_neg (fun z => by have := (I_le (by omega) (by omega)).mp z; omega), M_has _ _ (show i < 32 by omega), bd_w]
    have hb := hz i (Nat.le_refl _) (by omega)
    rw [hl i (by omega)] at hb
    by_cases c : bt sil i = true
    · rw [c, Bool.true_and, Bool.not_eq_false'] at hb
      rw [c, if_neg (by decide), M_ah hk, bd_w, hb, if_neg (by decide), I_s]
    · rw [Bool.eq_false_iff.mpr c, if_pos (by decide), I_s]
theorem M_o84 (k41 : Hp → Nat → Int32 → Int32 → Int32 → Option (Unit × Hp)) {sil x3 : Int32} {m : Nat} (hm : m ≤ 6) : ∀ (r fu i : Nat) (g : Nat → Nat → Int32), r < fu → i + r = m → (∀ j, j < i → g 96 j = g 93 j) →
    ∃ g', f_X12_layOrder_84 k41 fu (g, RF p q w v ds) 83 sil (I m) x3 (I i) = k41 (g', RF p q w v ds) 83 sil (I m) (x3 + (-1)) ∧ Sb [96] g g' ∧ ∀ j, j < m → g' 96 j = g 93 j := by
  intro r
  induction r with
  | zero =>
    intro fu i g hf hi hI
    obtain ⟨fu, rfl⟩ : ∃ k, fu = k + 1 := ⟨fu - 1, by omega⟩
    have : i = m := by omega
    subst this
    refine ⟨g, ?_, Sb.rf, hI⟩
    rw [f_X12_layOrder_84]
    exact if_pos ((I_le (by omega) (by omega)).mpr (by omega))
  | succ r ih =>
    intro fu i g hf hi hI
    obtain ⟨fu, rfl⟩ : ∃ k, fu = k + 1 := ⟨fu - 1, by omega⟩
    have c1 : ¬ I (m : Int) ≤ I (i : Int) := fun z => by have := (I_le (by omega) (by omega)).mp z; omega
    obtain ⟨g', e1, s', d1⟩ := ih fu (i + 1) (uc g 96 (upd (g 96) i (g 93 i))) (by omega) (by omega) (fun j hj => by
      rw [uc_s, uc_n (by decide)]
      by_cases c : j = i
      · subst c; rw [upd_s]
      · rw [upd_n c]; exact hI j (by omega))
    refine ⟨g', ?_, fun b hb => by rw [s' b hb, uc_n (fun z => hb (by rw [z]; decide))], fun j hj => by rw [d1 j hj, uc_n (by decide)]⟩
    rw [← e1]
    simp only [f_X12_layOrder_84]
    rw [if_neg c1]
    simp only [r_83_1, r_83_2, r_83_3, r_83_4, r_83_6, r_83_8, r_83_11, r_83_13, r_83_15, r_83_19, r_83_20, r_83_21, r_83_22, r_83_24, r_83_25, r_83_26, r_83_28, r_83_29, k_83, n_83, k_84, n_84, k_85, n_85, k_86, n_86, k_87, n_87, k_88, n_88, k_89, n_89, k_90, n_90, k_91, n_91, k_92, n_92, k_93, n_93, k_94, n_94, k_95, n_95, k_96, n_96, k_97, n_97, k_98, n_98, k_99, n_99, k_100, n_100, k_101, n_101, gd, if_true, reduceIte, I_in (show i < 7 by omega) (show 7 < 1000000 by decide), I_in (show i < 6 by omega) (show 6 < 1000000 by decide), I_ix (show i < 1000000 by omega), lt_w, I_s]
theorem M_stop {g : Nat → Nat → Int32} {sil : Int32} {m : Nat} {z : Int} (hm : m ≤ 6) (hz : -1 ≤ z ∧ z ≤ 6) (h23 : g 83 23 = I (m : Int)) (fu : Nat) : f_X12_layOrder_41 (fu + 1) (g, RF p q w v ds) 83 sil (I m) (I z) = some ((), (g, RF p q w v ds)) := by
  simp only [f_X12_layOrder_41, h23]
  rw [if_pos (show I (m : Int) ≤ I (m : Int) from (I_le (by omega) (by omega)).mpr (by omega))]
  split <;> rfl
theorem M_leaf {g : Nat → Nat → Int32} {sil : Int32} {m can : Nat} {pre : List Nat} {st : Int × List Nat} (hm : m ≤ 6) (hpre : pre.length = m) (hcan : can ≤ m) (h95 : g 95 m = I can) (h93 : ∀ j, j < m → g 93 j = I ((pre.getD j 0 : Nat) : Int)) (hR : ROM g st) (hsm : st.1 < (m : Int)) (fu : Nat) :
    ∃ g', f_X12_layOrder_41 (fu + 1) (g, RF p q w v ds) 83 sil (I m) (I m) = f_X12_layOrder_41 fu (g', RF p q w v ds) 83 sil (I m) (I ((m : Int) - 1)) ∧ ROM g' (if st.1 < (can : Int) then ((can : Int), pre) else st) ∧ OF m g g' := by
  have hb := hR.2.1
  have c0 : ¬ I (m : Int) < 0 := fun z => by have := (I_lt (b := 0) (by omega) (by omega)).mp z; omega
  have c1 : ¬ I (m : Int) ≤ I st.1 := fun z => by have := (I_le (by omega) (by omega)).mp z; omega
  have em : I (m : Int) + (-1) = I ((m : Int) - 1) := by rw [I_m1, I_add]; rfl
  by_cases hs : st.1 < (can : Int)
  · obtain ⟨g1, hg1⟩ : ∃ g1, g1 = uc g 83 (upd (g 83) 23 (I can)) := ⟨_, rfl⟩
    obtain ⟨g2, e2, s2, d2⟩ := M_o84 (p := p) (q := q) (w := w) (v := v) (ds := ds) (f_X12_layOrder_41 fu) (sil := sil) (x3 := I m) hm m FU 0 g1 (FU_lt (by omega)) (by omega) (fun j hj => absurd hj (by omega))
    have e2 : f_X12_layOrder_84 (f_X12_layOrder_41 fu) FU (g1, RF p q w v ds) 83 sil (I m) (I m) 0 = _ := e2
    have s12 : Sb [83, 96] g g2 := by rw [hg1] at s2; exact Sb.tr (Sb.rf.uc (by decide)) (s2.mono (by decide))
    refine ⟨g2, ?_, ⟨?_, ?_, ?_, ?_⟩, ⟨fun j _ => by rw [s12 93 (by decide)], fun j _ => ⟨by rw [s12 94 (by decide)], by rw [s12 95 (by decide)]⟩, fun j h1 _ => by rw [s2 83 (by decide), hg1, uc_s, upd_n h1], s12.mono (by decide)⟩⟩
    · rw [← em, ← e2]
      simp only [f_X12_layOrder_41]
      generalize f_X12_layOrder_84 (f_X12_layOrder_41 fu) FU = lf
      rw [if_neg c0, hR.1, if_neg c1, if_pos trivial]
      simp only [r_83_1, r_83_2, r_83_3, r_83_4, r_83_6, r_83_8, r_83_11, r_83_13, r_83_15, r_83_19, r_83_20, r_83_21, r_83_22, r_83_24, r_83_25, r_83_26, r_83_28, r_83_29, k_83, n_83, k_84, n_84, k_85, n_85, k_86, n_86, k_87, n_87, k_88, n_88, k_89, n_89, k_90, n_90, k_91, n_91, k_92, n_92, k_93, n_93, k_94, n_94, k_95, n_95, k_96, n_96, k_97, n_97, k_98, n_98, k_99, n_99, k_100, n_100, k_101, n_101, gd, if_true, reduceIte, I_in (show m < 7 by omega) (show 7 < 1000000 by decide), I_ix (show m < 1000000 by omega), h95]
      rw [if_neg (fun z => by have := (I_le (by omega) (by omega)).mp z; omega), lt_w, hg1]
    · rw [if_pos hs, s2 83 (by decide), hg1, uc_s, upd_s]
    · rw [if_pos hs]; show -1 ≤ (can : Int) ∧ (can : Int) ≤ 6; omega
    · rw [if_pos hs]; show pre.length ≤ 6; omega
    · rw [if_pos hs]
      intro j hj
      have hj : j < pre.length := hj
      show g2 96 j = I ((pre.getD j 0 : Nat) : Int)
      rw [d2 j (by omega), hg1, uc_n (by decide)]
      exact h93 j (by omega)
  · refine ⟨g, ?_, by rw [if_neg hs]; exact hR, OF.rf⟩
    rw [← em]
    simp only [f_X12_layOrder_41]
    generalize f_X12_layOrder_84 (f_X12_layOrder_41 fu) FU = lf
    rw [if_neg c0, hR.1, if_neg c1, if_pos trivial]
    simp only [r_83_1, r_83_2, r_83_3, r_83_4, r_83_6, r_83_8, r_83_11, r_83_13, r_83_15, r_83_19, r_83_20, r_83_21, r_83_22, r_83_24, r_83_25, r_83_26, r_83_28, r_83_29, k_83, n_83, k_84, n_84, k_85, n_85, k_86, n_86, k_87, n_87, k_88, n_88, k_89, n_89, k_90, n_90, k_91, n_91, k_92, n_92, k_93, n_93, k_94, n_94, k_95, n_95, k_96, n_96, k_97, n_97, k_98, n_98, k_99, n_99, k_100, n_100, k_101, n_101, gd, if_true, reduceIte, I_in (show m < 7 by omega) (show 7 < 1000000 by decide), I_ix (show m < 1000000 by omega), h95]
    rw [if_pos ((I_le (by omega) (by omega)).mpr (by omega))]
theorem M_down (k41 : Hp → Nat → Int32 → Int32 → Int32 → Option (Unit × Hp)) {M T0 : Nat → Int32} {n np k0 : Nat} {sil mm T : Int32} {k i can : Nat} (hM : PW M n np k0) {g : Nat → Nat → Int32} (hMO : MO g M T0) (hk : k < 6) (hi : i < np) (hcan : can ≤ 6) (h94 : g 94 k = T) (h95 : g 95 k = I can) :
    ∃ g', f_X12_layOrder_162 k41 (g, RF p q w v ds) 83 sil mm (I k) (I i) = k41 (g', RF p q w v ds) 83 sil mm (I ((k + 1 : Nat) : Int)) ∧ OF k g g' ∧ g' 93 k = I i ∧ g' 93 (k + 1) = I (-1) ∧ g' 94 (k + 1) = T ||| uo M k0 (owM n M T0 0) (am M) i T ∧ g' 95 (k + 1) = I ((can + (if uo M k0 (owM n M T0 0) (am M) i T = 0 then 0 else 1) : Nat) : Int) ∧ g' 96 = g 96 ∧ g' 83 23 = g 83 23 := by
  have hnp := hM.2.2.2.1
  obtain ⟨g1, hg1⟩ : ∃ g1, g1 = uc g 93 (upd (g 93) k (I i)) := ⟨_, rfl⟩
  have s1 : Sb [93] g g1 := by rw [hg1]; exact Sb.rf.uc (by decide)
  have e84 : g1 84 = M := by rw [s1 84 (by decide)]; exact hMO.1
  have e86 : g1 86 = T0 := by rw [s1 86 (by decide)]; exact hMO.2.1
  obtain ⟨g2, b1', b2⟩ := M_hasBest (p := p) (q := q) (w := w) (v := v) (ds := ds) (g := g1) (n := n) (i := i) (fr := 0) T (by rw [e84]; exact hM) hM.2.2.2.2.2.1 (by rw [s1 83 (by decide)]; exact hMO.2.2) (by decide) hi
  rw [e84, e86] at b1' b2
  have hmf := b2.mf
  have hu : g2 83 16 ||| g2 83 17 ||| g2 83 18 = uo M k0 (owM n M T0 0) (am M) i T := by rw [b2.1, b2.2.1, b2.2.2.1]; rfl
  obtain ⟨U, hU⟩ : ∃ U, U = uo M k0 (owM n M T0 0) (am M) i T := ⟨_, rfl⟩
  rw [← hU] at hu ⊢
  have hz : (BT M k0 (owM n M T0 0 i &&& (T ^^^ (-1))) (am M i) = []) = (U = 0) := by rw [hU]; exact propext us_0.symm
  obtain ⟨g3, hg3⟩ : ∃ g3, g3 = uc g2 94 (upd (g2 94) (k + 1) (T ||| U)) := ⟨_, rfl⟩
  obtain ⟨g4, hg4⟩ : ∃ g4, g4 = uc g3 95 (upd (g3 95) (k + 1) (I ((can + (if U = 0 then 0 else 1) : Nat) : Int))) := ⟨_, rfl⟩
  obtain ⟨g5, hg5⟩ : ∃ g5, g5 = uc g4 93 (upd (g4 93) (k + 1) (-1)) := ⟨_, rfl⟩
  have s2 : Sb [83, 92] g1 g2 := hmf.2
  have s3 : Sb [94] g2 g3 := by rw [hg3]; exact Sb.rf.uc (by decide)
  have s4 : Sb [95] g3 g4 := by rw [hg4]; exact Sb.rf.uc (by decide)
  have s5 : Sb [93] g4 g5 := by rw [hg5]; exact Sb.rf.uc (by decide)
  have sA : Sb [83, 92, 93, 94, 95, 96] g g5 := Sb.tr (Sb.tr (Sb.tr (Sb.tr (s1.mono (by decide)) (s2.mono (by decide))) (s3.mono (by decide))) (s4.mono (by decide))) (s5.mono (by decide))
  have f93 : ∀ j, j ≠ k + 1 → g5 93 j = g1 93 j := fun j hj => by rw [hg5, uc_s, upd_n hj, s4 93 (by decide), s3 93 (by decide), s2 93 (by decide)]
  have f83 : g5 83 = g2 83 := by rw [s5 83 (by decide), s4 83 (by decide), s3 83 (by decide)]
  refine ⟨g5, ?_, ⟨fun j hj => ?_, fun j hj => ⟨?_, ?_⟩, fun j h1 h2 => ?_, sA⟩, ?_, ?_, ?_, ?_, ?_, ?_⟩
  · have e1' : g1 84 1 = I np := by rw [e84]; exact hM.2.2.1
    have e2' : g1 84 2 = I k0 := by rw [e84]; exact hM.2.2.2.2.1
    have t94 : g1 94 k = T := by rw [s1 94 (by decide)]; exact h94
    have t94' : g2 94 k = T := by rw [s2 94 (by decide)]; exact t94
    have t95' : g3 95 k = I can := by rw [s3 95 (by decide), s2 95 (by decide), s1 95 (by decide)]; exact h95
    have cn : ¬ I (i : Int) = I (np : Int) := fun z => by have := (I_inj (by omega) (by omega)).mp z; omega
    have y1 : ((1 : Int32) = 0) = False := eq_false (by decide)
    unfold f_X12_layOrder_162 f_X12_layOrder_233 f_X12_layOrder_258
    revert b1'
    generalize f_X12_hasBest = hbf
    intro b1'
    simp only [r_83_1, r_83_2, r_83_3, r_83_4, r_83_6, r_83_8, r_83_11, r_83_13, r_83_15, r_83_19, r_83_20, r_83_21, r_83_22, r_83_24, r_83_25, r_83_26, r_83_28, r_83_29, k_83, n_83, k_84, n_84, k_85, n_85, k_86, n_86, k_87, n_87, k_88, n_88, k_89, n_89, k_90, n_90, k_91, n_91, k_92, n_92, k_93, n_93, k_94, n_94, k_95, n_95, k_96, n_96, k_97, n_97, k_98, n_98, k_99, n_99, k_100, n_100, k_101, n_101, ci_0, ci_1, ci_2, ci_3, ci_4, ii_0, ii_1, ii_2, ii_3, ii_4, id_0, id_1, id_2, gd, if_true, reduceIte, I_in (show k < 7 by omega) (show 7 < 1000000 by decide), I_ix (show k < 1000000 by omega), lt_w]
    rw [← hg1]
    simp only [e1', if_neg cn, t94, e2', b1', bd_w, hz, I_s, r_83_1, r_83_2, r_83_3, r_83_4, r_83_6, r_83_8, r_83_11, r_83_13, r_83_15, r_83_19, r_83_20, r_83_21, r_83_22, r_83_24, r_83_25, r_83_26, r_83_28, r_83_29, k_83, n_83, k_84, n_84, k_85, n_85, k_86, n_86, k_87, n_87, k_88, n_88, k_89, n_89, k_90, n_90, k_91, n_91, k_92, n_92, k_93, n_93, k_94, n_94, k_95, n_95, k_96, n_96, k_97, n_97, k_98, n_98, k_99, n_99, k_100, n_100, k_101, n_101, if_true, reduceIte, I_in (show k < 7 by omega) (show 7 < 1000000 by decide), I_ix (show k < 1000000 by omega), I_in (show k + 1 < 7 by omega) (show 7 < 1000000 by decide), I_ix (show k + 1 < 1000000 by omega), t94', M_usedSet, hu, lt_w]
    by_cases zu : U = 0
    · simp only [if_pos zu, if_true, reduceIte]
      rw [zu] at hg3
      rw [← hg3]
      simp only [t95']
      rw [show I (can : Int) + 0 = I ((can + (if U = 0 then 0 else 1) : Nat) : Int) by rw [if_pos zu]; exact Int32.add_zero _, ← hg4, ← hg5]
    · simp only [if_neg zu, y1, if_false]
      rw [← hg3]
      simp only [t95']
      rw [show I (can : Int) + 1 = I ((can + (if U = 0 then 0 else 1) : Nat) : Int) by rw [if_neg zu]; exact I_s can, ← hg4, ← hg5]
  · rw [f93 j (by omega), hg1, uc_s, upd_n (by omega)]
  · rw [s5 94 (by decide), s4 94 (by decide), hg3, uc_s, upd_n (by omega), s2 94 (by decide), s1 94 (by decide)]
  · rw [s5 95 (by decide), hg4, uc_s, upd_n (by omega), s3 95 (by decide), s2 95 (by decide), s1 95 (by decide)]
  · rw [f83, hmf.1 j h2, s1 83 (by decide)]
  · rw [f93 k (by omega), hg1, uc_s, upd_s]
  · rw [hg5, uc_s, upd_s]; rfl
  · rw [s5 94 (by decide), s4 94 (by decide), hg3, uc_s, upd_s]
  · rw [s5 95 (by decide), hg4, uc_s, upd_s]
  · rw [s5 96 (by decide), s4 96 (by decide), s3 96 (by decide), s2 96 (by decide), s1 96 (by decide)]
  · rw [f83, hmf.1 23 (by omega), s1 83 (by decide)]
theorem KK_le (d : Nat) (h : d ≤ 6) : KK d ≤ 3913 := by
  have : ∀ d, d ≤ 6 → KK d ≤ 3913 := by decide
  exact this d h
theorem M_or {M T0 : Nat → Int32} {n np k0 : Nat} {sil : Int32} {m : Nat} (hM : PW M n np k0) (hm : m ≤ 6) : ∀ (d k : Nat) (left T : Int32) (can : Nat) (pre : List Nat) (st : Int × List Nat) (g : Nat → Nat → Int32) (fu : Nat), k + d = m → KK d + 1 ≤ fu → pc 6 left = d → LO np left → (∀ j, j < np → bt left j = (bt sil j && !an (g 93) j k)) → pre.length = k → can ≤ k → g 93 k = I (-1) → (∀ j, j < k → g 93 j = I ((pre.getD j 0 : Nat) : Int)) → g 94 k = T → g 95 k = I can → ROM g st → st.1 ≤ m → MO g M T0 →
    ∃ fu' g', f_X12_layOrder_41 fu (g, RF p q w v ds) 83 sil (I m) (I k) = f_X12_layOrder_41 fu' (g', RF p q w v ds) 83 sil (I m) (I ((k : Int) - 1)) ∧ fu ≤ fu' + KK d ∧ ROM g' (VV (uo M k0 (owM n M T0 0) (am M)) d left T can pre st) ∧ OF k g g' := by
  have hu := uo_mono (kind := k0) (O := owM n M T0 0) (A := am M) hM
  have hnp := hM.2.2.2.1
  intro d
  induction d with
  | zero =>
    intro k left T can pre st g fu hk hfu hp hL hl hpre hcan h93k h93 h94 h95 hR hsm hMO
    have : k = m := by omega
    subst this
    have hfu : 1 + 1 ≤ fu := hfu
    obtain ⟨fu, rfl⟩ : ∃ k, fu = k + 1 := ⟨fu - 1, by omega⟩
    by_cases he : st.1 = (k : Int)
    · refine ⟨fu + 1, g, ?_, by omega, ?_, OF.rf⟩
      · rw [M_stop hm (by omega) (by rw [hR.1, he]), M_stop hm (by omega) (by rw [hR.1, he])]
      · show ROM g (if st.1 < (can : Int) then ((can : Int), pre) else st)
        rw [if_neg (by omega)]; exact hR
    · obtain ⟨g', e, h1, h2⟩ := M_leaf (p := p) (q := q) (w := w) (v := v) (ds := ds) (sil := sil) hm hpre hcan h95 h93 hR (by omega) fu
      exact ⟨fu, g', e, by show fu + 1 ≤ fu + 1; omega, h1, h2⟩
  | succ d ih =>
    intro k left T can pre st g fu hk hfu hp hL hl hpre hcan h93k h93 h94 h95 hR hsm hMO
    have hKd := KK_le d (by omega)
    have inner : ∀ (R r i : Nat) (st : Int × List Nat) (g : Nat → Nat → Int32) (fu : Nat), r ≤ R → i + r = 6 → i ≤ np → (whl left i r).length * (1 + KK d) + 2 ≤ fu → (∀ j, j < np → bt left j = (bt sil j && !an (g 93) j k)) → g 93 k = I ((i : Int) - 1) → (∀ j, j < k → g 93 j = I ((pre.getD j 0 : Nat) : Int)) → g 94 k = T → g 95 k = I can → ROM g st → st.1 ≤ m → MO g M T0 →
        ∃ fu' g', f_X12_layOrder_41 fu (g, RF p q w v ds) 83 sil (I m) (I k) = f_X12_layOrder_41 fu' (g', RF p q w v ds) 83 sil (I m) (I ((k : Int) - 1)) ∧ fu ≤ fu' + ((whl left i r).length * (1 + KK d) + 1) ∧ ROM g' ((List.range' i r).foldl (vf (uo M k0 (owM n M T0 0) (am M)) d left T can pre) st) ∧ OF k g g' := by
      intro R
      induction R with
      | zero =>
        intro r i st g fu hr hi hin hfu hl h93k h93 h94 h95 hR hsm hMO
        have : r = 0 := by omega
        subst this
        have hfu : 0 * (1 + KK d) + 2 ≤ fu := hfu
        obtain ⟨fu, rfl⟩ : ∃ k, fu = k + 1 := ⟨fu - 1, by omega⟩
        by_cases he : st.1 = (m : Int)
        · refine ⟨fu + 1, g, ?_, by omega, hR, OF.rf⟩
          rw [M_stop hm (by omega) (by rw [hR.1, he]), M_stop hm (by omega) (by rw [hR.1, he])]
        · obtain ⟨g1, hg1⟩ : ∃ g1, g1 = uc g 93 (upd (g 93) k (I i)) := ⟨_, rfl⟩
          have hn6 : np = 6 := by omega
          have h1 : g 84 1 = I np := by rw [hMO.1]; exact hM.2.2.1
          have h1' : g1 84 1 = I np := by rw [hg1, uc_n (by decide)]; exact h1
          have hb := hR.2.1
          have e3 := M_o126 (p := p) (q := q) (w := w) (v := v) (ds := ds) (f_X12_layOrder_41 fu) (g := g) (sil := sil) (left := left) (mm := I m) (i1 := i) hnp (show k ≤ 6 by omega) h1 hl hin (fun z => absurd z (by omega)) 0 FU i (FU_lt (by omega)) (by omega) (fun j h1 h2 => absurd h2 (by omega))
          refine ⟨fu, g1, ?_, by show fu + 1 ≤ fu + (0 * (1 + KK d) + 1); omega, ⟨by rw [hg1, uc_n (by decide)]; exact hR.1, hR.2.1, hR.2.2.1, by rw [hg1, uc_n (by decide)]; exact hR.2.2.2⟩, ⟨fun j hj => by rw [hg1, uc_s, upd_n (by omega)], fun j _ => ⟨by rw [hg1, uc_n (by decide)], by rw [hg1, uc_n (by decide)]⟩, fun j _ _ => by rw [hg1, uc_n (by decide)], by rw [hg1]; exact Sb.rf.uc (by decide)⟩⟩
          have em : I (k : Int) + (-1) = I ((k : Int) - 1) := by rw [I_m1, I_add]; rfl
          have ei : I ((i : Int) - 1) + 1 = I (i : Int) := by rw [I_s1]; congr 1; omega
          simp only [f_X12_layOrder_41]
          generalize f_X12_layOrder_84 (f_X12_layOrder_41 fu) FU = lf
          rw [if_neg (fun z => by have := (I_lt (b := 0) (by omega) (by omega)).mp z; omega), hR.1, if_neg (fun z => by have := (I_le (by omega) (by omega)).mp z; omega), if_neg (fun z => by have := (I_inj (by omega) (by omega)).mp z; omega)]
          simp only [r_83_1, r_83_2, r_83_3, r_83_4, r_83_6, r_83_8, r_83_11, r_83_13, r_83_15, r_83_19, r_83_20, r_83_21, r_83_22, r_83_24, r_83_25, r_83_26, r_83_28, r_83_29, k_83, n_83, k_84, n_84, k_85, n_85, k_86, n_86, k_87, n_87, k_88, n_88, k_89, n_89, k_90, n_90, k_91, n_91, k_92, n_92, k_93, n_93, k_94, n_94, k_95, n_95, k_96, n_96, k_97, n_97, k_98, n_98, k_99, n_99, k_100, n_100, k_101, n_101, gd, if_true, reduceIte, I_in (show k < 7 by omega) (show 7 < 1000000 by decide), I_ix (show k < 1000000 by omega), h93k, ei, e3]
          unfold f_X12_layOrder_162
          simp only [r_83_1, r_83_2, r_83_3, r_83_4, r_83_6, r_83_8, r_83_11, r_83_13, r_83_15, r_83_19, r_83_20, r_83_21, r_83_22, r_83_24, r_83_25, r_83_26, r_83_28, r_83_29, k_83, n_83, k_84, n_84, k_85, n_85, k_86, n_86, k_87, n_87, k_88, n_88, k_89, n_89, k_90, n_90, k_91, n_91, k_92, n_92, k_93, n_93, k_94, n_94, k_95, n_95, k_96, n_96, k_97, n_97, k_98, n_98, k_99, n_99, k_100, n_100, k_101, n_101, ci_0, ci_1, ci_2, ci_3, ci_4, ii_0, ii_1, ii_2, ii_3, ii_4, id_0, id_1, id_2, gd, if_true, reduceIte, I_in (show k < 7 by omega) (show 7 < 1000000 by decide), I_ix (show k < 1000000 by omega), lt_w]
          rw [← hg1]
          simp only [h1']
          rw [if_pos (show I (i : Int) = I (np : Int) by rw [show i = np by omega]), em]
      | succ R ihR =>
        intro r i st g fu hr hi hin hfu hl h93k h93 h94 h95 hR hsm hMO
        obtain ⟨fu, rfl⟩ : ∃ k, fu = k + 1 := ⟨fu - 1, by omega⟩
        have hacl := ac_le (u := uo M k0 (owM n M T0 0) (am M)) (left := left) (T := T)
        by_cases he : st.1 = (m : Int)
        · refine ⟨fu + 1, g, ?_, by omega, ?_, OF.rf⟩
          · rw [M_stop hm (by omega) (by rw [hR.1, he]), M_stop hm (by omega) (by rw [hR.1, he])]
          · rw [fold_fix _ (fun j hj => vf_fix hu (by omega) (by have hj := List.mem_range'_1.mp hj; omega))]
            exact hR
        · have h1 : g 84 1 = I np := by rw [hMO.1]; exact hM.2.2.1
          have hb := hR.2.1
          obtain ⟨x, x1, x2, x3⟩ := first_ex (fun j => bt left (i + j)) (np - i)
          have hz : ∀ j, i ≤ j → j < i + x → bt left j = false := fun j h1 h2 => by
            have := x3 (j - i) (by omega)
            rw [show i + (j - i) = j by omega] at this
            exact this
          have e3 := M_o126 (p := p) (q := q) (w := w) (v := v) (ds := ds) (f_X12_layOrder_41 fu) (g := g) (sil := sil) (left := left) (mm := I m) (i1 := i + x) hnp (show k ≤ 6 by omega) h1 hl (by omega) (fun z => by
            rcases x2 with y | y
            · omega
            · exact y.2) x FU i (FU_lt (by omega)) (by omega) hz
          have em : I (k : Int) + (-1) = I ((k : Int) - 1) := by rw [I_m1, I_add]; rfl
          have ei : I ((i : Int) - 1) + 1 = I (i : Int) := by rw [I_s1]; congr 1; omega
          have e41 : f_X12_layOrder_41 (fu + 1) (g, RF p q w v ds) 83 sil (I m) (I k) = f_X12_layOrder_162 (f_X12_layOrder_41 fu) (g, RF p q w v ds) 83 sil (I m) (I k) (I ((i + x : Nat) : Int)) := by
            rw [← e3]
            simp only [f_X12_layOrder_41]
            generalize f_X12_layOrder_84 (f_X12_layOrder_41 fu) FU = lf
            generalize f_X12_layOrder_126 (f_X12_layOrder_41 fu) FU = lf2
            rw [if_neg (fun z => by have := (I_lt (b := 0) (by omega) (by omega)).mp z; omega), hR.1, if_neg (fun z => by have := (I_le (by omega) (by omega)).mp z; omega), if_neg (fun z => by have := (I_inj (by omega) (by omega)).mp z; omega)]
            simp only [r_83_1, r_83_2, r_83_3, r_83_4, r_83_6, r_83_8, r_83_11, r_83_13, r_83_15, r_83_19, r_83_20, r_83_21, r_83_22, r_83_24, r_83_25, r_83_26, r_83_28, r_83_29, k_83, n_83, k_84, n_84, k_85, n_85, k_86, n_86, k_87, n_87, k_88, n_88, k_89, n_89, k_90, n_90, k_91, n_91, k_92, n_92, k_93, n_93, k_94, n_94, k_95, n_95, k_96, n_96, k_97, n_97, k_98, n_98, k_99, n_99, k_100, n_100, k_101, n_101, gd, if_true, reduceIte, I_in (show k < 7 by omega) (show 7 < 1000000 by decide), I_ix (show k < 1000000 by omega), h93k, ei]
          have fskip : ∀ (a : Nat) (st : Int × List Nat) (i r : Nat), a ≤ r → (∀ j, i ≤ j → j < i + a → bt left j = false) → (List.range' i r).foldl (vf (uo M k0 (owM n M T0 0) (am M)) d left T can pre) st = (List.range' (i + a) (r - a)).foldl (vf (uo M k0 (owM n M T0 0) (am M)) d left T can pre) st ∧ whl left i r = whl left (i + a) (r - a) := by
            intro a
            induction a with
            | zero => intro st i r _ _; exact ⟨rfl, rfl⟩
            | succ a iha =>
              intro st i r har hza
              obtain ⟨r, rfl⟩ : ∃ k, r = k + 1 := ⟨r - 1, by omega⟩
              have hbi := hza i (Nat.le_refl _) (by omega)
              obtain ⟨q1, q2⟩ := iha st (i + 1) r (by omega) (fun j h1 h2 => hza j (by omega) (by omega))
              rw [List.range'_succ, List.foldl_cons, whl_s, show vf (uo M k0 (owM n M T0 0) (am M)) d left T can pre st i = st from if_neg (by rw [hbi]; decide), q1, if_neg (by rw [hbi]; decide), q2]
              rw [show i + 1 + a = i + (a + 1) by omega, show r - a = r + 1 - (a + 1) by omega]
              exact ⟨rfl, rfl⟩
          rcases x2 with y | y
          · have hall : ∀ j, i ≤ j → j < i + r → bt left j = false := fun j h1 h2 => by
              rcases Nat.lt_or_ge j np with z | z
              · exact hz j h1 (by omega)
              · exact hL j z (by omega)
            obtain ⟨q1, q2⟩ := fskip r st i r (Nat.le_refl _) hall
            rw [Nat.sub_self] at q1 q2
            obtain ⟨g1, hg1⟩ : ∃ g1, g1 = uc g 93 (upd (g 93) k (I ((i + x : Nat) : Int))) := ⟨_, rfl⟩
            have h1' : g1 84 1 = I np := by rw [hg1, uc_n (by decide)]; exact h1
            refine ⟨fu, g1, ?_, by omega, ?_, ⟨fun j hj => by rw [hg1, uc_s, upd_n (by omega)], fun j _ => ⟨by rw [hg1, uc_n (by decide)], by rw [hg1, uc_n (by decide)]⟩, fun j _ _ => by rw [hg1, uc_n (by decide)], by rw [hg1]; exact Sb.rf.uc (by decide)⟩⟩
            · rw [e41]
              unfold f_X12_layOrder_162
              simp only [r_83_1, r_83_2, r_83_3, r_83_4, r_83_6, r_83_8, r_83_11, r_83_13, r_83_15, r_83_19, r_83_20, r_83_21, r_83_22, r_83_24, r_83_25, r_83_26, r_83_28, r_83_29, k_83, n_83, k_84, n_84, k_85, n_85, k_86, n_86, k_87, n_87, k_88, n_88, k_89, n_89, k_90, n_90, k_91, n_91, k_92, n_92, k_93, n_93, k_94, n_94, k_95, n_95, k_96, n_96, k_97, n_97, k_98, n_98, k_99, n_99, k_100, n_100, k_101, n_101, ci_0, ci_1, ci_2, ci_3, ci_4, ii_0, ii_1, ii_2, ii_3, ii_4, id_0, id_1, id_2, gd, if_true, reduceIte, I_in (show k < 7 by omega) (show 7 < 1000000 by decide), I_ix (show k < 1000000 by omega), lt_w]
              rw [← hg1]
              simp only [h1']
              rw [if_pos (show I ((i + x : Nat) : Int) = I (np : Int) by rw [show i + x = np by omega]), em]
            · rw [q1]
              exact ⟨by rw [hg1, uc_n (by decide)]; exact hR.1, hR.2.1, hR.2.2.1, by rw [hg1, uc_n (by decide)]; exact hR.2.2.2⟩
          · obtain ⟨q1, q2⟩ := fskip x st i r (by omega) hz
            obtain ⟨r', hr'⟩ : ∃ r', r - x = r' + 1 := ⟨r - x - 1, by omega⟩
            have hbx : bt left (i + x) = true := y.2
            rw [hr', List.range'_succ, List.foldl_cons] at q1
            rw [hr', whl_s, if_pos hbx] at q2
            obtain ⟨g1, e1, a1, a2, a3, a4, a5, a6, a7⟩ := M_down (p := p) (q := q) (w := w) (v := v) (ds := ds) (f_X12_layOrder_41 fu) (sil := sil) (mm := I m) (i := i + x) hM hMO (show k < 6 by omega) (by omega) (by omega) h94 h95
            obtain ⟨U, hU⟩ : ∃ U, U = uo M k0 (owM n M T0 0) (am M) (i + x) T := ⟨_, rfl⟩
            rw [← hU] at a4 a5
            have h01 : (if U = 0 then 0 else 1) ≤ 1 := by split <;> omega
            have hpc := pc_cl (x := left) (show i + x < 32 by omega) hbx 6 (by decide)
            rw [if_pos (show i + x < 6 by omega)] at hpc
            have hlen : (whl left i r).length = (whl left (i + x + 1) r').length + 1 := by rw [q2]; rfl
            rw [hlen, Nat.add_mul] at hfu
            have hMO1 := hMO.of a1
            have hR1 : ROM g1 st := ⟨by rw [a7]; exact hR.1, hR.2.1, hR.2.2.1, by rw [a6]; exact hR.2.2.2⟩
            obtain ⟨fu2, g2, e2, c1, c2, c3⟩ := ih (k + 1) (left &&& (b1 (i + x) ^^^ (-1))) (T ||| U) (can + (if U = 0 then 0 else 1)) (pre ++ [i + x]) st g1 fu (by omega) (by omega) (by omega) (LO_and hL _) (fun j hj => by
              rw [bt_clr (by omega) (by omega), hl j hj, Bool.and_assoc, ← Bool.not_or]
              show _ = (bt sil j && !(an (g1 93) j k || decide (g1 93 k = I (j : Int))))
              rw [an_cg k (fun j hj => (a1.1 j hj).symm), a2]
              have : decide (j = i + x) = decide (I ((i + x : Nat) : Int) = I (j : Int)) := by
                apply decide_eq_decide.mpr
                constructor
                · intro z; rw [z]
                · intro z; have := (I_inj (by omega) (by omega)).mp z; omega
              rw [this]) (by rw [List.length_append, hpre]; rfl) (by omega) a3 (fun j hj => by
              rw [List.getD_eq_getElem?_getD]
              by_cases c : j = k
              · subst c
                rw [a2, List.getElem?_append_right (by omega), hpre, Nat.sub_self]; rfl
              · rw [a1.1 j (by omega), List.getElem?_append_left (by omega), h93 j (by omega), List.getD_eq_getElem?_getD]) a4 a5 hR1 hsm hMO1
            have evf : vf (uo M k0 (owM n M T0 0) (am M)) d left T can pre st (i + x) = VV (uo M k0 (owM n M T0 0) (am M)) d (left &&& (b1 (i + x) ^^^ (-1))) (T ||| U) (can + (if U = 0 then 0 else 1)) (pre ++ [i + x]) st := by rw [hU]; exact if_pos hbx
            rw [evf] at q1
            have hv := VV_len (u := uo M k0 (owM n M T0 0) (am M)) d (left &&& (b1 (i + x) ^^^ (-1))) (T ||| U) (can + (if U = 0 then 0 else 1)) (pre ++ [i + x]) st (by omega)
            have ek : (((k + 1 : Nat) : Int) - 1) = (k : Int) := by omega
            rw [ek] at e2
            have o2 : OF k g g2 := a1.tr c3.dn
            obtain ⟨fu3, g3, e3', d1, d2, d3⟩ := ihR r' (i + x + 1) _ g2 fu2 (by omega) (by omega) (by omega) (by omega) (fun j hj => by rw [an_cg k (fun j hj => o2.1 j hj)]; exact hl j hj) (by rw [c3.1 k (by omega), a2]; congr 1; omega) (fun j hj => by rw [o2.1 j hj]; exact h93 j hj) (by rw [(o2.2.1 k (Nat.le_refl _)).1]; exact h94) (by rw [(o2.2.1 k (Nat.le_refl _)).2]; exact h95) c2 (by have h4 := hv.2.2.2; omega) (hMO.of o2)
            refine ⟨fu3, g3, ?_, ?_, ?_, o2.tr d3⟩
            · rw [e41, e1, e2, e3']
            · rw [hlen, Nat.add_mul]; omega
            · rw [q1]; exact d2
    have hw := whl_6l left
    have hKs : KK (d + 1) = (d + 1) * (1 + KK d) + 1 := rfl
    obtain ⟨fu', g', h1, h2, h3, h4⟩ := inner 6 6 0 st g fu (Nat.le_refl _) (by omega) (by omega) (by rw [hw, hp]; omega) hl (by rw [h93k]; rfl) h93 h94 h95 hR hsm hMO
    rw [hw, hp] at h2
    exact ⟨fu', g', h1, by omega, h3, h4⟩
end T
