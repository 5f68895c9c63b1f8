/-! items on the other side; the whole text -/
def itm (c : Nat → Nat) (len a : Nat) (on : Bool) (M : Nat → Int32) : Option (Nat × (Nat → Int32)) := if nbh (c a) = 0 then none else (ags c len (nbh (c a)) (a + 1)).bind (fun y => (acc (c a) (y.1.getD 0 0) (y.1.getD 1 0) (y.1.getD 2 0) on M).map (fun M' => (y.2, M')))
def prs (c : Nat → Nat) (len : Nat) : Nat → Nat → Bool → (Nat → Int32) → Sum Nat (Nat → Int32)
  | 0, _, _, M => Sum.inr M
  | r + 1, a, on, M => if len ≤ a then Sum.inr M else
    match itm c len a on M with
    | none => Sum.inl a
    | some (e, M') => prs c len r e (on && decide (c a = 110)) M'
def rsv (x : Sum Nat (Nat → Int32)) : Int32 := match x with
  | Sum.inl a => I (a : Nat)
  | Sum.inr _ => -4
theorem getD_le {L : List Nat} {b : Nat} (h : ∀ x ∈ L, x ≤ b) (i : Nat) : L.getD i 0 ≤ b := by
  rw [List.getD_eq_getElem?_getD]
  cases hl : L[i]? with
  | none => exact Nat.zero_le _
  | some x => exact h x (List.mem_of_getElem? hl)
def FM (g : Nat → Nat → Int32) (M : Nat → Int32) : Prop := ∀ j, j < 59 → g 85 j = M j
def MI (g g' : Nat → Nat → Int32) : Prop := Sb [83, 85, 90] g g' ∧ ∀ j, j ≠ 10 → g' 83 j = g 83 j
theorem MI.tr {g g' g'' : Nat → Nat → Int32} (h : MI g g') (h' : MI g' g'') : MI g g'' := ⟨Sb.tr h.1 h'.1, fun j hj => (h'.2 j hj).trans (h.2 j hj)⟩
theorem MT.mi {g g' : Nat → Nat → Int32} (h : MT g g') : MI g g' := ⟨h.1.mono (by decide), h.2⟩
theorem MI.fr {g : Nat → Nat → Int32} {f : Nat → Int32} : MI g (uc g 85 f) := ⟨Sb.rf.uc (by decide), fun j _ => by rw [uc_n (by decide)]⟩
theorem TM.i {g g' : Nat → Nat → Int32} {c : Nat → Nat} {len : Nat} (h : TM g c len) (hf : MI g g') : TM g' c len := ⟨by rw [hf.2 9 (by decide)]; exact h.1, h.2.1, by rw [hf.1 89 (by decide)]; exact h.2.2⟩
section T
variable {p q w v : Nat} {ds : Nat → Nat}
theorem M_cp3 : ∀ (r fu j : Nat) (g : Nat → Nat → Int32), r < fu → j + r = 3 →
    ∃ g', f_X12_readItem_354 fu (g, RF p q w v ds) 83 (I j) = some (1, (g', RF p q w v ds)) ∧ Sb [85] g g' ∧ ∀ i, g' 85 i = if 2 + j ≤ i ∧ i < 5 then g 90 (i - 2) else g 85 i := by
  intro r
  induction r with
  | zero =>
    intro fu j g hf hj
    obtain ⟨fu, rfl⟩ : ∃ k, fu = k + 1 := ⟨fu - 1, by omega⟩
    have : j = 3 := by omega
    subst this
    refine ⟨g, ?_, Sb.rf, fun i => (if_neg (by omega)).symm⟩
    rw [f_X12_readItem_354]
    exact if_pos (by decide)
  | succ r ih =>
    intro fu j g hf hj
    obtain ⟨fu, rfl⟩ : ∃ k, fu = k + 1 := ⟨fu - 1, by omega⟩
    obtain ⟨g', e, s', h'⟩ := ih fu (j + 1) (uc g 85 (upd (g 85) (2 + j) (g 90 j))) (by omega) (by omega)
    refine ⟨g', ?_, fun b hb => by rw [s' b hb, uc_n (fun z => hb (by rw [z]; decide))], fun i => ?_⟩
    · rw [← e]
      have e2 : (2 : Int32) + I (j : Int) = I ((2 + j : Nat) : Int) := I_k 2 j
      simp only [f_X12_readItem_354]
      rw [if_neg (fun z => by have := (I_le (a := 3) (by omega) (by omega)).mp z; omega)]
      simp only [r_83_1, r_83_2, r_83_3, r_83_4, r_83_6, r_83_8, r_83_11, r_83_13, r_83_15, r_83_19, r_83_20, r_83_21, r_83_22, r_83_24, r_83_25, r_83_26, r_83_28, r_83_29, k_83, n_83, k_84, n_84, k_85, n_85, k_86, n_86, k_87, n_87, k_88, n_88, k_89, n_89, k_90, n_90, k_91, n_91, k_92, n_92, k_93, n_93, k_94, n_94, k_95, n_95, k_96, n_96, k_97, n_97, k_98, n_98, k_99, n_99, k_100, n_100, k_101, n_101, gd, if_true, reduceIte, I_in (show j < 3 by omega) (show 3 < 1000000 by decide), I_ix (show j < 1000000 by omega), e2, I_in (show 2 + j < 59 by omega) (show 59 < 1000000 by decide), I_ix (show 2 + j < 1000000 by omega), lt_w, I_s]
    · rw [h' i, uc_s, uc_n (by decide)]
      by_cases c : i = 2 + j
      · subst c; rw [if_neg (by omega), upd_s, if_pos (by omega), show 2 + j - 2 = j by omega]
      · rw [upd_n c]
        by_cases c2 : 2 + (j + 1) ≤ i ∧ i < 5
        · rw [if_pos c2, if_pos (by omega)]
        · rw [if_neg c2, if_neg (by omega)]
theorem M_ans {c : Nat → Nat} {len a n : Nat} {g : Nat → Nat → Int32} (hn : 1 ≤ n ∧ n ≤ 3) (hT : TM g c len) (ha : g 83 10 = I a) (ha2 : a ≤ 200) :
    ∃ b g', f_X12_areNumbers (g, RF p q w v ds) 83 (I n) = some (b, (g', RF p q w v ds)) ∧ MT g g' ∧ (ags c len n a = none → b = 0) ∧ ∀ L e, ags c len n a = some (L, e) → b = 1 ∧ g' 83 10 = I e ∧ ∀ j, j < n → g' 90 j = I ((L.getD j 0 : Nat) : Int) := by
  obtain ⟨b, g', e, m, h1, h2⟩ := M_an (p := p) (q := q) (w := w) (v := v) (ds := ds) (c := c) (len := len) hn n FU 0 a g (FU_lt (by omega)) (by omega) hT ha ha2
  refine ⟨b, g', ?_, m, h1, fun L e hz => ?_⟩
  · unfold f_X12_areNumbers
    rw [gd_t (show kd 83 = 12 from rfl)]
    exact e
  · obtain ⟨z1, z2, z3, z4⟩ := h2 L e hz
    refine ⟨z1, z2, fun j hj => ?_⟩
    have := z4 j hj
    rwa [Nat.zero_add] at this
theorem M_item {c : Nat → Nat} {len a ch : Nat} {on : Bool} {M : Nat → Int32} {n np kind : Nat} {g : Nat → Nat → Int32} (hM : PW M n np kind) (hF : FM g M) (hT : TM g c len) (ha : g 83 10 = I ((a + 1 : Nat) : Int)) (ha2 : a + 1 ≤ 200) (hch : c a = ch) (hc2 : ch < 128) :
    ∃ b g', f_X12_readItem (g, RF p q w v ds) 83 (I ch) (if on then 1 else 0) = some (b, (g', RF p q w v ds)) ∧ MI g g' ∧ (itm c len a on M = none → b = 0) ∧ ∀ e M', itm c len a on M = some (e, M') → b = 1 ∧ g' 83 10 = I e ∧ FM g' M' := by
  obtain ⟨p1, p2, p3, p4, p5, p6, ⟨ll, p7, p7'⟩, ⟨lh, p8, p8'⟩, p9, p10, p11⟩ := hM
  have en : (M 0).toNatClampNeg = n := by rw [p1]; exact I_ix (by omega)
  have enp : (M 1).toNatClampNeg = np := by rw [p3]; exact I_ix (by omega)
  have nI : ∀ m : Nat, m < 128 → ∀ k : Nat, k < 128 → m ≠ k → ¬ I (m : Int) = I (k : Int) := fun m hm k hk hne z => hne (by have := (I_inj (by omega) (by omega)).mp z; omega)
  have ci0 : (0 : Int32).toNatClampNeg = 0 := by decide
  have ci1 : (1 : Int32).toNatClampNeg = 1 := by decide
  have ci2 : (2 : Int32).toNatClampNeg = 2 := by decide
  have i30 : inr (0 : Int32) 3 = true := by decide
  have i31 : inr (1 : Int32) 3 = true := by decide
  have i32 : inr (2 : Int32) 3 = true := by decide
  have f0 : g 85 0 = I n := by rw [hF 0 (by decide)]; exact p1
  have f1 : g 85 1 = I np := by rw [hF 1 (by decide)]; exact p3
  have z10 : ¬ (1 : Int32) = 0 := by decide
  unfold itm
  rw [hch]
  unfold f_X12_readItem
  rw [gd_t (show kd 83 = 12 from rfl)]
  -- what is common to all items
  by_cases c1 : ch = 99
  · subst c1
    obtain ⟨b, g1, r1, r2, r3, r4⟩ := M_ans (p := p) (q := q) (w := w) (v := v) (ds := ds) (c := c) (len := len) (n := 2) (by decide) hT ha ha2
    have r1 : f_X12_areNumbers (g, RF p q w v ds) 83 2 = _ := r1
    rw [if_pos (show I ((99 : Nat) : Int) = (99 : Int32) from rfl), show nbh 99 = 2 from rfl, if_neg (by decide), r1, bd_w]
    cases hq : ags c len 2 (a + 1) with
    | none =>
      rw [r3 hq, if_pos rfl]
      exact ⟨0, g1, rfl, r2.mi, fun _ => rfl, fun e M' h => by cases h⟩
    | some y =>
      obtain ⟨L, e⟩ := y
      obtain ⟨q1, q2, q3⟩ := r4 L e hq
      have hL := (ags_b 2 (a + 1) L e hq).1
      have h0 := getD_le hL 0
      have h1 := getD_le hL 1
      have e0 := q3 0 (by decide)
      have e1 := q3 1 (by decide)
      show ∃ b g', _ ∧ _ ∧ ((acc 99 (L.getD 0 0) (L.getD 1 0) (L.getD 2 0) on M).map (fun M' => (e, M')) = none → _) ∧ ∀ e' M', (acc 99 (L.getD 0 0) (L.getD 1 0) (L.getD 2 0) on M).map (fun M' => (e, M')) = some (e', M') → _
      generalize L.getD 0 0 = l0 at h0 e0 ⊢
      generalize L.getD 1 0 = l1 at h1 e1 ⊢
      generalize L.getD 2 0 = l2
      have f0' : g1 85 0 = I n := by rw [r2.1 85 (by decide)]; exact f0
      rw [q1, if_neg z10]
      simp only [r_83_1, r_83_2, r_83_3, r_83_4, r_83_6, r_83_8, r_83_11, r_83_13, r_83_15, r_83_19, r_83_20, r_83_21, r_83_22, r_83_24, r_83_25, r_83_26, r_83_28, r_83_29, k_83, n_83, k_84, n_84, k_85, n_85, k_86, n_86, k_87, n_87, k_88, n_88, k_89, n_89, k_90, n_90, k_91, n_91, k_92, n_92, k_93, n_93, k_94, n_94, k_95, n_95, k_96, n_96, k_97, n_97, k_98, n_98, k_99, n_99, k_100, n_100, k_101, n_101, ci_0, ci_1, ci_2, ci_3, ci_4, ii_0, ii_1, ii_2, ii_3, ii_4, id_0, id_1, id_2, gd, if_true, reduceIte, ci0, ci1, i30, i31, e0, e1, f0', M_in, bd_w]
      rw [I_64c _ (by omega), I_64c _ (by omega), show (1 : Int64).toInt = 1 by decide]
      have ea : acc 99 l0 l1 l2 on M = if (1 ≤ l0 ∧ l0 ≤ n) ∧ l1 ≤ 9 then some (upd M (4 + l0) (I l1)) else none := by unfold acc; rw [if_pos rfl, en]
      rw [ea]
      by_cases d : (1 ≤ l0 ∧ l0 ≤ n) ∧ l1 ≤ 9
      · have e4 : (4 : Int32) + I (l0 : Int) = I ((4 + l0 : Nat) : Int) := I_k 4 l0
        rw [if_pos (show (1 : Int) ≤ (l0 : Int) ∧ (l0 : Int) ≤ n by omega), if_neg z10, if_pos (show I (l1 : Int) ≤ (9 : Int32) from (I_le (b := 9) (by omega) (by omega)).mpr (by omega)), if_pos d, e4]
        simp only [I_in (show 4 + l0 < 59 by omega) (show 59 < 1000000 by decide), I_ix (show 4 + l0 < 1000000 by omega), lt_w, if_true, reduceIte]
        refine ⟨1, _, rfl, r2.mi.tr MI.fr, fun z => (by cases z), fun e' M' hz => ?_⟩
        have hz := Option.some.inj hz
        have w1 := congrArg Prod.fst hz
        have w2 := congrArg Prod.snd hz
        simp only at w1 w2
        subst w1 w2
        refine ⟨rfl, by rw [uc_n (by decide)]; exact q2, fun j hj => ?_⟩
        rw [uc_s]
        by_cases f : j = 4 + l0
        · subst f; rw [upd_s, upd_s]
        · rw [upd_n f, upd_n f, r2.1 85 (by decide)]; exact hF j hj
      · rw [if_neg d]
        refine ⟨0, g1, ?_, r2.mi, fun _ => rfl, fun e' M' hz => by cases hz⟩
        by_cases d1 : (1 : Int) ≤ (l0 : Int) ∧ (l0 : Int) ≤ n
        · rw [if_pos d1, if_neg z10, if_neg (show ¬ I (l1 : Int) ≤ (9 : Int32) from fun z => by have := (I_le (b := 9) (by omega) (by omega)).mp z; omega)]
        · rw [if_neg d1, if_pos rfl]
  rw [if_neg (show ¬ I (ch : Int) = (99 : Int32) from nI ch hc2 99 (by decide) c1)]
  by_cases c2 : ch = 104
  · subst c2
    obtain ⟨b, g1, r1, r2, r3, r4⟩ := M_ans (p := p) (q := q) (w := w) (v := v) (ds := ds) (c := c) (len := len) (n := 2) (by decide) hT ha ha2
    have r1 : f_X12_areNumbers (g, RF p q w v ds) 83 2 = _ := r1
    rw [if_pos (show I ((104 : Nat) : Int) = (104 : Int32) from rfl), show nbh 104 = 2 from rfl, if_neg (by decide), r1, bd_w]
    cases hq : ags c len 2 (a + 1) with
    | none =>
      rw [r3 hq, if_pos rfl]
      exact ⟨0, g1, rfl, r2.mi, fun _ => rfl, fun e M' h => by cases h⟩
    | some y =>
      obtain ⟨L, e⟩ := y
      obtain ⟨q1, q2, q3⟩ := r4 L e hq
      have hL := (ags_b 2 (a + 1) L e hq).1
      have h0 := getD_le hL 0
      have h1 := getD_le hL 1
      have e0 := q3 0 (by decide)
      have e1 := q3 1 (by decide)
      show ∃ b g', _ ∧ _ ∧ ((acc 104 (L.getD 0 0) (L.getD 1 0) (L.getD 2 0) on M).map (fun M' => (e, M')) = none → _) ∧ ∀ e' M', (acc 104 (L.getD 0 0) (L.getD 1 0) (L.getD 2 0) on M).map (fun M' => (e, M')) = some (e', M') → _
      generalize L.getD 0 0 = l0 at h0 e0 ⊢
      generalize L.getD 1 0 = l1 at h1 e1 ⊢
      generalize L.getD 2 0 = l2
      have f0' : g1 85 0 = I n := by rw [r2.1 85 (by decide)]; exact f0
      have f1' : g1 85 1 = I np := by rw [r2.1 85 (by decide)]; exact f1
      rw [q1, if_neg z10]
      simp only [r_83_1, r_83_2, r_83_3, r_83_4, r_83_6, r_83_8, r_83_11, r_83_13, r_83_15, r_83_19, r_83_20, r_83_21, r_83_22, r_83_24, r_83_25, r_83_26, r_83_28, r_83_29, k_83, n_83, k_84, n_84, k_85, n_85, k_86, n_86, k_87, n_87, k_88, n_88, k_89, n_89, k_90, n_90, k_91, n_91, k_92, n_92, k_93, n_93, k_94, n_94, k_95, n_95, k_96, n_96, k_97, n_97, k_98, n_98, k_99, n_99, k_100, n_100, k_101, n_101, ci_0, ci_1, ci_2, ci_3, ci_4, ii_0, ii_1, ii_2, ii_3, ii_4, id_0, id_1, id_2, gd, if_true, reduceIte, ci0, ci1, i30, i31, e0, e1, f0', f1', M_in, bd_w]
      rw [I_64c _ (by omega), I_64c _ (by omega), show (1 : Int64).toInt = 1 by decide]
      have ea : acc 104 l0 l1 l2 on M = if (1 ≤ l0 ∧ l0 ≤ n) ∧ l1 < np then some (upd M (28 + l0) (I l1)) else none := by unfold acc; rw [if_neg (by decide), if_pos rfl, en, enp]
      rw [ea]
      by_cases d : (1 ≤ l0 ∧ l0 ≤ n) ∧ l1 < np
      · have e4 : (28 : Int32) + I (l0 : Int) = I ((28 + l0 : Nat) : Int) := I_k 28 l0
        rw [if_pos (show (1 : Int) ≤ (l0 : Int) ∧ (l0 : Int) ≤ n by omega), if_neg z10, if_pos (show I (l1 : Int) < I (np : Int) from (I_lt (by omega) (by omega)).mpr (by omega)), if_pos d, e4]
        simp only [I_in (show 28 + l0 < 59 by omega) (show 59 < 1000000 by decide), I_ix (show 28 + l0 < 1000000 by omega), lt_w, if_true, reduceIte]
        refine ⟨1, _, rfl, r2.mi.tr MI.fr, fun z => (by cases z), fun e' M' hz => ?_⟩
        have hz := Option.some.inj hz
        have w1 := congrArg Prod.fst hz
        have w2 := congrArg Prod.snd hz
        simp only at w1 w2
        subst w1 w2
        refine ⟨rfl, by rw [uc_n (by decide)]; exact q2, fun j hj => ?_⟩
        rw [uc_s]
        by_cases f : j = 28 + l0
        · subst f; rw [upd_s, upd_s]
        · rw [upd_n f, upd_n f, r2.1 85 (by decide)]; exact hF j hj
      · rw [if_neg d]
        refine ⟨0, g1, ?_, r2.mi, fun _ => rfl, fun e' M' hz => by cases hz⟩
        by_cases d1 : (1 : Int) ≤ (l0 : Int) ∧ (l0 : Int) ≤ n
        · rw [if_pos d1, if_neg z10, if_neg (show ¬ I (l1 : Int) < I (np : Int) from fun z => by have := (I_lt (by omega) (by omega)).mp z; omega)]
        · rw [if_neg d1, if_pos rfl]
  rw [if_neg (show ¬ I (ch : Int) = (104 : Int32) from nI ch hc2 104 (by decide) c2)]
  by_cases c3 : ch = 107
  · subst c3
    obtain ⟨b, g1, r1, r2, r3, r4⟩ := M_ans (p := p) (q := q) (w := w) (v := v) (ds := ds) (c := c) (len := len) (n := 3) (by decide) hT ha ha2
    have r1 : f_X12_areNumbers (g, RF p q w v ds) 83 3 = _ := r1
    rw [if_pos (show I ((107 : Nat) : Int) = (107 : Int32) from rfl), show nbh 107 = 3 from rfl, if_neg (by decide), r1, bd_w]
    cases hq : ags c len 3 (a + 1) with
    | none =>
      rw [r3 hq, if_pos rfl]
      exact ⟨0, g1, rfl, r2.mi, fun _ => rfl, fun e M' h => by cases h⟩
    | some y =>
      obtain ⟨L, e⟩ := y
      obtain ⟨q1, q2, q3⟩ := r4 L e hq
      have hL := (ags_b 3 (a + 1) L e hq).1
      have h0 := getD_le hL 0
      have h1 := getD_le hL 1
      have h2 := getD_le hL 2
      have e0 := q3 0 (by decide)
      have e1 := q3 1 (by decide)
      have e2 := q3 2 (by decide)
      show ∃ b g', _ ∧ _ ∧ ((acc 107 (L.getD 0 0) (L.getD 1 0) (L.getD 2 0) on M).map (fun M' => (e, M')) = none → _) ∧ ∀ e' M', (acc 107 (L.getD 0 0) (L.getD 1 0) (L.getD 2 0) on M).map (fun M' => (e, M')) = some (e', M') → _
      generalize L.getD 0 0 = l0 at h0 e0 ⊢
      generalize L.getD 1 0 = l1 at h1 e1 ⊢
      generalize L.getD 2 0 = l2 at h2 e2 ⊢
      obtain ⟨g2, t1', t2, t3⟩ := M_cp3 (p := p) (q := q) (w := w) (v := v) (ds := ds) 3 FU 0 g1 (FU_lt (by omega)) (by omega)
      have t1' : f_X12_readItem_354 FU (g1, RF p q w v ds) 83 0 = _ := t1'
      rw [q1, if_neg z10]
      revert t1'
      generalize f_X12_readItem_354 FU = lf
      intro t1'
      simp only [r_83_1, r_83_2, r_83_3, r_83_4, r_83_6, r_83_8, r_83_11, r_83_13, r_83_15, r_83_19, r_83_20, r_83_21, r_83_22, r_83_24, r_83_25, r_83_26, r_83_28, r_83_29, k_83, n_83, k_84, n_84, k_85, n_85, k_86, n_86, k_87, n_87, k_88, n_88, k_89, n_89, k_90, n_90, k_91, n_91, k_92, n_92, k_93, n_93, k_94, n_94, k_95, n_95, k_96, n_96, k_97, n_97, k_98, n_98, k_99, n_99, k_100, n_100, k_101, n_101, ci_0, ci_1, ci_2, ci_3, ci_4, ii_0, ii_1, ii_2, ii_3, ii_4, id_0, id_1, id_2, gd, if_true, reduceIte, ci0, ci1, ci2, i30, i31, i32, e0, e1, e2]
      have ea : acc 107 l0 l1 l2 on M = if l0 ≤ 3 ∧ l1 ≤ 9 ∧ l2 ≤ 9 then some (upd (upd (upd M 2 (I l0)) 3 (I l1)) 4 (I l2)) else none := by unfold acc; rw [if_neg (by decide), if_neg (by decide), if_pos rfl]
      rw [ea]
      by_cases d : l0 ≤ 3 ∧ l1 ≤ 9 ∧ l2 ≤ 9
      · rw [if_neg (show ¬ (3 : Int32) < I (l0 : Int) from fun z => by have := (I_lt (a := 3) (by omega) (by omega)).mp z; omega), if_neg (show ¬ (9 : Int32) < I (l1 : Int) from fun z => by have := (I_lt (a := 9) (by omega) (by omega)).mp z; omega), if_pos (show I (l2 : Int) ≤ (9 : Int32) from (I_le (b := 9) (by omega) (by omega)).mpr (by omega)), if_pos d]
        refine ⟨1, g2, t1', r2.mi.tr ⟨t2.mono (by decide), fun j _ => by rw [t2 83 (by decide)]⟩, fun z => (by cases z), fun e' M' hz => ?_⟩
        have hz := Option.some.inj hz
        have w1 := congrArg Prod.fst hz
        have w2 := congrArg Prod.snd hz
        simp only at w1 w2
        subst w1 w2
        refine ⟨rfl, by rw [t2 83 (by decide)]; exact q2, fun j hj => ?_⟩
        rw [t3 j]
        by_cases f2 : j = 2
        · subst f2; rw [if_pos (by omega), upd_n (by decide), upd_n (by decide), upd_s]; exact e0
        · by_cases f3 : j = 3
          · subst f3; rw [if_pos (by omega), upd_n (by decide), upd_s]; exact e1
          · by_cases f4 : j = 4
            · subst f4; rw [if_pos (by omega), upd_s]; exact e2
            · rw [if_neg (by omega), upd_n f4, upd_n f3, upd_n f2, r2.1 85 (by decide)]; exact hF j hj
      · rw [if_neg d]
        refine ⟨0, g1, ?_, r2.mi, fun _ => rfl, fun e' M' hz => by cases hz⟩
        by_cases d1 : l0 ≤ 3
        · rw [if_neg (show ¬ (3 : Int32) < I (l0 : Int) from fun z => by have := (I_lt (a := 3) (by omega) (by omega)).mp z; omega)]
          by_cases d2 : l1 ≤ 9
          · rw [if_neg (show ¬ (9 : Int32) < I (l1 : Int) from fun z => by have := (I_lt (a := 9) (by omega) (by omega)).mp z; omega), if_neg (show ¬ I (l2 : Int) ≤ (9 : Int32) from fun z => by have := (I_le (b := 9) (by omega) (by omega)).mp z; omega)]
          · rw [if_pos (show (9 : Int32) < I (l1 : Int) from (I_lt (a := 9) (by omega) (by omega)).mpr (by omega))]
        · rw [if_pos (show (3 : Int32) < I (l0 : Int) from (I_lt (a := 3) (by omega) (by omega)).mpr (by omega))]
  rw [if_neg (show ¬ I (ch : Int) = (107 : Int32) from nI ch hc2 107 (by decide) c3)]
  by_cases c4 : ch = 110
  · subst c4
    obtain ⟨b, g1, r1, r2, r3, r4⟩ := M_ans (p := p) (q := q) (w := w) (v := v) (ds := ds) (c := c) (len := len) (n := 1) (by decide) hT ha ha2
    have r1 : f_X12_areNumbers (g, RF p q w v ds) 83 1 = _ := r1
    rw [if_pos (show I ((110 : Nat) : Int) = (110 : Int32) from rfl), show nbh 110 = 1 from rfl, if_neg (show ¬ (1 : Nat) = 0 by decide)]
    have ea : ∀ l0 l1 l2, acc 110 l0 l1 l2 on M = if on = true ∧ 1 ≤ l0 ∧ l0 ≤ 24 then some (upd M 0 (I l0)) else none := fun l0 l1 l2 => by unfold acc; rw [if_neg (by decide), if_neg (by decide), if_neg (by decide), if_pos rfl]
    cases on with
    | false =>
      rw [if_pos (by decide)]
      have hno : ∀ y : List Nat × Nat, (acc 110 (y.1.getD 0 0) (y.1.getD 1 0) (y.1.getD 2 0) false M).map (fun M' => (y.2, M')) = none := fun y => by rw [ea, if_neg (fun z => by cases z.1)]; rfl
      have hno2 : (ags c len 1 (a + 1)).bind (fun y => (acc 110 (y.1.getD 0 0) (y.1.getD 1 0) (y.1.getD 2 0) false M).map (fun M' => (y.2, M'))) = none := by
        cases ags c len 1 (a + 1) with
        | none => rfl
        | some y => exact hno y
      exact ⟨0, g, rfl, MT.rf.mi, fun _ => rfl, fun e M' h => by rw [hno2] at h; cases h⟩
    | true =>
    rw [if_neg (by decide), r1, bd_w]
    cases hq : ags c len 1 (a + 1) with
    | none =>
      rw [r3 hq, if_pos rfl]
      exact ⟨0, g1, rfl, r2.mi, fun _ => rfl, fun e M' h => by cases h⟩
    | some y =>
      obtain ⟨L, e⟩ := y
      obtain ⟨q1, q2, q3⟩ := r4 L e hq
      have hL := (ags_b 1 (a + 1) L e hq).1
      have h0 := getD_le hL 0
      have e0 := q3 0 (by decide)
      show ∃ b g', _ ∧ _ ∧ ((acc 110 (L.getD 0 0) (L.getD 1 0) (L.getD 2 0) true M).map (fun M' => (e, M')) = none → _) ∧ ∀ e' M', (acc 110 (L.getD 0 0) (L.getD 1 0) (L.getD 2 0) true M).map (fun M' => (e, M')) = some (e', M') → _
      generalize L.getD 0 0 = l0 at h0 e0 ⊢
      generalize L.getD 1 0 = l1
      generalize L.getD 2 0 = l2
      rw [q1, if_neg z10]
      simp only [r_83_1, r_83_2, r_83_3, r_83_4, r_83_6, r_83_8, r_83_11, r_83_13, r_83_15, r_83_19, r_83_20, r_83_21, r_83_22, r_83_24, r_83_25, r_83_26, r_83_28, r_83_29, k_83, n_83, k_84, n_84, k_85, n_85, k_86, n_86, k_87, n_87, k_88, n_88, k_89, n_89, k_90, n_90, k_91, n_91, k_92, n_92, k_93, n_93, k_94, n_94, k_95, n_95, k_96, n_96, k_97, n_97, k_98, n_98, k_99, n_99, k_100, n_100, k_101, n_101, ci_0, ci_1, ci_2, ci_3, ci_4, ii_0, ii_1, ii_2, ii_3, ii_4, id_0, id_1, id_2, gd, if_true, reduceIte, ci0, i30, e0, M_in, bd_w]
      rw [I_64c _ (by omega), show (1 : Int64).toInt = 1 by decide, show (24 : Int64).toInt = 24 by decide]
      rw [ea]
      by_cases d : 1 ≤ l0 ∧ l0 ≤ 24
      · rw [if_pos (show (1 : Int) ≤ (l0 : Int) ∧ (l0 : Int) ≤ 24 by omega), if_neg z10, if_pos ⟨rfl, d⟩]
        simp only [lt_w]
        refine ⟨1, _, rfl, r2.mi.tr MI.fr, fun z => (by cases z), fun e' M' hz => ?_⟩
        have hz := Option.some.inj hz
        have w1 := congrArg Prod.fst hz
        have w2 := congrArg Prod.snd hz
        simp only at w1 w2
        subst w1 w2
        refine ⟨rfl, by rw [uc_n (by decide)]; exact q2, fun j hj => ?_⟩
        rw [uc_s]
        by_cases f : j = 0
        · subst f; rw [upd_s, upd_s]
        · rw [upd_n f, upd_n f, r2.1 85 (by decide)]; exact hF j hj
      · rw [if_neg (show ¬ (true = true ∧ 1 ≤ l0 ∧ l0 ≤ 24) from fun z => d z.2), if_neg (show ¬ ((1 : Int) ≤ (l0 : Int) ∧ (l0 : Int) ≤ 24) by omega), if_pos rfl]
        exact ⟨0, g1, rfl, r2.mi, fun _ => rfl, fun e' M' hz => by cases hz⟩
  rw [if_neg (show ¬ I (ch : Int) = (110 : Int32) from nI ch hc2 110 (by decide) c4)]
  by_cases c5 : ch = 112
  · subst c5
    obtain ⟨b, g1, r1, r2, r3, r4⟩ := M_ans (p := p) (q := q) (w := w) (v := v) (ds := ds) (c := c) (len := len) (n := 1) (by decide) hT ha ha2
    have r1 : f_X12_areNumbers (g, RF p q w v ds) 83 1 = _ := r1
    rw [if_pos (show I ((112 : Nat) : Int) = (112 : Int32) from rfl), show nbh 112 = 1 from rfl, if_neg (show ¬ (1 : Nat) = 0 by decide)]
    simp only [r_83_1, r_83_2, r_83_3, r_83_4, r_83_6, r_83_8, r_83_11, r_83_13, r_83_15, r_83_19, r_83_20, r_83_21, r_83_22, r_83_24, r_83_25, r_83_26, r_83_28, r_83_29, k_83, n_83, k_84, n_84, k_85, n_85, k_86, n_86, k_87, n_87, k_88, n_88, k_89, n_89, k_90, n_90, k_91, n_91, k_92, n_92, k_93, n_93, k_94, n_94, k_95, n_95, k_96, n_96, k_97, n_97, k_98, n_98, k_99, n_99, k_100, n_100, k_101, n_101, ci_0, ci_1, ci_2, ci_3, ci_4, ii_0, ii_1, ii_2, ii_3, ii_4, id_0, id_1, id_2, gd, if_true, reduceIte, ci1, f1]
    rw [r1, bd_w]
    have ea : ∀ l0 l1 l2, acc 112 l0 l1 l2 on M = if np < 6 ∧ 1 ≤ l0 then some (upd (upd M (53 + np) (I l0)) 1 (I ((np + 1 : Nat) : Int))) else none := fun l0 l1 l2 => by unfold acc; rw [if_neg (by decide), if_neg (by decide), if_neg (by decide), if_neg (by decide), if_pos rfl, enp]
    by_cases h6 : np = 6
    · rw [if_pos (show I (np : Int) = (6 : Int32) by rw [h6]; rfl)]
      have hno2 : (ags c len 1 (a + 1)).bind (fun y => (acc 112 (y.1.getD 0 0) (y.1.getD 1 0) (y.1.getD 2 0) on M).map (fun M' => (y.2, M'))) = none := by
        cases ags c len 1 (a + 1) with
        | none => rfl
        | some y => show (acc 112 _ _ _ on M).map _ = none; rw [ea, if_neg (by omega)]; rfl
      exact ⟨0, g, rfl, MT.rf.mi, fun _ => rfl, fun e M' h => by rw [hno2] at h; cases h⟩
    rw [if_neg (show ¬ I (np : Int) = (6 : Int32) from fun z => h6 (by have := (I_inj (b := 6) (by omega) (by omega)).mp z; omega))]
    cases hq : ags c len 1 (a + 1) with
    | none =>
      rw [r3 hq, if_pos rfl]
      exact ⟨0, g1, rfl, r2.mi, fun _ => rfl, fun e M' h => by cases h⟩
    | some y =>
      obtain ⟨L, e⟩ := y
      obtain ⟨q1, q2, q3⟩ := r4 L e hq
      have hL := (ags_b 1 (a + 1) L e hq).1
      have h0 := getD_le hL 0
      have e0 := q3 0 (by decide)
      show ∃ b g', _ ∧ _ ∧ ((acc 112 (L.getD 0 0) (L.getD 1 0) (L.getD 2 0) on M).map (fun M' => (e, M')) = none → _) ∧ ∀ e' M', (acc 112 (L.getD 0 0) (L.getD 1 0) (L.getD 2 0) on M).map (fun M' => (e, M')) = some (e', M') → _
      generalize L.getD 0 0 = l0 at h0 e0 ⊢
      generalize L.getD 1 0 = l1
      generalize L.getD 2 0 = l2
      have f1' : g1 85 1 = I np := by rw [r2.1 85 (by decide)]; exact f1
      rw [q1, if_neg z10]
      simp only [r_83_1, r_83_2, r_83_3, r_83_4, r_83_6, r_83_8, r_83_11, r_83_13, r_83_15, r_83_19, r_83_20, r_83_21, r_83_22, r_83_24, r_83_25, r_83_26, r_83_28, r_83_29, k_83, n_83, k_84, n_84, k_85, n_85, k_86, n_86, k_87, n_87, k_88, n_88, k_89, n_89, k_90, n_90, k_91, n_91, k_92, n_92, k_93, n_93, k_94, n_94, k_95, n_95, k_96, n_96, k_97, n_97, k_98, n_98, k_99, n_99, k_100, n_100, k_101, n_101, ci_0, ci_1, ci_2, ci_3, ci_4, ii_0, ii_1, ii_2, ii_3, ii_4, id_0, id_1, id_2, if_true, reduceIte, ci0, ci1, i30, e0, f1']
      rw [ea]
      by_cases d : 1 ≤ l0
      · have e5 : (53 : Int32) + I (np : Int) = I ((53 + np : Nat) : Int) := I_k 53 np
        rw [if_neg (show ¬ I (l0 : Int) = 0 from fun z => by have := (I_inj (b := 0) (by omega) (by omega)).mp z; omega), if_pos (show np < 6 ∧ 1 ≤ l0 by omega), e5]
        simp only [I_in (show 53 + np < 59 by omega) (show 59 < 1000000 by decide), I_ix (show 53 + np < 1000000 by omega), lt_w, if_true, reduceIte, r_83_1, r_83_2, r_83_3, r_83_4, r_83_6, r_83_8, r_83_11, r_83_13, r_83_15, r_83_19, r_83_20, r_83_21, r_83_22, r_83_24, r_83_25, r_83_26, r_83_28, r_83_29, k_83, n_83, k_84, n_84, k_85, n_85, k_86, n_86, k_87, n_87, k_88, n_88, k_89, n_89, k_90, n_90, k_91, n_91, k_92, n_92, k_93, n_93, k_94, n_94, k_95, n_95, k_96, n_96, k_97, n_97, k_98, n_98, k_99, n_99, k_100, n_100, k_101, n_101, ci_0, ci_1, ci_2, ci_3, ci_4, ii_0, ii_1, ii_2, ii_3, ii_4, id_0, id_1, id_2, ci1, uc_s, upd_n (show 1 ≠ 53 + np by omega), f1', I_s, uc_uc]
        refine ⟨1, _, rfl, r2.mi.tr MI.fr, fun z => (by cases z), fun e' M' hz => ?_⟩
        have hz := Option.some.inj hz
        have w1 := congrArg Prod.fst hz
        have w2 := congrArg Prod.snd hz
        simp only at w1 w2
        subst w1 w2
        refine ⟨rfl, by rw [uc_n (by decide)]; exact q2, fun j hj => ?_⟩
        rw [uc_s]
        by_cases f : j = 1
        · subst f; rw [upd_s, upd_s]
        · rw [upd_n f, upd_n f]
          by_cases f2 : j = 53 + np
          · subst f2; rw [upd_s, upd_s]
          · rw [upd_n f2, upd_n f2, r2.1 85 (by decide)]; exact hF j hj
      · rw [if_neg (show ¬ (np < 6 ∧ 1 ≤ l0) by omega), if_pos (show I (l0 : Int) = 0 by rw [show l0 = 0 by omega]; rfl)]
        exact ⟨0, g1, rfl, r2.mi, fun _ => rfl, fun e' M' hz => by cases hz⟩
  rw [if_neg (show ¬ I (ch : Int) = (112 : Int32) from nI ch hc2 112 (by decide) c5)]
  have hnb : nbh ch = 0 := by unfold nbh; rw [if_neg c1, if_neg c2, if_neg c3, if_neg c4, if_neg c5]
  rw [if_pos hnb]
  exact ⟨0, g, rfl, MT.rf.mi, fun _ => rfl, fun e' M' hz => by cases hz⟩
end T
