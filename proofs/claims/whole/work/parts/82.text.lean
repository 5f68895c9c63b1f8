/-! the text: numbers and what stands behind them -/
def dig (c : Nat → Nat) (len i : Nat) : Bool := decide (i < len ∧ 48 ≤ c i ∧ c i ≤ 57)
def nms (c : Nat → Nat) (len a s : Nat) : Option (Nat × Nat) :=
  if dig c len a then (if dig c len (a + 1) then (if a + 2 < len ∧ c (a + 2) = s then some (10 * (c a - 48) + (c (a + 1) - 48), a + 3) else none) else (if a + 1 < len ∧ c (a + 1) = s then some (c a - 48, a + 2) else none)) else none
def ags (c : Nat → Nat) (len : Nat) : Nat → Nat → Option (List Nat × Nat)
  | 0, a => some ([], a)
  | r + 1, a => (nms c len a (if r = 0 then 59 else 44)).bind (fun x => (ags c len r x.2).map (fun y => (x.1 :: y.1, y.2)))
theorem dig_t {c : Nat → Nat} {len i : Nat} (h : dig c len i = true) : i < len ∧ 48 ≤ c i ∧ c i ≤ 57 := of_decide_eq_true h
theorem dig_f {c : Nat → Nat} {len i : Nat} (h : dig c len i = false) : ¬ (i < len ∧ 48 ≤ c i ∧ c i ≤ 57) := of_decide_eq_false h
theorem nms_b {c : Nat → Nat} {len a s x b : Nat} (h : nms c len a s = some (x, b)) : x ≤ 99 ∧ a < b ∧ b ≤ len := by
  unfold nms at h
  by_cases d0 : dig c len a = true
  · rw [if_pos d0] at h
    have t0 := dig_t d0
    by_cases d1 : dig c len (a + 1) = true
    · rw [if_pos d1] at h
      have t1 := dig_t d1
      by_cases d2 : a + 2 < len ∧ c (a + 2) = s
      · rw [if_pos d2] at h
        have := Option.some.inj h
        have e1 := congrArg Prod.fst this
        have e2 := congrArg Prod.snd this
        simp only at e1 e2
        omega
      · rw [if_neg d2] at h; cases h
    · rw [if_neg d1] at h
      by_cases d2 : a + 1 < len ∧ c (a + 1) = s
      · rw [if_pos d2] at h
        have := Option.some.inj h
        have e1 := congrArg Prod.fst this
        have e2 := congrArg Prod.snd this
        simp only at e1 e2
        omega
      · rw [if_neg d2] at h; cases h
  · rw [if_neg d0] at h; cases h
theorem ags_s {c : Nat → Nat} {len r a : Nat} : ags c len (r + 1) a = (nms c len a (if r = 0 then 59 else 44)).bind (fun x => (ags c len r x.2).map (fun y => (x.1 :: y.1, y.2))) := rfl
theorem ags_b {c : Nat → Nat} {len : Nat} : ∀ (r a : Nat) (L : List Nat) (e : Nat), ags c len r a = some (L, e) → (∀ x ∈ L, x ≤ 99) ∧ a ≤ e ∧ (r ≠ 0 → e ≤ len) ∧ L.length = r := by
  intro r
  induction r with
  | zero =>
    intro a L e h
    have := Option.some.inj h
    have e1 := congrArg Prod.fst this
    have e2 := congrArg Prod.snd this
    simp only at e1 e2
    subst e1
    exact ⟨fun x hx => absurd hx (List.not_mem_nil), by omega, fun z => absurd rfl z, rfl⟩
  | succ r ih =>
    intro a L e h
    rw [ags_s] at h
    cases hn : nms c len a (if r = 0 then 59 else 44) with
    | none => rw [hn] at h; cases h
    | some x =>
      obtain ⟨x, b⟩ := x
      rw [hn] at h
      have hb := nms_b hn
      cases hr : ags c len r b with
      | none => simp only [Option.bind, hr, Option.map] at h; cases h
      | some y =>
        obtain ⟨L', e'⟩ := y
        simp only [Option.bind, hr, Option.map] at h
        have := Option.some.inj h
        have e1 := congrArg Prod.fst this
        have e2 := congrArg Prod.snd this
        simp only at e1 e2
        obtain ⟨a1, a2, a3, a4⟩ := ih b L' e' hr
        subst e1 e2
        refine ⟨fun z hz => ?_, by omega, fun _ => ?_, by rw [List.length_cons, a4]⟩
        · rcases List.mem_cons.mp hz with q | q
          · rw [q]; exact hb.1
          · exact a1 z q
        · by_cases c0 : r = 0
          · subst c0
            have := Option.some.inj hr
            have e2 := congrArg Prod.snd this
            simp only at e2
            omega
          · exact a3 c0
def TX (g : Nat → Nat → Int32) (c : Nat → Nat) (len : Nat) : Prop := g 2 0 = I len ∧ len ≤ 200 ∧ ∀ i, i < len → g 3 i = I (c i : Nat) ∧ c i < 128
def XF (g g' : Nat → Nat → Int32) : Prop := Sb [2, 4] g g' ∧ ∀ j, j ≠ 3 → g' 2 j = g 2 j
theorem XF.rf {g : Nat → Nat → Int32} : XF g g := ⟨Sb.rf, fun _ _ => rfl⟩
theorem XF.tr {g g' g'' : Nat → Nat → Int32} (h : XF g g') (h' : XF g' g'') : XF g g'' := ⟨Sb.tr h.1 h'.1, fun j hj => (h'.2 j hj).trans (h.2 j hj)⟩
theorem XF.at {g : Nat → Nat → Int32} {x : Int32} : XF g (uc g 2 (upd (g 2) 3 x)) := ⟨Sb.rf.uc (by decide), fun j hj => by rw [uc_s, upd_n hj]⟩
theorem XF.told {g : Nat → Nat → Int32} {f : Nat → Int32} : XF g (uc g 4 f) := ⟨Sb.rf.uc (by decide), fun j _ => by rw [uc_n (by decide)]⟩
theorem TX.f {g g' : Nat → Nat → Int32} {c : Nat → Nat} {len : Nat} (h : TX g c len) (hf : XF g g') : TX g' c len := ⟨by rw [hf.2 0 (by decide)]; exact h.1, h.2.1, by rw [hf.1 3 (by decide)]; exact h.2.2⟩
section T
variable {p q w v : Nat} {ds : Nat → Nat}
theorem X_rn1 {g : Nat → Nat → Int32} {c : Nat → Nat} {len a x2 x3 fu : Nat} {kk : Int32} (hT : TX g c len) (ha : g 2 3 = I a) (hd : dig c len a = true) (h2 : x2 < 2) (h3 : x3 ≤ 99) :
    f_X8_readNumber_4 (fu + 1) (g, RF p q w v ds) 2 kk (I x2) (I x3) = f_X8_readNumber_4 fu (uc g 2 (upd (g 2) 3 (I ((a + 1 : Nat) : Int))), RF p q w v ds) 2 kk (I ((x2 + 1 : Nat) : Int)) (I ((10 * x3 + (c a - 48) : Nat) : Int)) := by
  have t := dig_t hd
  have hl := hT.2.1
  have e3 := (hT.2.2 a t.1).1
  have ev : I (x3 : Int) * 10 + (I (c a : Nat) - 48) = I ((10 * x3 + (c a - 48) : Nat) : Int) := by
    rw [show (10 : Int32) = I 10 from rfl, show (48 : Int32) = I 48 from rfl, I_mul, I_sub, I_add]; congr 1; omega
  simp only [f_X8_readNumber_4]
  rw [if_neg (fun z => by have := (I_le (a := 2) (by omega) (by omega)).mp z; omega)]
  simp only [hT.1, ha]
  rw [if_neg (fun z => by have := (I_le (by omega) (by omega)).mp z; omega)]
  simp only [r_2_1, r_2_2, k_2, n_2, k_3, n_3, k_4, n_4, gd, if_true, reduceIte, I_in (show a < 200 by omega) (show 200 < 1000000 by decide), I_ix (show a < 1000000 by omega), e3]
  rw [if_neg (fun z => by have := (I_lt (b := 48) (by omega) (by omega)).mp z; omega), if_neg (fun z => by have := (I_lt (a := 57) (by omega) (by omega)).mp z; omega), lt_w, I_s, I_s, ev]
theorem X_rn0 {g : Nat → Nat → Int32} {c : Nat → Nat} {len a x2 x3 fu : Nat} {kk : Int32} (hT : TX g c len) (ha : g 2 3 = I a) (ha2 : a ≤ 1000) (hd : x2 = 2 ∨ (x2 < 2 ∧ dig c len a = false)) :
    f_X8_readNumber_4 (fu + 1) (g, RF p q w v ds) 2 kk (I x2) (I x3) = f_X8_readNumber_82 (g, RF p q w v ds) 2 kk (I x2) (I x3) := by
  have hl := hT.2.1
  simp only [f_X8_readNumber_4]
  rcases hd with rfl | ⟨h2, hd⟩
  · rw [if_pos (by decide)]
  · have t := dig_f hd
    rw [if_neg (fun z => by have := (I_le (a := 2) (by omega) (by omega)).mp z; omega)]
    simp only [hT.1, ha]
    by_cases h : a < len
    · have e3 := (hT.2.2 a h)
      rw [if_neg (fun z => by have := (I_le (by omega) (by omega)).mp z; omega)]
      simp only [r_2_1, r_2_2, k_2, n_2, k_3, n_3, k_4, n_4, gd, if_true, reduceIte, I_in (show a < 200 by omega) (show 200 < 1000000 by decide), I_ix (show a < 1000000 by omega), e3.1]
      by_cases h4 : c a < 48
      · rw [if_pos (show I (c a : Nat) < (48 : Int32) from (I_lt (b := 48) (by omega) (by omega)).mpr (by omega))]
      · rw [if_neg (fun z => by have := (I_lt (b := 48) (by omega) (by omega)).mp z; omega), if_pos (show (57 : Int32) < I (c a : Nat) from (I_lt (a := 57) (by omega) (by omega)).mpr (by omega))]
    · rw [if_pos (show I (len : Int) ≤ I (a : Int) from (I_le (by omega) (by omega)).mpr (by omega))]
theorem X_rn82 {g : Nat → Nat → Int32} {k x2 x3 : Nat} (hk : k < 3) (h2 : x2 ≤ 2) : f_X8_readNumber_82 (g, RF p q w v ds) 2 (I k) (I x2) (I x3) = some (if x2 = 0 then 0 else 1, (uc g 4 (upd (g 4) k (I x3)), RF p q w v ds)) := by
  unfold f_X8_readNumber_82
  simp only [r_2_1, r_2_2, k_2, n_2, k_3, n_3, k_4, n_4, gd, if_true, reduceIte, I_in (show k < 3 by omega) (show 3 < 1000000 by decide), I_ix (show k < 1000000 by omega), lt_w]
  by_cases h : x2 = 0
  · subst h; rw [if_pos (by decide), if_pos rfl]
  · rw [if_neg (fun z => by have := (I_le (b := 0) (by omega) (by omega)).mp z; omega), if_neg h]
theorem X_rn {g : Nat → Nat → Int32} {c : Nat → Nat} {len a k : Nat} (hk : k < 3) (hT : TX g c len) (ha : g 2 3 = I a) (ha2 : a ≤ 200) :
    ∃ g', f_X8_readNumber (g, RF p q w v ds) 2 (I k) = some (if dig c len a then 1 else 0, (g', RF p q w v ds)) ∧ XF g g' ∧ g' 2 3 = I ((a + (if dig c len a then (if dig c len (a + 1) then 2 else 1) else 0) : Nat) : Int) ∧ (dig c len a = true → g' 4 k = I ((if dig c len (a + 1) then 10 * (c a - 48) + (c (a + 1) - 48) else c a - 48 : Nat) : Int)) ∧ ∀ j, j ≠ k → g' 4 j = g 4 j := by
  obtain ⟨fu, hFU⟩ : ∃ fu, FU = fu + 3 := ⟨99997, rfl⟩
  have e0 : f_X8_readNumber (g, RF p q w v ds) 2 (I k) = f_X8_readNumber_4 (fu + 3) (g, RF p q w v ds) 2 (I k) (I ((0 : Nat) : Int)) (I ((0 : Nat) : Int)) := by
    unfold f_X8_readNumber
    rw [gd_t (show kd 2 = 8 from rfl), hFU]
    rfl
  rw [e0]
  by_cases d0 : dig c len a = true
  · have t0 := dig_t d0
    rw [X_rn1 hT ha d0 (by decide) (by decide)]
    have hf1 : XF g (uc g 2 (upd (g 2) 3 (I ((a + 1 : Nat) : Int)))) := XF.at
    generalize hg1 : uc g 2 (upd (g 2) 3 (I ((a + 1 : Nat) : Int))) = g1 at hf1 ⊢
    have a1 : g1 2 3 = I ((a + 1 : Nat) : Int) := by rw [← hg1, uc_s, upd_s]
    have e41 : g1 4 = g 4 := by rw [← hg1, uc_n (by decide)]
    simp only [if_pos d0]
    by_cases d1 : dig c len (a + 1) = true
    · have t1 := dig_t d1
      rw [X_rn1 (hT.f hf1) a1 d1 (by decide) (by omega)]
      have hf2 : XF g1 (uc g1 2 (upd (g1 2) 3 (I ((a + 1 + 1 : Nat) : Int)))) := XF.at
      generalize hg2 : uc g1 2 (upd (g1 2) 3 (I ((a + 1 + 1 : Nat) : Int))) = g2 at hf2 ⊢
      have a2 : g2 2 3 = I ((a + 1 + 1 : Nat) : Int) := by rw [← hg2, uc_s, upd_s]
      have e42 : g2 4 = g1 4 := by rw [← hg2, uc_n (by decide)]
      rw [X_rn0 ((hT.f hf1).f hf2) a2 (by omega) (Or.inl rfl), X_rn82 hk (by decide)]
      simp only [if_pos d1]
      refine ⟨_, rfl, (hf1.tr hf2).tr XF.told, by rw [uc_n (by decide)]; exact a2, fun _ => ?_, fun j hj => by rw [uc_s, upd_n hj, e42, e41]⟩
      rw [uc_s, upd_s]
      congr 2
      omega
    · rw [X_rn0 (hT.f hf1) a1 (by omega) (Or.inr ⟨by decide, Bool.eq_false_iff.mpr d1⟩), X_rn82 hk (by decide)]
      simp only [if_neg d1]
      refine ⟨_, rfl, hf1.tr XF.told, by rw [uc_n (by decide)]; exact a1, fun _ => ?_, fun j hj => by rw [uc_s, upd_n hj, e41]⟩
      rw [uc_s, upd_s]
      congr 2
      omega
  · rw [X_rn0 hT ha (by omega) (Or.inr ⟨by decide, Bool.eq_false_iff.mpr d0⟩), X_rn82 hk (by decide)]
    simp only [if_neg d0]
    exact ⟨_, rfl, XF.told, by rw [uc_n (by decide)]; exact ha, fun z => absurd z d0, fun j hj => by rw [uc_s, upd_n hj]⟩
theorem X_ri {c : Nat → Nat} {len n : Nat} (hn : 1 ≤ n ∧ n ≤ 3) : ∀ (r fu k a : Nat) (g : Nat → Nat → Int32), r < fu → k + r = n → TX g c len → g 2 3 = I a → a ≤ 200 →
    ∃ b g', f_X8_readItem_12 fu (g, RF p q w v ds) 2 (I n) (I k) = some (b, (g', RF p q w v ds)) ∧ XF g g' ∧ (∀ j, j < k → g' 4 j = g 4 j) ∧ (ags c len r a = none → b = 0) ∧ ∀ L e, ags c len r a = some (L, e) → b = 1 ∧ g' 2 3 = I e ∧ ∀ j, j < r → g' 4 (k + j) = I ((L.getD j 0 : Nat) : Int) := by
  intro r
  induction r with
  | zero =>
    intro fu k a g hf hk hT ha ha2
    obtain ⟨fu, rfl⟩ : ∃ k, fu = k + 1 := ⟨fu - 1, by omega⟩
    have : k = n := by omega
    subst this
    refine ⟨1, g, ?_, XF.rf, fun _ _ => rfl, fun z => (by cases z), fun L e h => ⟨rfl, ?_, fun j hj => absurd hj (by omega)⟩⟩
    · rw [f_X8_readItem_12]
      refine Eq.trans (if_pos ((I_le (by omega) (by omega)).mpr (by omega))) ?_
      unfold f_X8_readItem_89
      rw [if_neg (fun z => by have := (I_le (b := 0) (by omega) (by omega)).mp z; omega)]
    · have := congrArg Prod.snd (Option.some.inj h)
      simp only at this
      rw [ha, this]
  | succ r ih =>
    intro fu k a g hf hk hT ha ha2
    obtain ⟨fu, rfl⟩ : ∃ k, fu = k + 1 := ⟨fu - 1, by omega⟩
    have hlen := hT.2.1
    obtain ⟨g1, r1, r2, r3, r4, r5⟩ := X_rn (p := p) (q := q) (w := w) (v := v) (ds := ds) (k := k) (by omega) hT ha ha2
    have hT1 := hT.f r2
    obtain ⟨cnt, hcnt⟩ : ∃ cnt, cnt = (if dig c len a then (if dig c len (a + 1) then 2 else 1) else 0) := ⟨_, rfl⟩
    rw [← hcnt] at r3
    obtain ⟨s, hs⟩ : ∃ s, s = (if r = 0 then 59 else 44) := ⟨_, rfl⟩
    have e0 : f_X8_readItem_12 (fu + 1) (g, RF p q w v ds) 2 (I n) (I k) = if (if dig c len a then (1 : Int32) else 0) = 0 then some (0, (g1, RF p q w v ds)) else if I (len : Int) ≤ I ((a + cnt : Nat) : Int) then some (0, (g1, RF p q w v ds)) else gd (inr (I ((a + cnt : Nat) : Int)) 200 = true) (f_X8_readItem_68 (f_X8_readItem_12 fu) (g1, RF p q w v ds) 2 (I n) (I k) (g1 3 (I ((a + cnt : Nat) : Int)).toNatClampNeg) (I s)) := by
      simp only [f_X8_readItem_12]
      generalize f_X8_readItem_12 fu = lf
      revert r1
      generalize f_X8_readNumber = rn
      intro r1
      rw [if_neg (fun z => by have := (I_le (by omega) (by omega)).mp z; omega)]
      simp only [r_2_1, r_2_2, k_2, n_2, k_3, n_3, k_4, n_4, gd, if_true, reduceIte, I_nI]
      rw [if_neg (fun z => by have := (I_le (by omega) (by omega)).mp z; omega), r1, bd_w]
      simp only [hT1.1, r3, r_2_1, r_2_2, k_2, n_2, k_3, n_3, k_4, n_4, if_true, reduceIte]
      rw [I_p hn.1]
      by_cases c0 : r = 0
      · rw [if_pos (show I ((n - 1 : Nat) : Int) ≤ I (k : Int) from (I_le (by omega) (by omega)).mpr (by omega)), hs, if_pos c0]; rfl
      · rw [if_neg (show ¬ I ((n - 1 : Nat) : Int) ≤ I (k : Int) from fun z => by have := (I_le (by omega) (by omega)).mp z; omega), hs, if_neg c0]; rfl
    rw [e0, ags_s, ← hs]
    by_cases d0 : dig c len a = true
    · have t0 := dig_t d0
      rw [if_neg (by rw [if_pos d0]; decide)]
      have hc12 : cnt = 1 ∨ cnt = 2 := by
        rw [hcnt, if_pos d0]
        by_cases d1 : dig c len (a + 1) = true
        · rw [if_pos d1]; exact Or.inr rfl
        · rw [if_neg d1]; exact Or.inl rfl
      obtain ⟨x, hx⟩ : ∃ x, x = (if dig c len (a + 1) then 10 * (c a - 48) + (c (a + 1) - 48) else c a - 48) := ⟨_, rfl⟩
      have hr4 := r4 d0
      rw [← hx] at hr4
      have hnm : nms c len a s = if a + cnt < len ∧ c (a + cnt) = s then some (x, a + cnt + 1) else none := by
        unfold nms
        rw [if_pos d0]
        rw [if_pos d0] at hcnt
        by_cases d1 : dig c len (a + 1) = true
        · rw [if_pos d1] at hcnt hx ⊢
          rw [hcnt, hx]
        · rw [if_neg d1] at hcnt hx ⊢
          rw [hcnt, hx]
      by_cases hsep : a + cnt < len ∧ c (a + cnt) = s
      · rw [hnm, if_pos hsep]
        rw [if_neg (fun z => by have := (I_le (by omega) (by omega)).mp z; omega), gd_t (I_in (show a + cnt < 200 by omega) (by decide)), I_ix (show a + cnt < 1000000 by omega), (hT1.2.2 _ hsep.1).1, hsep.2]
        have hf2 : XF g1 (uc g1 2 (upd (g1 2) 3 (I ((a + cnt + 1 : Nat) : Int)))) := XF.at
        obtain ⟨g2, hg2⟩ : ∃ g2, g2 = uc g1 2 (upd (g1 2) 3 (I ((a + cnt + 1 : Nat) : Int))) := ⟨_, rfl⟩
        rw [← hg2] at hf2
        obtain ⟨b, g', q1, q2, q3, q4, q5⟩ := ih fu (k + 1) (a + cnt + 1) g2 (by omega) (by omega) (hT1.f hf2) (by rw [hg2, uc_s, upd_s]) (by omega)
        have e42 : g2 4 = g1 4 := by rw [hg2, uc_n (by decide)]
        refine ⟨b, g', ?_, (r2.tr hf2).tr q2, fun j hj => by rw [q3 j (by omega), e42, r5 j (by omega)], fun hz => ?_, fun L e hz => ?_⟩
        · unfold f_X8_readItem_68
          rw [if_pos rfl]
          simp only [r3]
          rw [lt_w, I_s, I_s, ← hg2]
          exact q1
        · apply q4
          cases hq : ags c len r (a + cnt + 1) with
          | none => rfl
          | some y => simp only [Option.bind, hq, Option.map] at hz; cases hz
        · cases hq : ags c len r (a + cnt + 1) with
          | none => simp only [Option.bind, hq, Option.map] at hz; cases hz
          | some y =>
            obtain ⟨L', e'⟩ := y
            simp only [Option.bind, hq, Option.map] at hz
            have hz := Option.some.inj hz
            have y1 := congrArg Prod.fst hz
            have y2 := congrArg Prod.snd hz
            simp only at y1 y2
            subst y1 y2
            obtain ⟨z1, z2, z3⟩ := q5 L' e' hq
            refine ⟨z1, z2, fun j hj => ?_⟩
            cases j with
            | zero => rw [Nat.add_zero, q3 k (by omega), e42, hr4]; rfl
            | succ j => rw [show k + (j + 1) = k + 1 + j by omega, z3 j (by omega)]; rfl
      · rw [hnm, if_neg hsep]
        refine ⟨0, g1, ?_, r2, fun j hj => r5 j (by omega), fun _ => rfl, fun L e hz => by cases hz⟩
        by_cases hl : a + cnt < len
        · rw [if_neg (fun z => by have := (I_le (by omega) (by omega)).mp z; omega), gd_t (I_in (show a + cnt < 200 by omega) (by decide)), I_ix (show a + cnt < 1000000 by omega), (hT1.2.2 _ hl).1]
          unfold f_X8_readItem_68
          have := (hT1.2.2 _ hl).2
          have hs2 : s = 59 ∨ s = 44 := by rw [hs]; split <;> omega
          rw [if_neg (fun z => hsep ⟨hl, by have := (I_inj (by omega) (by omega)).mp z; omega⟩)]
        · rw [if_pos (show I (len : Int) ≤ I ((a + cnt : Nat) : Int) from (I_le (by omega) (by omega)).mpr (by omega))]
    · have hnm : nms c len a s = none := by unfold nms; rw [if_neg d0]
      rw [hnm]
      exact ⟨0, g1, by rw [if_pos (by rw [if_neg d0])], r2, fun j hj => r5 j (by omega), fun _ => rfl, fun L e hz => by cases hz⟩
end T
