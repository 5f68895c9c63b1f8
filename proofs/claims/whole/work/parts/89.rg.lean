/-! the class's reading before the reference is made -/
def RG : Nat → Nat → Nat := fun a k => if a < 83 then rho0 a k else 0
theorem t_1_0 : RG 1 0 = 2 := rfl
theorem t_1_1 : RG 1 1 = 5 := rfl
theorem t_1_2 : RG 1 2 = 9 := rfl
theorem t_1_3 : RG 1 3 = 13 := rfl
theorem t_1_4 : RG 1 4 = 16 := rfl
theorem t_1_5 : RG 1 5 = 42 := rfl
theorem t_1_6 : RG 1 6 = 50 := rfl
theorem t_1_7 : RG 1 7 = 53 := rfl
theorem t_1_8 : RG 1 8 = 58 := rfl
theorem t_1_9 : RG 1 9 = 61 := rfl
theorem t_1_10 : RG 1 10 = 75 := rfl
theorem t_1_11 : RG 1 11 = 78 := rfl
theorem t_2_1 : RG 2 1 = 3 := rfl
theorem t_2_2 : RG 2 2 = 4 := rfl
theorem t_5_5 : RG 5 5 = 6 := rfl
theorem t_5_6 : RG 5 6 = 7 := rfl
theorem t_5_7 : RG 5 7 = 8 := rfl
theorem t_9_5 : RG 9 5 = 10 := rfl
theorem t_9_6 : RG 9 6 = 11 := rfl
theorem t_9_7 : RG 9 7 = 12 := rfl
theorem t_13_0 : RG 13 0 = 14 := rfl
theorem t_13_1 : RG 13 1 = 15 := rfl
theorem t_16_1 : RG 16 1 = 17 := rfl
theorem t_17_0 : RG 17 0 = 18 := rfl
theorem t_17_1 : RG 17 1 = 21 := rfl
theorem t_17_2 : RG 17 2 = 24 := rfl
theorem t_17_3 : RG 17 3 = 27 := rfl
theorem t_17_4 : RG 17 4 = 30 := rfl
theorem t_17_5 : RG 17 5 = 33 := rfl
theorem t_17_6 : RG 17 6 = 36 := rfl
theorem t_17_7 : RG 17 7 = 39 := rfl
theorem t_18_0 : RG 18 0 = 19 := rfl
theorem t_18_1 : RG 18 1 = 20 := rfl
theorem t_21_0 : RG 21 0 = 22 := rfl
theorem t_21_1 : RG 21 1 = 23 := rfl
theorem t_24_0 : RG 24 0 = 25 := rfl
theorem t_24_1 : RG 24 1 = 26 := rfl
theorem t_27_0 : RG 27 0 = 28 := rfl
theorem t_27_1 : RG 27 1 = 29 := rfl
theorem t_30_0 : RG 30 0 = 31 := rfl
theorem t_30_1 : RG 30 1 = 32 := rfl
theorem t_33_0 : RG 33 0 = 34 := rfl
theorem t_33_1 : RG 33 1 = 35 := rfl
theorem t_36_0 : RG 36 0 = 37 := rfl
theorem t_36_1 : RG 36 1 = 38 := rfl
theorem t_39_0 : RG 39 0 = 40 := rfl
theorem t_39_1 : RG 39 1 = 41 := rfl
theorem t_42_1 : RG 42 1 = 43 := rfl
theorem t_43_0 : RG 43 0 = 44 := rfl
theorem t_43_1 : RG 43 1 = 47 := rfl
theorem t_44_0 : RG 44 0 = 45 := rfl
theorem t_44_1 : RG 44 1 = 46 := rfl
theorem t_47_0 : RG 47 0 = 48 := rfl
theorem t_47_1 : RG 47 1 = 49 := rfl
theorem t_50_1 : RG 50 1 = 51 := rfl
theorem t_50_2 : RG 50 2 = 52 := rfl
theorem t_53_2 : RG 53 2 = 54 := rfl
theorem t_53_3 : RG 53 3 = 55 := rfl
theorem t_53_4 : RG 53 4 = 56 := rfl
theorem t_53_5 : RG 53 5 = 57 := rfl
theorem t_58_0 : RG 58 0 = 59 := rfl
theorem t_58_1 : RG 58 1 = 60 := rfl
theorem t_61_0 : RG 61 0 = 62 := rfl
theorem t_61_1 : RG 61 1 = 68 := rfl
theorem t_61_2 : RG 61 2 = 69 := rfl
theorem t_61_3 : RG 61 3 = 70 := rfl
theorem t_61_4 : RG 61 4 = 71 := rfl
theorem t_61_5 : RG 61 5 = 72 := rfl
theorem t_61_6 : RG 61 6 = 73 := rfl
theorem t_61_7 : RG 61 7 = 74 := rfl
theorem t_62_4 : RG 62 4 = 63 := rfl
theorem t_62_5 : RG 62 5 = 64 := rfl
theorem t_62_6 : RG 62 6 = 65 := rfl
theorem t_62_7 : RG 62 7 = 66 := rfl
theorem t_62_8 : RG 62 8 = 67 := rfl
theorem t_75_5 : RG 75 5 = 76 := rfl
theorem t_75_6 : RG 75 6 = 77 := rfl
theorem t_78_5 : RG 78 5 = 79 := rfl
theorem t_78_6 : RG 78 6 = 61 := rfl
theorem t_78_7 : RG 78 7 = 80 := rfl
theorem t_78_8 : RG 78 8 = 81 := rfl
theorem t_78_9 : RG 78 9 = 82 := rfl
section T
variable {g : Nat → Nat → Int32}
theorem Y_isNumber {c M : Nat → Int32} {a n : Nat} (hk : kd a = 4) (h0 : g a 0 = I n) (hn : n ≤ 24) (x : Int32) : f_X4_isNumber (g, RG) a x = some (if 1 ≤ x.toInt ∧ x.toInt ≤ n then 1 else 0, (g, RG)) := by
  have b := I_bd x
  unfold f_X4_isNumber
  simp only [hk, gd, lt, bd_s, if_true, if_false, reduceIte, si_uc, uc_s, uc_n, upd_s, upd_n, Nat.reduceEqDiff, ne_eq, not_false_eq_true, not_true_eq_false, h0]
  rw [I_of x]
  have e1 : (I x.toInt < (1 : Int32)) = (x.toInt < 1) := propext (I_lt (b := 1) (by omega) (by omega))
  have e2 : (I (n : Int) < I x.toInt) = ((n : Int) < x.toInt) := propext (I_lt (by omega) (by omega))
  rw [I_toInt b.1 b.2]
  simp only [e1, e2]
  by_cases c1 : x.toInt < 1
  · rw [if_pos c1, if_neg (by omega)]
  · rw [if_neg c1]
    by_cases c2 : (n : Int) < x.toInt
    · rw [if_pos c2, if_neg (by omega)]
    · rw [if_neg c2, if_pos (by omega)]
theorem Y_isPerson {a np : Nat} (hk : kd a = 4) (h0 : g a 1 = I np) (hn : np ≤ 6) (x : Int32) : f_X4_isPerson (g, RG) a x = some (if 0 ≤ x.toInt ∧ x.toInt < np then 1 else 0, (g, RG)) := by
  have b := I_bd x
  unfold f_X4_isPerson
  simp only [hk, gd, lt, bd_s, if_true, if_false, reduceIte, si_uc, uc_s, uc_n, upd_s, upd_n, Nat.reduceEqDiff, ne_eq, not_false_eq_true, not_true_eq_false, h0]
  rw [I_of x]
  have e1 : (I x.toInt < (0 : Int32)) = (x.toInt < 0) := propext (I_lt (b := 0) (by omega) (by omega))
  have e2 : (I (np : Int) ≤ I x.toInt) = ((np : Int) ≤ x.toInt) := propext (I_le (by omega) (by omega))
  rw [I_toInt b.1 b.2]
  simp only [e1, e2]
  by_cases c1 : x.toInt < 0
  · rw [if_pos c1, if_neg (by omega)]
  · rw [if_neg c1]
    by_cases c2 : (np : Int) ≤ x.toInt
    · rw [if_pos c2, if_neg (by omega)]
    · rw [if_neg c2, if_pos (by omega)]
end T
section T
theorem Y_rn1 {g : Nat → Nat → Int32} {c : Nat → Nat} {len a x2 x3 fu : Nat} {kk : Int32} (hT : TX g c len) (ha : g 2 3 = I a) (hd : dig c len a = true) (h2 : x2 < 2) (h3 : x3 ≤ 99) :
    f_X8_readNumber_4 (fu + 1) (g, RG) 2 kk (I x2) (I x3) = f_X8_readNumber_4 fu (uc g 2 (upd (g 2) 3 (I ((a + 1 : Nat) : Int))), RG) 2 kk (I ((x2 + 1 : Nat) : Int)) (I ((10 * x3 + (c a - 48) : Nat) : Int)) := by
  have t := dig_t hd
  have hl := hT.2.1
  have e3 := (hT.2.2 a t.1).1
  have ev : I (x3 : Int) * 10 + (I (c a : Nat) - 48) = I ((10 * x3 + (c a - 48) : Nat) : Int) := by
    rw [show (10 : Int32) = I 10 from rfl, show (48 : Int32) = I 48 from rfl, I_mul, I_sub, I_add]; congr 1; omega
  simp only [f_X8_readNumber_4]
  rw [if_neg (fun z => by have := (I_le (a := 2) (by omega) (by omega)).mp z; omega)]
  simp only [hT.1, ha]
  rw [if_neg (fun z => by have := (I_le (by omega) (by omega)).mp z; omega)]
  simp only [t_2_1, t_2_2, k_2, n_2, k_3, n_3, k_4, n_4, gd, if_true, reduceIte, I_in (show a < 200 by omega) (show 200 < 1000000 by decide), I_ix (show a < 1000000 by omega), e3]
  rw [if_neg (fun z => by have := (I_lt (b := 48) (by omega) (by omega)).mp z; omega), if_neg (fun z => by have := (I_lt (a := 57) (by omega) (by omega)).mp z; omega), lt_w, I_s, I_s, ev]
theorem Y_rn0 {g : Nat → Nat → Int32} {c : Nat → Nat} {len a x2 x3 fu : Nat} {kk : Int32} (hT : TX g c len) (ha : g 2 3 = I a) (ha2 : a ≤ 1000) (hd : x2 = 2 ∨ (x2 < 2 ∧ dig c len a = false)) :
    f_X8_readNumber_4 (fu + 1) (g, RG) 2 kk (I x2) (I x3) = f_X8_readNumber_82 (g, RG) 2 kk (I x2) (I x3) := by
  have hl := hT.2.1
  simp only [f_X8_readNumber_4]
  rcases hd with rfl | ⟨h2, hd⟩
  · rw [if_pos (by decide)]
  · have t := dig_f hd
    rw [if_neg (fun z => by have := (I_le (a := 2) (by omega) (by omega)).mp z; omega)]
    simp only [hT.1, ha]
    by_cases h : a < len
    · have e3 := (hT.2.2 a h)
      rw [if_neg (fun z => by have := (I_le (by omega) (by omega)).mp z; omega)]
      simp only [t_2_1, t_2_2, k_2, n_2, k_3, n_3, k_4, n_4, gd, if_true, reduceIte, I_in (show a < 200 by omega) (show 200 < 1000000 by decide), I_ix (show a < 1000000 by omega), e3.1]
      by_cases h4 : c a < 48
      · rw [if_pos (show I (c a : Nat) < (48 : Int32) from (I_lt (b := 48) (by omega) (by omega)).mpr (by omega))]
      · rw [if_neg (fun z => by have := (I_lt (b := 48) (by omega) (by omega)).mp z; omega), if_pos (show (57 : Int32) < I (c a : Nat) from (I_lt (a := 57) (by omega) (by omega)).mpr (by omega))]
    · rw [if_pos (show I (len : Int) ≤ I (a : Int) from (I_le (by omega) (by omega)).mpr (by omega))]
theorem Y_rn82 {g : Nat → Nat → Int32} {k x2 x3 : Nat} (hk : k < 3) (h2 : x2 ≤ 2) : f_X8_readNumber_82 (g, RG) 2 (I k) (I x2) (I x3) = some (if x2 = 0 then 0 else 1, (uc g 4 (upd (g 4) k (I x3)), RG)) := by
  unfold f_X8_readNumber_82
  simp only [t_2_1, t_2_2, k_2, n_2, k_3, n_3, k_4, n_4, gd, if_true, reduceIte, I_in (show k < 3 by omega) (show 3 < 1000000 by decide), I_ix (show k < 1000000 by omega), lt_w]
  by_cases h : x2 = 0
  · subst h; rw [if_pos (by decide), if_pos rfl]
  · rw [if_neg (fun z => by have := (I_le (b := 0) (by omega) (by omega)).mp z; omega), if_neg h]
theorem Y_rn {g : Nat → Nat → Int32} {c : Nat → Nat} {len a k : Nat} (hk : k < 3) (hT : TX g c len) (ha : g 2 3 = I a) (ha2 : a ≤ 200) :
    ∃ g', f_X8_readNumber (g, RG) 2 (I k) = some (if dig c len a then 1 else 0, (g', RG)) ∧ XF g g' ∧ g' 2 3 = I ((a + (if dig c len a then (if dig c len (a + 1) then 2 else 1) else 0) : Nat) : Int) ∧ (dig c len a = true → g' 4 k = I ((if dig c len (a + 1) then 10 * (c a - 48) + (c (a + 1) - 48) else c a - 48 : Nat) : Int)) ∧ ∀ j, j ≠ k → g' 4 j = g 4 j := by
  obtain ⟨fu, hFU⟩ : ∃ fu, FU = fu + 3 := ⟨99997, rfl⟩
  have e0 : f_X8_readNumber (g, RG) 2 (I k) = f_X8_readNumber_4 (fu + 3) (g, RG) 2 (I k) (I ((0 : Nat) : Int)) (I ((0 : Nat) : Int)) := by
    unfold f_X8_readNumber
    rw [gd_t (show kd 2 = 8 from rfl), hFU]
    rfl
  rw [e0]
  by_cases d0 : dig c len a = true
  · have t0 := dig_t d0
    rw [Y_rn1 hT ha d0 (by decide) (by decide)]
    have hf1 : XF g (uc g 2 (upd (g 2) 3 (I ((a + 1 : Nat) : Int)))) := XF.at
    generalize hg1 : uc g 2 (upd (g 2) 3 (I ((a + 1 : Nat) : Int))) = g1 at hf1 ⊢
    have a1 : g1 2 3 = I ((a + 1 : Nat) : Int) := by rw [← hg1, uc_s, upd_s]
    have e41 : g1 4 = g 4 := by rw [← hg1, uc_n (by decide)]
    simp only [if_pos d0]
    by_cases d1 : dig c len (a + 1) = true
    · have t1 := dig_t d1
      rw [Y_rn1 (hT.f hf1) a1 d1 (by decide) (by omega)]
      have hf2 : XF g1 (uc g1 2 (upd (g1 2) 3 (I ((a + 1 + 1 : Nat) : Int)))) := XF.at
      generalize hg2 : uc g1 2 (upd (g1 2) 3 (I ((a + 1 + 1 : Nat) : Int))) = g2 at hf2 ⊢
      have a2 : g2 2 3 = I ((a + 1 + 1 : Nat) : Int) := by rw [← hg2, uc_s, upd_s]
      have e42 : g2 4 = g1 4 := by rw [← hg2, uc_n (by decide)]
      rw [Y_rn0 ((hT.f hf1).f hf2) a2 (by omega) (Or.inl rfl), Y_rn82 hk (by decide)]
      simp only [if_pos d1]
      refine ⟨_, rfl, (hf1.tr hf2).tr XF.told, by rw [uc_n (by decide)]; exact a2, fun _ => ?_, fun j hj => by rw [uc_s, upd_n hj, e42, e41]⟩
      rw [uc_s, upd_s]
      congr 2
      omega
    · rw [Y_rn0 (hT.f hf1) a1 (by omega) (Or.inr ⟨by decide, Bool.eq_false_iff.mpr d1⟩), Y_rn82 hk (by decide)]
      simp only [if_neg d1]
      refine ⟨_, rfl, hf1.tr XF.told, by rw [uc_n (by decide)]; exact a1, fun _ => ?_, fun j hj => by rw [uc_s, upd_n hj, e41]⟩
      rw [uc_s, upd_s]
      congr 2
      omega
  · rw [Y_rn0 hT ha (by omega) (Or.inr ⟨by decide, Bool.eq_false_iff.mpr d0⟩), Y_rn82 hk (by decide)]
    simp only [if_neg d0]
    exact ⟨_, rfl, XF.told, by rw [uc_n (by decide)]; exact ha, fun z => absurd z d0, fun j hj => by rw [uc_s, upd_n hj]⟩
theorem Y_ri {c : Nat → Nat} {len n : Nat} (hn : 1 ≤ n ∧ n ≤ 3) : ∀ (r fu k a : Nat) (g : Nat → Nat → Int32), r < fu → k + r = n → TX g c len → g 2 3 = I a → a ≤ 200 →
    ∃ b g', f_X8_readItem_12 fu (g, RG) 2 (I n) (I k) = some (b, (g', RG)) ∧ XF g g' ∧ (∀ j, j < k → g' 4 j = g 4 j) ∧ (ags c len r a = none → b = 0) ∧ ∀ L e, ags c len r a = some (L, e) → b = 1 ∧ g' 2 3 = I e ∧ ∀ j, j < r → g' 4 (k + j) = I ((L.getD j 0 : Nat) : Int) := by
  intro r
  induction r with
  | zero =>
    intro fu k a g hf hk hT ha ha2
    obtain ⟨fu, rfl⟩ : ∃ k, fu = k + 1 := ⟨fu - 1, by omega⟩
    have : k = n := by omega
    subst this
    refine ⟨1, g, ?_, XF.rf, fun _ _ => rfl, fun z => (by cases z), fun L e h => ⟨rfl, ?_, fun j hj => absurd hj (by omega)⟩⟩
    · rw [f_X8_readItem_12]
      refine Eq.trans (if_pos ((I_le (by omega) (by omega)).mpr (by omega))) ?_
      unfold f_X8_readItem_89
      rw [if_neg (fun z => by have := (I_le (b := 0) (by omega) (by omega)).mp z; omega)]
    · have := congrArg Prod.snd (Option.some.inj h)
      simp only at this
      rw [ha, this]
  | succ r ih =>
    intro fu k a g hf hk hT ha ha2
    obtain ⟨fu, rfl⟩ : ∃ k, fu = k + 1 := ⟨fu - 1, by omega⟩
    have hlen := hT.2.1
    obtain ⟨g1, r1, r2, r3, r4, r5⟩ := Y_rn  (k := k) (by omega) hT ha ha2
    have hT1 := hT.f r2
    obtain ⟨cnt, hcnt⟩ : ∃ cnt, cnt = (if dig c len a then (if dig c len (a + 1) then 2 else 1) else 0) := ⟨_, rfl⟩
    rw [← hcnt] at r3
    obtain ⟨s, hs⟩ : ∃ s, s = (if r = 0 then 59 else 44) := ⟨_, rfl⟩
    have e0 : f_X8_readItem_12 (fu + 1) (g, RG) 2 (I n) (I k) = if (if dig c len a then (1 : Int32) else 0) = 0 then some (0, (g1, RG)) else if I (len : Int) ≤ I ((a + cnt : Nat) : Int) then some (0, (g1, RG)) else gd (inr (I ((a + cnt : Nat) : Int)) 200 = true) (f_X8_readItem_68 (f_X8_readItem_12 fu) (g1, RG) 2 (I n) (I k) (g1 3 (I ((a + cnt : Nat) : Int)).toNatClampNeg) (I s)) := by
      simp only [f_X8_readItem_12]
      generalize f_X8_readItem_12 fu = lf
      revert r1
      generalize f_X8_readNumber = rn
      intro r1
      rw [if_neg (fun z => by have := (I_le (by omega) (by omega)).mp z; omega)]
      simp only [t_2_1, t_2_2, k_2, n_2, k_3, n_3, k_4, n_4, gd, if_true, reduceIte, I_nI]
      rw [if_neg (fun z => by have := (I_le (by omega) (by omega)).mp z; omega), r1, bd_w]
      simp only [hT1.1, r3, t_2_1, t_2_2, k_2, n_2, k_3, n_3, k_4, n_4, if_true, reduceIte]
      rw [I_p hn.1]
      by_cases c0 : r = 0
      · rw [if_pos (show I ((n - 1 : Nat) : Int) ≤ I (k : Int) from (I_le (by omega) (by omega)).mpr (by omega)), hs, if_pos c0]; rfl
      · rw [if_neg (show ¬ I ((n - 1 : Nat) : Int) ≤ I (k : Int) from fun z => by have := (I_le (by omega) (by omega)).mp z; omega), hs, if_neg c0]; rfl
    rw [e0, ags_s, ← hs]
    by_cases d0 : dig c len a = true
    · have t0 := dig_t d0
      rw [if_neg (by rw [if_pos d0]; decide)]
      have hc12 : cnt = 1 ∨ cnt = 2 := by
        rw [hcnt, if_pos d0]
        by_cases d1 : dig c len (a + 1) = true
        · rw [if_pos d1]; exact Or.inr rfl
        · rw [if_neg d1]; exact Or.inl rfl
      obtain ⟨x, hx⟩ : ∃ x, x = (if dig c len (a + 1) then 10 * (c a - 48) + (c (a + 1) - 48) else c a - 48) := ⟨_, rfl⟩
      have hr4 := r4 d0
      rw [← hx] at hr4
      have hnm : nms c len a s = if a + cnt < len ∧ c (a + cnt) = s then some (x, a + cnt + 1) else none := by
        unfold nms
        rw [if_pos d0]
        rw [if_pos d0] at hcnt
        by_cases d1 : dig c len (a + 1) = true
        · rw [if_pos d1] at hcnt hx ⊢
          rw [hcnt, hx]
        · rw [if_neg d1] at hcnt hx ⊢
          rw [hcnt, hx]
      by_cases hsep : a + cnt < len ∧ c (a + cnt) = s
      · rw [hnm, if_pos hsep]
        rw [if_neg (fun z => by have := (I_le (by omega) (by omega)).mp z; omega), gd_t (I_in (show a + cnt < 200 by omega) (by decide)), I_ix (show a + cnt < 1000000 by omega), (hT1.2.2 _ hsep.1).1, hsep.2]
        have hf2 : XF g1 (uc g1 2 (upd (g1 2) 3 (I ((a + cnt + 1 : Nat) : Int)))) := XF.at
        obtain ⟨g2, hg2⟩ : ∃ g2, g2 = uc g1 2 (upd (g1 2) 3 (I ((a + cnt + 1 : Nat) : Int))) := ⟨_, rfl⟩
        rw [← hg2] at hf2
        obtain ⟨b, g', q1, q2, q3, q4, q5⟩ := ih fu (k + 1) (a + cnt + 1) g2 (by omega) (by omega) (hT1.f hf2) (by rw [hg2, uc_s, upd_s]) (by omega)
        have e42 : g2 4 = g1 4 := by rw [hg2, uc_n (by decide)]
        refine ⟨b, g', ?_, (r2.tr hf2).tr q2, fun j hj => by rw [q3 j (by omega), e42, r5 j (by omega)], fun hz => ?_, fun L e hz => ?_⟩
        · unfold f_X8_readItem_68
          rw [if_pos rfl]
          simp only [r3]
          rw [lt_w, I_s, I_s, ← hg2]
          exact q1
        · apply q4
          cases hq : ags c len r (a + cnt + 1) with
          | none => rfl
          | some y => simp only [Option.bind, hq, Option.map] at hz; cases hz
        · cases hq : ags c len r (a + cnt + 1) with
          | none => simp only [Option.bind, hq, Option.map] at hz; cases hz
          | some y =>
            obtain ⟨L', e'⟩ := y
            simp only [Option.bind, hq, Option.map] at hz
            have hz := Option.some.inj hz
            have y1 := congrArg Prod.fst hz
            have y2 := congrArg Prod.snd hz
            simp only at y1 y2
            subst y1 y2
            obtain ⟨z1, z2, z3⟩ := q5 L' e' hq
            refine ⟨z1, z2, fun j hj => ?_⟩
            cases j with
            | zero => rw [Nat.add_zero, q3 k (by omega), e42, hr4]; rfl
            | succ j => rw [show k + (j + 1) = k + 1 + j by omega, z3 j (by omega)]; rfl
      · rw [hnm, if_neg hsep]
        refine ⟨0, g1, ?_, r2, fun j hj => r5 j (by omega), fun _ => rfl, fun L e hz => by cases hz⟩
        by_cases hl : a + cnt < len
        · rw [if_neg (fun z => by have := (I_le (by omega) (by omega)).mp z; omega), gd_t (I_in (show a + cnt < 200 by omega) (by decide)), I_ix (show a + cnt < 1000000 by omega), (hT1.2.2 _ hl).1]
          unfold f_X8_readItem_68
          have := (hT1.2.2 _ hl).2
          have hs2 : s = 59 ∨ s = 44 := by rw [hs]; split <;> omega
          rw [if_neg (fun z => hsep ⟨hl, by have := (I_inj (by omega) (by omega)).mp z; omega⟩)]
        · rw [if_pos (show I (len : Int) ≤ I ((a + cnt : Nat) : Int) from (I_le (by omega) (by omega)).mpr (by omega))]
    · have hnm : nms c len a s = none := by unfold nms; rw [if_neg d0]
      rw [hnm]
      exact ⟨0, g1, by rw [if_pos (by rw [if_neg d0])], r2, fun j hj => r5 j (by omega), fun _ => rfl, fun L e hz => by cases hz⟩
end T
section T
theorem Prg {a : Nat} (ha : a = 5 ∨ a = 9)  : RG a 5 = a + 1 ∧ RG a 6 = a + 2 ∧ RG a 7 = a + 3 := by rcases ha with rfl | rfl <;> exact ⟨rfl, rfl, rfl⟩
theorem Y_so_lp {a o : Nat} (ha : a = 5 ∨ a = 9) (ho : o < 6) {B : Int32} : ∀ (r fu i : Nat) (g : Nat → Nat → Int32), r < fu → i + r = 6 →
    ∃ g', f_X4_setOwner_27 fu (g, RG) a (I o) B (I i) = some (1, (g', RG)) ∧ Sb [a + 2] g g' ∧ ∀ j, j < 6 → g' (a + 2) j = if j = o then (if i ≤ j then g (a + 2) j &&& (B ^^^ (-1)) else g (a + 2) j) ||| B else (if i ≤ j then g (a + 2) j &&& (B ^^^ (-1)) else g (a + 2) j) := by
  obtain ⟨ka, k1, k2, k3, l1, l2, l3⟩ := Pk ha
  obtain ⟨r5, r6, r7⟩ := Prg ha
  intro r
  induction r with
  | zero =>
    intro fu i g hf hi
    obtain ⟨fu, rfl⟩ : ∃ k, fu = k + 1 := ⟨fu - 1, by omega⟩
    have : i = 6 := by omega
    subst this
    refine ⟨uc g (a + 2) (upd (g (a + 2)) o (g (a + 2) o ||| B)), ?_, Sb.rf.uc (by simp), fun j hj => ?_⟩
    · simp only [f_X4_setOwner_27]
      rw [if_pos (by decide)]
      simp only [r6, k2, l2, gd, if_true, reduceIte, I_in (show o < 6 by omega) (show 6 < 1000000 by decide), I_ix (show o < 1000000 by omega), lt_w]
    · rw [uc_s]
      by_cases c : j = o
      · subst c; rw [upd_s, if_pos rfl, if_neg (by omega)]
      · rw [upd_n c, if_neg c, if_neg (by omega)]
  | succ r ih =>
    intro fu i g hf hi
    obtain ⟨fu, rfl⟩ : ∃ k, fu = k + 1 := ⟨fu - 1, by omega⟩
    obtain ⟨g', e, s', h'⟩ := ih fu (i + 1) (uc g (a + 2) (upd (g (a + 2)) i (g (a + 2) i &&& (B ^^^ (-1))))) (by omega) (by omega)
    refine ⟨g', ?_, fun b hb => by rw [s' b hb, uc_n (fun z => hb (by rw [z]; simp))], fun j hj => ?_⟩
    · rw [← e]
      simp only [f_X4_setOwner_27]
      rw [if_neg (fun z => by have := (I_le (a := 6) (by omega) (by omega)).mp z; omega)]
      simp only [r6, k2, l2, gd, if_true, reduceIte, I_in (show i < 6 by omega) (show 6 < 1000000 by decide), I_ix (show i < 1000000 by omega), lt_w, I_s]
    · rw [h' j hj, uc_s]
      have : (if i + 1 ≤ j then upd (g (a + 2)) i (g (a + 2) i &&& (B ^^^ (-1))) j &&& (B ^^^ (-1)) else upd (g (a + 2)) i (g (a + 2) i &&& (B ^^^ (-1))) j) = (if i ≤ j then g (a + 2) j &&& (B ^^^ (-1)) else g (a + 2) j) := by
        by_cases c : j = i
        · subst c; rw [if_neg (by omega), if_pos (Nat.le_refl _), upd_s]
        · rw [upd_n c]
          by_cases c2 : i + 1 ≤ j
          · rw [if_pos c2, if_pos (by omega)]
          · rw [if_neg c2, if_neg (by omega)]
      rw [this]
theorem Y_acc {a ch l0 l1 l2 : Nat} {on : Bool} {M : Nat → Int32} {n np kind : Nat} {g : Nat → Nat → Int32} (ha : a = 5 ∨ a = 9) (hM : PW M n np kind) (hR : PRg g a M) (hon : g 2 4 = if on then 1 else 0) (hch : ch < 128) (hl : l0 ≤ 99 ∧ l1 ≤ 99 ∧ l2 ≤ 99) (h0 : g 4 0 = I l0) (h1 : 2 ≤ nbh ch → g 4 1 = I l1) (h2 : 3 ≤ nbh ch → g 4 2 = I l2) :
    ∃ b g', f_X8_accept (g, RG) 2 (I ch) a = some (b, (g', RG)) ∧ Sb [a, a + 1, a + 2, a + 3] g g' ∧ (acc ch l0 l1 l2 on M = none → b = 0) ∧ ∀ M', acc ch l0 l1 l2 on M = some M' → b = 1 ∧ PRg g' a M' := by
  obtain ⟨ka, k1, k2, k3, z1, z2, z3⟩ := Pk ha
  obtain ⟨r5, r6, r7⟩ := Prg ha
  obtain ⟨p1, p2, p3, p4, p5, p6, ⟨ll, p7, p7'⟩, ⟨lh, p8, p8'⟩, p9, p10, p11⟩ := hM
  have en : (M 0).toNatClampNeg = n := by rw [p1]; exact I_ix (by omega)
  have enp : (M 1).toNatClampNeg = np := by rw [p3]; exact I_ix (by omega)
  have a0 : g a 0 = I n := by rw [hR.1 0 (by decide)]; exact p1
  have a1 : g a 1 = I np := by rw [hR.1 1 (by decide)]; exact p3
  have nI : ∀ m : Nat, m < 128 → ∀ k : Nat, k < 128 → m ≠ k → ¬ I (m : Int) = I (k : Int) := fun m hm k hk hne z => hne (by have := (I_inj (by omega) (by omega)).mp z; omega)
  have ci0 : (0 : Int32).toNatClampNeg = 0 := by decide
  have ci1 : (1 : Int32).toNatClampNeg = 1 := by decide
  have ci2 : (2 : Int32).toNatClampNeg = 2 := by decide
  have i30 : inr (0 : Int32) 3 = true := by decide
  have i31 : inr (1 : Int32) 3 = true := by decide
  have i32 : inr (2 : Int32) 3 = true := by decide
  have y1 : ((1 : Int32) = 0) = False := eq_false (by decide)
  have g01 : ∀ b : Int32, (b = 0 ∨ b = 1) → ∀ x : Option (Int32 × Hp), gd (b = 0 ∨ b = 1) x = x := fun b hb x => gd_t hb
  have xN := Y_isNumber  (c := M) (M := M) ka a0 p2.2 (I (l0 : Int))
  rw [I_tN (show l0 < 1000000 by omega)] at xN
  unfold f_X8_accept acc
  rw [gd_t (show kd 2 = 8 from rfl), gd_t ka, en, enp]
  by_cases c1 : ch = 99
  · have hn1 : g 4 1 = I l1 := h1 (by rw [c1]; decide)
    rw [c1, if_pos (show I ((99 : Nat) : Int) = (99 : Int32) from rfl), if_pos rfl]
    simp only [t_2_1, t_2_2, k_2, n_2, k_3, n_3, k_4, n_4, gd, if_true, reduceIte, ci0, ci1, i30, i31, h0, hn1]
    unfold f_X4_setCost
    simp only [gd, ka, if_true, reduceIte, xN, bd_w]
    by_cases d : (1 ≤ l0 ∧ l0 ≤ n) ∧ l1 ≤ 9
    · rw [if_pos (show (1 : Int) ≤ (l0 : Int) ∧ (l0 : Int) ≤ n by omega), if_neg (by decide), if_pos (show I (l1 : Int) ≤ (9 : Int32) from (I_le (b := 9) (by omega) (by omega)).mpr (by omega)), if_pos d]
      simp only [r5, k1, z1, if_true, reduceIte, I_in (show l0 < 25 by omega) (show 25 < 1000000 by decide), I_ix (show l0 < 1000000 by omega), lt_w, bd_w]
      refine ⟨1, _, if_pos (by decide), Sb.rf.uc (by simp), fun z => (by cases z), fun M' hM' => ⟨rfl, ?_⟩⟩
      have e := Option.some.inj hM'
      subst e
      refine ⟨fun k hk => ?_, fun j hj => ?_, fun i hi j hj => ?_, fun i hi => ?_⟩
      · rw [uc_n (by omega), upd_n (by omega)]; exact hR.1 k hk
      · rw [uc_s]
        by_cases f : j + 1 = l0
        · rw [show 5 + j = 4 + l0 by omega, upd_s, f, upd_s]
        · rw [upd_n f, upd_n (by omega)]; exact hR.2.1 j hj
      · rw [uc_n (by omega)]
        rw [hR.2.2.1 i hi j hj]
        by_cases f : j < 24
        · rw [upd_n (by omega)]
        · rw [decide_eq_false f, Bool.false_and, Bool.false_and]
      · rw [uc_n (by omega), upd_n (by omega)]; exact hR.2.2.2 i hi
    · rw [if_neg d]
      by_cases d1 : (1 : Int) ≤ (l0 : Int) ∧ (l0 : Int) ≤ n
      · rw [if_pos d1, if_neg (by decide), if_neg (show ¬ I (l1 : Int) ≤ (9 : Int32) from fun z => by have := (I_le (b := 9) (by omega) (by omega)).mp z; omega), bd_w]
        exact ⟨0, g, if_pos (by decide), Sb.rf, fun _ => rfl, fun M' h => by cases h⟩
      · rw [if_neg d1, if_pos rfl, bd_w]
        exact ⟨0, g, if_pos (by decide), Sb.rf, fun _ => rfl, fun M' h => by cases h⟩
  rw [if_neg (show ¬ I (ch : Int) = (99 : Int32) from nI ch hch 99 (by decide) c1), if_neg c1]
  by_cases c2 : ch = 104
  · have hn1 : g 4 1 = I l1 := h1 (by rw [c2]; decide)
    have xP := Y_isPerson  ka a1 p4 (I (l1 : Int))
    rw [I_tN (show l1 < 1000000 by omega)] at xP
    rw [c2, if_pos (show I ((104 : Nat) : Int) = (104 : Int32) from rfl), if_pos rfl]
    simp only [t_2_1, t_2_2, k_2, n_2, k_3, n_3, k_4, n_4, gd, if_true, reduceIte, ci0, ci1, i30, i31, h0, hn1]
    unfold f_X4_setOwner
    simp only [gd, ka, if_true, reduceIte, xN, xP, bd_w]
    by_cases d : (1 ≤ l0 ∧ l0 ≤ n) ∧ l1 < np
    · obtain ⟨g', e', s', h'⟩ := Y_so_lp  ha (o := l1) (by omega) (B := b1 (l0 - 1)) 6 FU 0 g (FU_lt (by omega)) (by omega)
      have e' : f_X4_setOwner_27 FU (g, RG) a (I l1) (b1 (l0 - 1)) 0 = _ := e'
      have eb : (1 : Int32) <<< ((I (l0 : Int) - 1) &&& 31) = b1 (l0 - 1) := by rw [I_p d.1.1]; rfl
      rw [if_pos (show (1 : Int) ≤ (l0 : Int) ∧ (l0 : Int) ≤ n by omega), if_neg (by decide), if_pos (show (0 : Int) ≤ (l1 : Int) ∧ (l1 : Int) < np by omega), if_neg (by decide), if_pos d, eb, e', bd_w]
      refine ⟨1, g', if_pos (by decide), s'.mono (by simp), fun z => (by cases z), fun M' hM' => ⟨rfl, ?_⟩⟩
      have e := Option.some.inj hM'
      subst e
      have oth : ∀ x, x ≠ a + 2 → g' x = g x := fun x hx => s' x (by simp; exact hx)
      refine ⟨fun k hk => ?_, fun j hj => ?_, fun i hi j hj => ?_, fun i hi => ?_⟩
      · rw [oth a (by omega), upd_n (by omega)]; exact hR.1 k hk
      · rw [oth _ (by omega), upd_n (by omega)]; exact hR.2.1 j hj
      · rw [h' i hi, if_pos (Nat.zero_le _)]
        have hb := hR.2.2.1 i hi j hj
        by_cases f : j = l0 - 1
        · rw [show 29 + j = 28 + l0 by omega, upd_s, decide_eq_true (show j < 24 by omega), Bool.true_and]
          by_cases f2 : i = l1
          · rw [if_pos f2, bt_or, bt_b1 (by omega) hj, decide_eq_true f, Bool.or_true, f2, decide_eq_true rfl]
          · rw [if_neg f2, bt_and, bt_not hj, bt_b1 (by omega) hj, decide_eq_true f, Bool.not_true, Bool.and_false, decide_eq_false (fun z => f2 (by have := (I_inj (by omega) (by omega)).mp z; omega))]
        · have e29 : (decide (j < 24) && decide (upd M (28 + l0) (I (l1 : Int)) (29 + j) = I (i : Int))) = (decide (j < 24) && decide (M (29 + j) = I (i : Int))) := by rw [upd_n (by omega)]
          rw [e29, ← hb]
          by_cases f2 : i = l1
          · rw [if_pos f2, bt_or, bt_and, bt_not hj, bt_b1 (by omega) hj, decide_eq_false f]; simp
          · rw [if_neg f2, bt_and, bt_not hj, bt_b1 (by omega) hj, decide_eq_false f]; simp
      · rw [oth _ (by omega), upd_n (by omega)]; exact hR.2.2.2 i hi
    · rw [if_neg d]
      generalize f_X4_setOwner_27 FU = lf
      by_cases d1 : (1 : Int) ≤ (l0 : Int) ∧ (l0 : Int) ≤ n
      · rw [if_pos d1, if_neg (by decide), if_neg (show ¬ ((0 : Int) ≤ (l1 : Int) ∧ (l1 : Int) < np) by omega), if_pos rfl, bd_w]
        exact ⟨0, g, if_pos (by decide), Sb.rf, fun _ => rfl, fun M' h => by cases h⟩
      · rw [if_neg d1, if_pos rfl, bd_w]
        exact ⟨0, g, if_pos (by decide), Sb.rf, fun _ => rfl, fun M' h => by cases h⟩
  rw [if_neg (show ¬ I (ch : Int) = (104 : Int32) from nI ch hch 104 (by decide) c2), if_neg c2]
  by_cases c3 : ch = 107
  · have hn1 : g 4 1 = I l1 := h1 (by rw [c3]; decide)
    have hn2 : g 4 2 = I l2 := h2 (by rw [c3]; decide)
    rw [c3, if_pos (show I ((107 : Nat) : Int) = (107 : Int32) from rfl), if_pos rfl]
    simp only [t_2_1, t_2_2, k_2, n_2, k_3, n_3, k_4, n_4, gd, if_true, reduceIte, ci0, ci1, ci2, i30, i31, i32, h0, hn1, hn2]
    unfold f_X4_setLaw
    rw [gd_t ka]
    by_cases d : l0 ≤ 3 ∧ l1 ≤ 9 ∧ l2 ≤ 9
    · rw [if_neg (show ¬ (3 : Int32) < I (l0 : Int) from fun z => by have := (I_lt (a := 3) (by omega) (by omega)).mp z; omega), if_neg (show ¬ (9 : Int32) < I (l1 : Int) from fun z => by have := (I_lt (a := 9) (by omega) (by omega)).mp z; omega), if_pos (show I (l2 : Int) ≤ (9 : Int32) from (I_le (b := 9) (by omega) (by omega)).mpr (by omega)), if_pos d]
      simp only [lt_w, bd_w, uc_s, uc_uc]
      refine ⟨1, _, if_pos (by decide), Sb.rf.uc (by simp), fun z => (by cases z), fun M' hM' => ⟨rfl, ?_⟩⟩
      have e := Option.some.inj hM'
      subst e
      refine ⟨fun k hk => ?_, fun j hj => ?_, fun i hi j hj => ?_, fun i hi => ?_⟩
      · rw [uc_s]
        unfold upd
        by_cases f4 : k = 4
        · rw [if_pos f4, if_pos f4]
        · rw [if_neg f4, if_neg f4]
          by_cases f3 : k = 3
          · rw [if_pos f3, if_pos f3]
          · rw [if_neg f3, if_neg f3]
            by_cases f2 : k = 2
            · rw [if_pos f2, if_pos f2]
            · rw [if_neg f2, if_neg f2]; exact hR.1 k hk
      · rw [uc_n (by omega), upd_n (by omega), upd_n (by omega), upd_n (by omega)]; exact hR.2.1 j hj
      · rw [uc_n (by omega), upd_n (by omega), upd_n (by omega), upd_n (by omega)]; exact hR.2.2.1 i hi j hj
      · rw [uc_n (by omega), upd_n (by omega), upd_n (by omega), upd_n (by omega)]; exact hR.2.2.2 i hi
    · rw [if_neg d]
      refine ⟨0, g, ?_, Sb.rf, fun _ => rfl, fun M' h => by cases h⟩
      by_cases d1 : l0 ≤ 3
      · rw [if_neg (show ¬ (3 : Int32) < I (l0 : Int) from fun z => by have := (I_lt (a := 3) (by omega) (by omega)).mp z; omega)]
        by_cases d2 : l1 ≤ 9
        · rw [if_neg (show ¬ (9 : Int32) < I (l1 : Int) from fun z => by have := (I_lt (a := 9) (by omega) (by omega)).mp z; omega), if_neg (show ¬ I (l2 : Int) ≤ (9 : Int32) from fun z => by have := (I_le (b := 9) (by omega) (by omega)).mp z; omega), bd_w]
          exact if_pos (by decide)
        · rw [if_pos (show (9 : Int32) < I (l1 : Int) from (I_lt (a := 9) (by omega) (by omega)).mpr (by omega)), bd_w]
          exact if_pos (by decide)
      · rw [if_pos (show (3 : Int32) < I (l0 : Int) from (I_lt (a := 3) (by omega) (by omega)).mpr (by omega)), bd_w]
        exact if_pos (by decide)
  rw [if_neg (show ¬ I (ch : Int) = (107 : Int32) from nI ch hch 107 (by decide) c3), if_neg c3]
  by_cases c4 : ch = 110
  · rw [c4, if_pos (show I ((110 : Nat) : Int) = (110 : Int32) from rfl), if_pos rfl]
    simp only [hon]
    cases on with
    | false =>
      rw [if_pos (by decide), if_neg (fun z => by cases z.1)]
      exact ⟨0, g, rfl, Sb.rf, fun _ => rfl, fun M' h => by cases h⟩
    | true =>
      rw [if_neg (by decide)]
      simp only [t_2_1, t_2_2, k_2, n_2, k_3, n_3, k_4, n_4, gd, if_true, reduceIte, ci0, i30, h0]
      unfold f_X4_setNumbers
      rw [gd_t ka]
      by_cases d : 1 ≤ l0 ∧ l0 ≤ 24
      · rw [if_neg (show ¬ I (l0 : Int) < (1 : Int32) from fun z => by have := (I_lt (b := 1) (by omega) (by omega)).mp z; omega), if_pos (show I (l0 : Int) ≤ (24 : Int32) from (I_le (b := 24) (by omega) (by omega)).mpr (by omega)), if_pos (show True ∧ 1 ≤ l0 ∧ l0 ≤ 24 from ⟨trivial, d⟩), lt_w, bd_w, if_neg (by decide)]
        refine ⟨1, _, rfl, Sb.rf.uc (by simp), fun z => (by cases z), fun M' hM' => ⟨rfl, ?_⟩⟩
        have e := Option.some.inj hM'
        subst e
        refine ⟨fun k hk => ?_, fun j hj => ?_, fun i hi j hj => ?_, fun i hi => ?_⟩
        · rw [uc_s]
          by_cases f : k = 0
          · rw [f, upd_s, upd_s]
          · rw [upd_n f, upd_n f]; exact hR.1 k hk
        · rw [uc_n (by omega), upd_n (by omega)]; exact hR.2.1 j hj
        · rw [uc_n (by omega), upd_n (by omega)]; exact hR.2.2.1 i hi j hj
        · rw [uc_n (by omega), upd_n (by omega)]; exact hR.2.2.2 i hi
      · rw [if_neg (show ¬ (True ∧ 1 ≤ l0 ∧ l0 ≤ 24) from fun z => d z.2)]
        refine ⟨0, g, ?_, Sb.rf, fun _ => rfl, fun M' h => by cases h⟩
        by_cases d1 : l0 < 1
        · rw [if_pos (show I (l0 : Int) < (1 : Int32) from (I_lt (b := 1) (by omega) (by omega)).mpr (by omega)), bd_w, if_pos rfl]
        · rw [if_neg (show ¬ I (l0 : Int) < (1 : Int32) from fun z => by have := (I_lt (b := 1) (by omega) (by omega)).mp z; omega), if_neg (show ¬ I (l0 : Int) ≤ (24 : Int32) from fun z => by have := (I_le (b := 24) (by omega) (by omega)).mp z; omega), bd_w, if_pos rfl]
  rw [if_neg (show ¬ I (ch : Int) = (110 : Int32) from nI ch hch 110 (by decide) c4), if_neg c4]
  by_cases c5 : ch = 112
  · rw [c5, if_pos (show I ((112 : Nat) : Int) = (112 : Int32) from rfl), if_pos rfl]
    simp only [t_2_1, t_2_2, k_2, n_2, k_3, n_3, k_4, n_4, gd, if_true, reduceIte, ci0, i30, h0]
    unfold f_X4_addPerson
    rw [gd_t ka]
    simp only [a1]
    by_cases d : np < 6 ∧ 1 ≤ l0
    · rw [if_neg (show ¬ (6 : Int32) ≤ I (np : Int) from fun z => by have := (I_le (a := 6) (by omega) (by omega)).mp z; omega), if_neg (show ¬ I (l0 : Int) < (1 : Int32) from fun z => by have := (I_lt (b := 1) (by omega) (by omega)).mp z; omega), if_pos (show I (l0 : Int) ≤ (99 : Int32) from (I_le (b := 99) (by omega) (by omega)).mpr (by omega)), if_pos d]
      have na : a ≠ a + 3 := by omega
      simp only [r7, k3, z3, gd, if_true, reduceIte, I_in (show np < 6 by omega) (show 6 < 1000000 by decide), I_ix (show np < 1000000 by omega), lt_w, uc_n na, a1, I_s, bd_w]
      refine ⟨1, _, if_pos (by decide), (Sb.rf.uc (by simp)).uc (by simp), fun z => (by cases z), fun M' hM' => ⟨rfl, ?_⟩⟩
      have e := Option.some.inj hM'
      subst e
      refine ⟨fun k hk => ?_, fun j hj => ?_, fun i hi j hj => ?_, fun i hi => ?_⟩
      · rw [uc_s]
        by_cases f : k = 1
        · rw [f, upd_s, upd_s]
        · rw [upd_n f, upd_n f, upd_n (by omega)]; exact hR.1 k hk
      · rw [uc_n (by omega), uc_n (by omega), upd_n (by omega), upd_n (by omega)]; exact hR.2.1 j hj
      · rw [uc_n (by omega), uc_n (by omega)]
        rw [hR.2.2.1 i hi j hj]
        by_cases f : j < 24
        · rw [upd_n (by omega), upd_n (by omega)]
        · rw [decide_eq_false f, Bool.false_and, Bool.false_and]
      · rw [uc_n (by omega), uc_s, upd_n (show 53 + i ≠ 1 by omega)]
        by_cases f : i = np
        · rw [f, upd_s, upd_s]
        · rw [upd_n f, upd_n (by omega)]; exact hR.2.2.2 i hi
    · rw [if_neg d]
      refine ⟨0, g, ?_, Sb.rf, fun _ => rfl, fun M' h => by cases h⟩
      by_cases d1 : np < 6
      · rw [if_neg (show ¬ (6 : Int32) ≤ I (np : Int) from fun z => by have := (I_le (a := 6) (by omega) (by omega)).mp z; omega), if_pos (show I (l0 : Int) < (1 : Int32) from (I_lt (b := 1) (by omega) (by omega)).mpr (by omega)), bd_w]
        exact if_pos (by decide)
      · rw [if_pos (show (6 : Int32) ≤ I (np : Int) from (I_le (a := 6) (by omega) (by omega)).mpr (by omega)), bd_w]
        exact if_pos (by decide)
  rw [if_neg (show ¬ I (ch : Int) = (112 : Int32) from nI ch hch 112 (by decide) c5), if_neg c5]
  exact ⟨0, g, rfl, Sb.rf, fun _ => rfl, fun M' h => by cases h⟩
end T
section T
theorem Y_cl42 {a : Nat} (ha : a = 5 ∨ a = 9) : ∀ (r fu i : Nat) (g : Nat → Nat → Int32), r < fu → i + r = 6 → (∀ j, j < i → g (a + 2) j = 0 ∧ g (a + 3) j = 0) →
    ∃ g', f_X4_clear_42 fu (g, RG) a (I i) = some ((), (g', RG)) ∧ Sb [a + 2, a + 3] g g' ∧ ∀ j, j < 6 → g' (a + 2) j = 0 ∧ g' (a + 3) j = 0 := by
  obtain ⟨ka, k1, k2, k3, z1, z2, z3⟩ := Pk ha
  obtain ⟨r5, r6, r7⟩ := Prg ha
  intro r
  induction r with
  | zero =>
    intro fu i g hf hi hI
    obtain ⟨fu, rfl⟩ : ∃ k, fu = k + 1 := ⟨fu - 1, by omega⟩
    have : i = 6 := by omega
    subst this
    refine ⟨g, ?_, Sb.rf, hI⟩
    rw [f_X4_clear_42]
    exact if_pos (by decide)
  | succ r ih =>
    intro fu i g hf hi hI
    obtain ⟨fu, rfl⟩ : ∃ k, fu = k + 1 := ⟨fu - 1, by omega⟩
    have na : a + 3 ≠ a + 2 := by omega
    obtain ⟨g', e, s', h'⟩ := ih fu (i + 1) (uc (uc g (a + 2) (upd (g (a + 2)) i 0)) (a + 3) (upd (g (a + 3)) i 0)) (by omega) (by omega) (fun j hj => by
      rw [uc_n (by omega), uc_s, uc_s]
      by_cases c : j = i
      · subst c; rw [upd_s, upd_s]; exact ⟨rfl, rfl⟩
      · rw [upd_n c, upd_n c]; exact hI j (by omega))
    refine ⟨g', ?_, Sb.tr ((Sb.rf.uc (by simp)).uc (by simp)) s', h'⟩
    rw [← e]
    simp only [f_X4_clear_42]
    rw [if_neg (fun z => by have := (I_le (a := 6) (by omega) (by omega)).mp z; omega)]
    simp only [r6, r7, k2, k3, z2, z3, gd, if_true, reduceIte, I_in (show i < 6 by omega) (show 6 < 1000000 by decide), I_ix (show i < 1000000 by omega), lt_w, uc_n na, I_s]
theorem Y_cl21 {a : Nat} (ha : a = 5 ∨ a = 9) : ∀ (r fu i : Nat) (g : Nat → Nat → Int32), r < fu → i + r = 25 → (∀ j, j < i → g (a + 1) j = 1) →
    ∃ g', f_X4_clear_21 fu (g, RG) a (I i) = f_X4_clear_42 FU (g', RG) a 0 ∧ Sb [a + 1] g g' ∧ ∀ j, j < 25 → g' (a + 1) j = 1 := by
  obtain ⟨ka, k1, k2, k3, z1, z2, z3⟩ := Pk ha
  obtain ⟨r5, r6, r7⟩ := Prg ha
  intro r
  induction r with
  | zero =>
    intro fu i g hf hi hI
    obtain ⟨fu, rfl⟩ : ∃ k, fu = k + 1 := ⟨fu - 1, by omega⟩
    have : i = 25 := by omega
    subst this
    refine ⟨g, ?_, Sb.rf, hI⟩
    rw [f_X4_clear_21]
    exact if_pos (by decide)
  | succ r ih =>
    intro fu i g hf hi hI
    obtain ⟨fu, rfl⟩ : ∃ k, fu = k + 1 := ⟨fu - 1, by omega⟩
    obtain ⟨g', e, s', h'⟩ := ih fu (i + 1) (uc g (a + 1) (upd (g (a + 1)) i 1)) (by omega) (by omega) (fun j hj => by
      rw [uc_s]
      by_cases c : j = i
      · subst c; rw [upd_s]
      · rw [upd_n c]; exact hI j (by omega))
    refine ⟨g', ?_, fun b hb => by rw [s' b hb, uc_n (fun z => hb (by rw [z]; simp))], h'⟩
    rw [← e]
    simp only [f_X4_clear_21]
    generalize f_X4_clear_42 FU = lf
    rw [if_neg (fun z => by have := (I_lt (a := 24) (by omega) (by omega)).mp z; omega)]
    simp only [r5, k1, z1, gd, if_true, reduceIte, I_in (show i < 25 by omega) (show 25 < 1000000 by decide), I_ix (show i < 1000000 by omega), lt_w, I_s]
theorem Y_clear {a : Nat} (ha : a = 5 ∨ a = 9) (g : Nat → Nat → Int32) : ∃ g', f_X4_clear (g, RG) a = some ((), (g', RG)) ∧ Sb [a, a + 1, a + 2, a + 3] g g' ∧ PRg g' a M00 := by
  obtain ⟨ka, k1, k2, k3, z1, z2, z3⟩ := Pk ha
  obtain ⟨g1, hg1⟩ : ∃ g1, g1 = uc g a (upd (upd (upd (upd (upd (g a) 0 12) 1 0) 2 1) 3 1) 4 2) := ⟨_, rfl⟩
  obtain ⟨g2, e2, s2, h2⟩ := Y_cl21  ha 25 FU 0 g1 (FU_lt (by omega)) (by omega) (fun j hj => absurd hj (by omega))
  obtain ⟨g3, e3, s3, h3⟩ := Y_cl42  ha 6 FU 0 g2 (FU_lt (by omega)) (by omega) (fun j hj => absurd hj (by omega))
  have e23 : f_X4_clear_21 FU (g1, RG) a 0 = some ((), (g3, RG)) := e2.trans e3
  have s1 : Sb [a, a + 1, a + 2, a + 3] g g1 := by rw [hg1]; exact Sb.rf.uc (by simp)
  refine ⟨g3, ?_, Sb.tr (Sb.tr s1 (s2.mono (by simp))) (s3.mono (by simp)), fun k hk => ?_, fun j hj => ?_, fun i hi j hj => ?_, fun i hi => ?_⟩
  · unfold f_X4_clear f_X4_setLaw
    revert e23
    generalize f_X4_clear_21 FU = lf
    intro e23
    rw [gd_t ka, lt_w, lt_w, gd_t ka, if_neg (by decide), if_neg (by decide), if_pos (by decide), lt_w, lt_w, lt_w, bd_w]
    simp only [uc_s, uc_uc]
    rw [← hg1]
    exact e23
  · rw [s3 a (by simp), s2 a (by simp), hg1, uc_s]
    have : k = 0 ∨ k = 1 ∨ k = 2 ∨ k = 3 ∨ k = 4 := by omega
    rcases this with rfl | rfl | rfl | rfl | rfl <;> rfl
  · rw [s3 (a + 1) (by simp), h2 (j + 1) (by omega), M00_c hj]
  · rw [(h3 i hi).1, bt_0]
    symm
    by_cases f : j < 24
    · rw [M00_o f, decide_eq_false (show ¬ (-4 : Int32) = I (i : Int) from fun z => I_ne4 (show i < 1000 by omega) z.symm), Bool.and_false]
    · rw [decide_eq_false f, Bool.false_and]
  · rw [(h3 i hi).2, M00_a hi]
theorem Y_ra {c : Nat → Nat} {len a0 : Nat} (hq : a0 = 5 ∨ a0 = 9) : ∀ (r fu cnt a : Nat) (on : Bool) (M : Nat → Int32) (g : Nat → Nat → Int32), r < fu → len ≤ a + r → cnt ≤ a → a ≤ 200 → TX g c len → g 2 3 = I a → g 2 4 = (if on then 1 else 0) → PRg g a0 M → PWo M on →
    ∃ g', f_X8_readInto_16 fu (g, RG) 2 a0 (I cnt) = some (rsv (prs c len r a on M), (g', RG)) ∧ Sb [2, 4, a0, a0 + 1, a0 + 2, a0 + 3] g g' ∧ (∀ j, j ≠ 3 → j ≠ 4 → g' 2 j = g 2 j) ∧ ∀ M', prs c len r a on M = Sum.inr M' → PRg g' a0 M' ∧ ∃ on', PWo M' on' := by
  have kq : kd a0 = 4 := (Pk hq).1
  intro r
  induction r with
  | zero =>
    intro fu cnt a on M g hf hr hca ha2 hT ha hon hR hP
    obtain ⟨fu, rfl⟩ : ∃ k, fu = k + 1 := ⟨fu - 1, by omega⟩
    have hl := hT.2.1
    refine ⟨g, ?_, Sb.rf, fun _ _ _ => rfl, fun M' hz => by have := Sum.inr.inj hz; rw [← this]; exact ⟨hR, on, hP⟩⟩
    simp only [f_X8_readInto_16, hT.1, ha]
    rw [if_pos (show I (len : Int) ≤ I (a : Int) from (I_le (by omega) (by omega)).mpr (by omega))]
    split <;> rfl
  | succ r ih =>
    intro fu cnt a on M g hf hr hca ha2 hT ha hon hR hP
    obtain ⟨fu, rfl⟩ : ∃ k, fu = k + 1 := ⟨fu - 1, by omega⟩
    have hl := hT.2.1
    by_cases hla : len ≤ a
    · have ep : prs c len (r + 1) a on M = Sum.inr M := if_pos hla
      rw [ep]
      refine ⟨g, ?_, Sb.rf, fun _ _ _ => rfl, fun M' hz => by have := Sum.inr.inj hz; rw [← this]; exact ⟨hR, on, hP⟩⟩
      simp only [f_X8_readInto_16, hT.1, ha]
      rw [if_pos (show I (len : Int) ≤ I (a : Int) from (I_le (by omega) (by omega)).mpr (by omega))]
      split <;> rfl
    · have hal : a < len := by omega
      obtain ⟨n, np, kind, hM, -⟩ := id hP
      have hc := hT.2.2 a hal
      obtain ⟨ch, hch⟩ : ∃ ch, ch = c a := ⟨_, rfl⟩
      rw [← hch] at hc
      have hnb : ∀ h : Hp, f_X8_numbersBehind h (I ch) = some (I (nbh ch), h) := fun h => by
        have nI : ∀ k : Nat, k < 128 → ch ≠ k → ¬ I (ch : Int) = I (k : Int) := fun k hk hne z => hne (by have := (I_inj (by omega) (by omega)).mp z; omega)
        unfold f_X8_numbersBehind nbh
        by_cases c1 : ch = 99
        · rw [c1, if_pos (by decide), if_pos rfl]; rfl
        rw [if_neg (show ¬ I (ch : Int) = (99 : Int32) from nI 99 (by decide) c1), if_neg c1]
        by_cases c2 : ch = 104
        · rw [c2, if_pos (by decide), if_pos rfl]; rfl
        rw [if_neg (show ¬ I (ch : Int) = (104 : Int32) from nI 104 (by decide) c2), if_neg c2]
        by_cases c3 : ch = 107
        · rw [c3, if_pos (by decide), if_pos rfl]; rfl
        rw [if_neg (show ¬ I (ch : Int) = (107 : Int32) from nI 107 (by decide) c3), if_neg c3]
        by_cases c4 : ch = 110
        · rw [c4, if_pos (by decide), if_pos rfl]; rfl
        rw [if_neg (show ¬ I (ch : Int) = (110 : Int32) from nI 110 (by decide) c4), if_neg c4]
        by_cases c5 : ch = 112
        · rw [c5, if_pos (by decide), if_pos rfl]; rfl
        rw [if_neg (show ¬ I (ch : Int) = (112 : Int32) from nI 112 (by decide) c5), if_neg c5]
        rfl
      obtain ⟨g1, hg1⟩ : ∃ g1, g1 = uc g 2 (upd (g 2) 3 (I ((a + 1 : Nat) : Int))) := ⟨_, rfl⟩
      have x1 : XF g g1 := by rw [hg1]; exact XF.at
      have key : ∃ b g2, f_X8_readItem (g, RG) 2 (I (nbh ch)) = some (b, (g2, RG)) ∧ XF g g2 ∧ ((nbh ch = 0 ∨ ags c len (nbh ch) (a + 1) = none) → b = 0) ∧ ∀ L e, nbh ch ≠ 0 → ags c len (nbh ch) (a + 1) = some (L, e) → b = 1 ∧ g2 2 3 = I e ∧ ∀ j, j < nbh ch → g2 4 j = I ((L.getD j 0 : Nat) : Int) := by
        have hn3 : nbh ch ≤ 3 := by unfold nbh; repeat (first | split | omega)
        have e0 : ∀ n : Int32, f_X8_readItem (g, RG) 2 n = f_X8_readItem_12 FU (g1, RG) 2 n 0 := fun n => by
          unfold f_X8_readItem
          generalize f_X8_readItem_12 FU = lf
          rw [gd_t (show kd 2 = 8 from rfl)]
          simp only [ha, I_s]
          rw [lt_w, ← hg1]
        rw [e0]
        by_cases h0 : nbh ch = 0
        · refine ⟨0, g1, ?_, x1, fun _ => rfl, fun L e hz => absurd h0 hz⟩
          obtain ⟨fu, hFU⟩ : ∃ fu, FU = fu + 1 := ⟨99999, rfl⟩
          rw [h0, hFU]
          simp only [f_X8_readItem_12]
          rw [if_pos (by decide)]
          unfold f_X8_readItem_89
          rw [if_pos (by decide)]
        · obtain ⟨b, g2, r1, r2, r3, r4, r5⟩ := Y_ri  (c := c) (len := len) (n := nbh ch) (by omega) (nbh ch) FU 0 (a + 1) g1 (FU_lt (by omega)) (by omega) (hT.f x1) (by rw [hg1, uc_s, upd_s]) (by omega)
          refine ⟨b, g2, r1, x1.tr r2, fun z => ?_, fun L e _ hz => ?_⟩
          · rcases z with z | z
            · exact absurd z h0
            · exact r4 z
          · obtain ⟨w1, w2, w3⟩ := r5 L e hz
            refine ⟨w1, w2, fun j hj => ?_⟩
            have := w3 j hj
            rwa [Nat.zero_add] at this
      obtain ⟨b, g2, r1, x2, r3, r4⟩ := key
      have e0 : ∀ (b2 : Int32) (g3 : Nat → Nat → Int32), (b ≠ 0 → f_X8_accept (g2, RG) 2 (I ch) a0 = some (b2, (g3, RG)) ∧ g3 2 = g2 2) → f_X8_readInto_16 (fu + 1) (g, RG) 2 a0 (I cnt) = if b = 0 then some (I (a : Int), (g2, RG)) else if b2 = 0 then some (I (a : Int), (g3, RG)) else f_X8_readInto_16 fu (uc g3 2 (upd (g3 2) 4 (if on && decide (ch = 110) then 1 else 0)), RG) 2 a0 (I ((cnt + 1 : Nat) : Int)) := fun b2 g3 hac => by
        have h24 : g2 2 4 = (if on then 1 else 0) := by rw [x2.2 4 (by decide)]; exact hon
        simp only [f_X8_readInto_16, hT.1, ha]
        unfold f_X8_readInto_90 f_X8_readInto_91
        generalize f_X8_readInto_16 fu = lf
        revert r1 hac
        generalize f_X8_readItem = ri
        generalize f_X8_accept = af
        intro r1 hac
        rw [if_neg (show ¬ (200 : Int32) ≤ I (cnt : Int) from fun z => by have := (I_le (a := 200) (by omega) (by omega)).mp z; omega), if_neg (show ¬ I (len : Int) ≤ I (a : Int) from fun z => by have := (I_le (by omega) (by omega)).mp z; omega)]
        simp only [t_2_1, t_2_2, k_2, n_2, k_3, n_3, k_4, n_4, gd, if_true, reduceIte, I_in (show a < 200 by omega) (show 200 < 1000000 by decide), I_ix (show a < 1000000 by omega), hc.1, hnb, bd_w, r1]
        by_cases hb : b = 0
        · rw [if_pos hb, if_pos hb]
        · obtain ⟨ha1, ha2'⟩ := hac hb
          rw [if_neg hb, if_neg hb, ha1, bd_w]
          by_cases hb2 : b2 = 0
          · rw [if_pos hb2, if_pos hb2]
          · rw [if_neg hb2, if_neg hb2]
            simp only [ha2', h24]
            cases on with
            | false =>
              rw [if_pos (by decide), if_pos (by decide), lt_w, ha2', I_s]; rfl
            | true =>
              rw [if_neg (by decide)]
              by_cases h1 : ch = 110
              · rw [if_pos (show I (ch : Nat) = (110 : Int32) by rw [h1]; rfl), if_pos (by decide), lt_w, ha2', I_s, decide_eq_true h1]; rfl
              · rw [if_neg (show ¬ I (ch : Nat) = (110 : Int32) from fun z => h1 (by have := (I_inj (b := 110) (by omega) (by omega)).mp z; omega)), if_pos (by decide), lt_w, ha2', I_s, decide_eq_false h1]; rfl
      have s2 : Sb [2, 4, a0, a0 + 1, a0 + 2, a0 + 3] g g2 := x2.1.mono (by simp)
      have R2 : PRg g2 a0 M := by
        unfold PRg
        rw [x2.1 a0 (by simp; omega), x2.1 (a0 + 1) (by simp; omega), x2.1 (a0 + 2) (by simp; omega), x2.1 (a0 + 3) (by simp; omega)]
        exact hR
      by_cases h0 : nbh ch = 0
      · have hi : itm c len a on M = none := by unfold itm; rw [← hch, if_pos h0]
        have ep : prs c len (r + 1) a on M = Sum.inl a := by simp only [prs, if_neg hla, hi]
        have hb := r3 (Or.inl h0)
        rw [ep, e0 0 g (fun z => absurd hb z), if_pos hb]
        exact ⟨g2, rfl, s2, fun j h3 _ => x2.2 j h3, fun M' hz => by cases hz⟩
      · cases hqq : ags c len (nbh ch) (a + 1) with
        | none =>
          have hi : itm c len a on M = none := by unfold itm; rw [← hch, if_neg h0, hqq]; rfl
          have ep : prs c len (r + 1) a on M = Sum.inl a := by simp only [prs, if_neg hla, hi]
          have hb := r3 (Or.inr hqq)
          rw [ep, e0 0 g (fun z => absurd hb z), if_pos hb]
          exact ⟨g2, rfl, s2, fun j h3 _ => x2.2 j h3, fun M' hz => by cases hz⟩
        | some y =>
          obtain ⟨L, e⟩ := y
          obtain ⟨q1, q2, q3⟩ := r4 L e h0 hqq
          have hL := ags_b _ _ _ _ hqq
          obtain ⟨b2, g3, t1', t2, t3, t4⟩ := Y_acc  (ch := ch) (l0 := L.getD 0 0) (l1 := L.getD 1 0) (l2 := L.getD 2 0) (on := on) hq hM R2 (by rw [x2.2 4 (by decide)]; exact hon) hc.2 ⟨getD_le hL.1 0, getD_le hL.1 1, getD_le hL.1 2⟩ (q3 0 (by omega)) (fun z => q3 1 (by omega)) (fun z => q3 2 (by omega))
          have g32 : g3 2 = g2 2 := t2 2 (by simp; omega)
          rw [e0 b2 g3 (fun _ => ⟨t1', g32⟩), if_neg (by rw [q1]; decide)]
          have hi : itm c len a on M = (acc ch (L.getD 0 0) (L.getD 1 0) (L.getD 2 0) on M).map (fun M' => (e, M')) := by unfold itm; rw [← hch, if_neg h0, hqq]; rfl
          have s3 : Sb [2, 4, a0, a0 + 1, a0 + 2, a0 + 3] g g3 := Sb.tr s2 (t2.mono (by simp))
          cases hac : acc ch (L.getD 0 0) (L.getD 1 0) (L.getD 2 0) on M with
          | none =>
            rw [hac] at hi
            have ep : prs c len (r + 1) a on M = Sum.inl a := by simp only [prs, if_neg hla, hi]; rfl
            rw [ep, if_pos (t3 hac)]
            exact ⟨g3, rfl, s3, fun j h3 _ => by rw [g32, x2.2 j h3], fun M' hz => by cases hz⟩
          | some M' =>
            rw [hac] at hi
            have hi : itm c len a on M = some (e, M') := hi
            have ep : prs c len (r + 1) a on M = prs c len r e (on && decide (c a = 110)) M' := by simp only [prs, if_neg hla, hi]
            obtain ⟨u1, u2⟩ := t4 M' hac
            have hib := itm_b hP hi
            rw [ep, u1, if_neg (by decide), hch]
            obtain ⟨g4, hg4⟩ : ∃ g4, g4 = uc g3 2 (upd (g3 2) 4 (if on && decide (c a = 110) then 1 else 0)) := ⟨_, rfl⟩
            rw [← hg4]
            have o4 : ∀ x, x ≠ 2 → g4 x = g3 x := fun x hx => by rw [hg4, uc_n hx]
            have T4 : TX g4 c len := ⟨by rw [hg4, uc_s, upd_n (by decide), g32, x2.2 0 (by decide)]; exact hT.1, hl, by rw [o4 3 (by decide), s3 3 (by simp; omega)]; exact hT.2.2⟩
            obtain ⟨g', y1, y2, y3, y4⟩ := ih fu (cnt + 1) e (on && decide (c a = 110)) M' g4 (by omega) (by omega) (by omega) (by omega) T4 (by rw [hg4, uc_s, upd_n (by decide), g32]; exact q2) (by rw [hg4, uc_s, upd_s]) (by
              unfold PRg
              rw [o4 a0 (by omega), o4 (a0 + 1) (by omega), o4 (a0 + 2) (by omega), o4 (a0 + 3) (by omega)]
              exact u2) hib.2.2
            refine ⟨g', y1, Sb.tr (Sb.tr s3 (by rw [hg4]; exact Sb.rf.uc (by simp))) y2, fun j h3 h4 => ?_, y4⟩
            rw [y3 j h3 h4, hg4, uc_s, upd_n h4, g32, x2.2 j h3]
end T
section T
theorem Y_into {g : Nat → Nat → Int32} {c : Nat → Nat} {len a0 : Nat} (ha : a0 = 5 ∨ a0 = 9) (hT : TX g c len) :
    ∃ g', f_X8_readInto (g, RG) 2 a0 = some (rsv (rdl c len), (g', RG)) ∧ Sb [2, 4, a0, a0 + 1, a0 + 2, a0 + 3] g g' ∧ (∀ j, j ≠ 3 → j ≠ 4 → g' 2 j = g 2 j) ∧ ∀ M', rdl c len = Sum.inr M' → PRg g' a0 M' ∧ ∃ on', PWo M' on' := by
  obtain ⟨ka, -⟩ := Pk ha
  have hl := hT.2.1
  obtain ⟨g1, e1, s1, r1⟩ := Y_clear  ha g
  obtain ⟨g2, hg2⟩ : ∃ g2, g2 = uc (uc g1 2 (upd (g1 2) 3 0)) 2 (upd (upd (g1 2) 3 0) 4 1) := ⟨_, rfl⟩
  have o2 : ∀ x, x ≠ 2 → g2 x = g1 x := fun x hx => by rw [hg2, uc_n hx, uc_n hx]
  have e12 : g1 2 = g 2 := s1 2 (by simp; omega)
  have f2 : g2 2 = upd (upd (g 2) 3 0) 4 1 := by rw [hg2, uc_s, e12]
  have s2 : Sb [2, 4, a0, a0 + 1, a0 + 2, a0 + 3] g g2 := Sb.tr (s1.mono (by simp)) (by rw [hg2]; exact (Sb.rf.uc (by simp)).uc (by simp))
  obtain ⟨g', e, s', h', r'⟩ := Y_ra  (c := c) (len := len) ha 201 FU 0 0 true M00 g2 (FU_lt (by omega)) (by omega) (Nat.le_refl _) (by omega) ⟨by rw [f2, upd_n (by decide), upd_n (by decide)]; exact hT.1, hl, by rw [s2 3 (by simp; omega)]; exact hT.2.2⟩ (by rw [f2, upd_n (by decide), upd_s]; rfl) (by rw [f2, upd_s]; rfl) (by
    unfold PRg
    rw [o2 a0 (by omega), o2 (a0 + 1) (by omega), o2 (a0 + 2) (by omega), o2 (a0 + 3) (by omega)]
    exact r1) M00_pw
  have e : f_X8_readInto_16 FU (g2, RG) 2 a0 0 = _ := e
  refine ⟨g', ?_, Sb.tr s2 s', fun j h3 h4 => by rw [h' j h3 h4, f2, upd_n h4, upd_n h3], r'⟩
  unfold f_X8_readInto
  revert e e1
  generalize f_X8_readInto_16 FU = lf
  generalize f_X4_clear = cf
  intro e1 e
  rw [gd_t (show kd 2 = 8 from rfl), gd_t ka, e1, bd_w, lt_w, lt_w, uc_s, ← hg2]
  exact e
theorem Y_prx {g : Nat → Nat → Int32} {M : Nat → Int32} {n np kind a x u : Nat} (ha : a = 5 ∨ a = 9) (hM : PW M n np kind) (hR : PRg g a M) (hx : 1 ≤ x ∧ x ≤ 24) (hu : 1 ≤ u ∧ u ≤ 3) : f_X4_price (g, RG) a (I x) (I u) = some (I (wC M n x u - 1000), (g, RG)) := by
  obtain ⟨ka, k1, k2, k3, z1, z2, z3⟩ := Pk ha
  obtain ⟨r5, r6, r7⟩ := Prg ha
  obtain ⟨p1, p2, p3, p4, p5, p6, ⟨ll, p7, p7'⟩, ⟨lh, p8, p8'⟩, p9, p10, p11⟩ := hM
  have a0 : g a 0 = I n := by rw [hR.1 0 (by decide)]; exact p1
  have xN := Y_isNumber  (c := M) (M := M) ka a0 p2.2 (I (x : Int))
  rw [I_tN (show x < 1000000 by omega)] at xN
  unfold f_X4_price
  rw [gd_t ka, xN, bd_w]
  unfold wC
  by_cases hn : x ≤ n
  · rw [if_pos (show (1 : Int) ≤ (x : Int) ∧ (x : Int) ≤ n by omega), if_neg (by decide), if_pos hn]
    obtain ⟨cc, c1, c2⟩ := p9 (x - 1) (by omega)
    have ec : g (a + 1) x = I (cc : Nat) := by
      have := hR.2.1 (x - 1) (by omega)
      rw [show x - 1 + 1 = x by omega] at this
      rw [this, c2]
    have em : M (4 + x) = I (cc : Nat) := by rw [show 4 + x = 5 + (x - 1) by omega]; exact c2
    have e3 : g a 3 = I (ll : Nat) := by rw [hR.1 3 (by decide)]; exact p7'
    have e4 : g a 4 = I (lh : Nat) := by rw [hR.1 4 (by decide)]; exact p8'
    have ew : wM M x u - 1000 = (cc : Int) + (if u = 2 then (ll : Int) else if u = 3 then (lh : Int) else 0) := by
      unfold wM
      rw [if_pos hx, em, p7', p8', I_tN (show cc < 1000000 by omega), I_tN (show ll < 1000000 by omega), I_tN (show lh < 1000000 by omega)]
      omega
    rw [ew]
    simp only [r5, k1, z1, gd, if_true, reduceIte, I_in (show x < 25 by omega) (show 25 < 1000000 by decide), I_ix (show x < 1000000 by omega), ec, e3, e4]
    have : u = 1 ∨ u = 2 ∨ u = 3 := by omega
    rcases this with rfl | rfl | rfl
    · rw [if_neg (show ¬ I ((1 : Nat) : Int) = (2 : Int32) by decide), if_neg (show ¬ I ((1 : Nat) : Int) = (3 : Int32) by decide), if_neg (by decide), if_neg (by decide), Int32.add_zero, Int.add_zero]
    · rw [if_pos (show I ((2 : Nat) : Int) = (2 : Int32) by decide), if_pos rfl, I_add]
    · rw [if_neg (show ¬ I ((3 : Nat) : Int) = (2 : Int32) by decide), if_pos (show I ((3 : Nat) : Int) = (3 : Int32) by decide), if_neg (by decide), if_pos rfl, I_add]
  · rw [if_neg (show ¬ ((1 : Int) ≤ (x : Int) ∧ (x : Int) ≤ n) by omega), if_pos rfl, if_neg hn]
    rfl
theorem Y_sp15 (k8 : Hp → Nat → Nat → Int32 → Option (Unit × Hp)) {M : Nat → Int32} {n np kind a u : Nat} (ha : a = 5 ∨ a = 9) (hM : PW M n np kind) (hu : 1 ≤ u ∧ u ≤ 3) : ∀ (r fu x : Nat) (g : Nat → Nat → Int32), r < fu → x + r = 25 → 1 ≤ x → PRg g a M → (∀ y, 1 ≤ y → y < x → g 67 (u * 25 + y) = I (wC M n y u - 1000)) →
    ∃ g', f_X7_setPort_15 k8 fu (g, RG) 62 a (I u) (I x) = k8 (g', RG) 62 a (I ((u + 1 : Nat) : Int)) ∧ Sb [67] g g' ∧ (∀ j, j < 25 * u → g' 67 j = g 67 j) ∧ ∀ y, 1 ≤ y → y < 25 → g' 67 (u * 25 + y) = I (wC M n y u - 1000) := by
  intro r
  induction r with
  | zero =>
    intro fu x g hf hx hx1 hR hI
    obtain ⟨fu, rfl⟩ : ∃ k, fu = k + 1 := ⟨fu - 1, by omega⟩
    have : x = 25 := by omega
    subst this
    refine ⟨g, ?_, Sb.rf, fun _ _ => rfl, hI⟩
    simp only [f_X7_setPort_15]
    rw [if_pos (by decide), I_s]
  | succ r ih =>
    intro fu x g hf hx hx1 hR hI
    obtain ⟨fu, rfl⟩ : ∃ k, fu = k + 1 := ⟨fu - 1, by omega⟩
    obtain ⟨g1, hg1⟩ : ∃ g1, g1 = uc g 67 (upd (g 67) (u * 25 + x) (I (wC M n x u - 1000))) := ⟨_, rfl⟩
    have s1 : Sb [67] g g1 := by rw [hg1]; exact Sb.rf.uc (by decide)
    obtain ⟨g', e, s', h1, h2⟩ := ih fu (x + 1) g1 (by omega) (by omega) (by omega) (by
      unfold PRg
      rw [s1 a (by simp; omega), s1 (a + 1) (by simp; omega), s1 (a + 2) (by simp; omega), s1 (a + 3) (by simp; omega)]
      exact hR) (fun y h1 h2 => by
      rw [hg1, uc_s]
      by_cases c : y = x
      · subst c; rw [upd_s]
      · rw [upd_n (by omega)]; exact hI y h1 (by omega))
    refine ⟨g', ?_, Sb.tr s1 s', fun j hj => by rw [h1 j hj, hg1, uc_s, upd_n (by omega)], h2⟩
    rw [← e]
    have e25 : I (u : Int) * 25 + I (x : Int) = I ((u * 25 + x : Nat) : Int) := by rw [show (25 : Int32) = I 25 from rfl, I_mul, I_add]; congr 1
    simp only [f_X7_setPort_15]
    generalize f_X7_setPort_15 k8 fu = lf
    rw [if_neg (fun z => by have := (I_lt (a := 24) (by omega) (by omega)).mp z; omega)]
    simp only [t_61_0, t_61_1, t_61_2, t_61_3, t_61_4, t_61_5, t_61_6, t_61_7, t_62_4, t_62_5, t_62_6, t_62_7, t_62_8, k_61, n_61, k_62, n_62, k_63, n_63, k_64, n_64, k_65, n_65, k_66, n_66, k_67, n_67, k_68, n_68, k_69, n_69, k_70, n_70, k_71, n_71, k_72, n_72, k_73, n_73, k_74, n_74, gd, if_true, reduceIte]
    rw [Y_prx ha hM hR (by omega) hu, bd_w, e25]
    simp only [I_in (show u * 25 + x < 100 by omega) (show 100 < 1000000 by decide), I_ix (show u * 25 + x < 1000000 by omega), if_true, reduceIte]
    rw [lt_w, ← hg1, I_s]
theorem Y_sp8 {M : Nat → Int32} {n np kind a : Nat} (ha : a = 5 ∨ a = 9) (hM : PW M n np kind) : ∀ (r fu u : Nat) (g : Nat → Nat → Int32), r < fu → u + r = 4 → 1 ≤ u → PRg g a M → (∀ t, 1 ≤ t → t < u → ∀ y, 1 ≤ y → y < 25 → g 67 (t * 25 + y) = I (wC M n y t - 1000)) →
    ∃ g', f_X7_setPort_8 fu (g, RG) 62 a (I u) = some ((), (g', RG)) ∧ Sb [67] g g' ∧ ∀ t, 1 ≤ t → t < 4 → ∀ y, 1 ≤ y → y < 25 → g' 67 (t * 25 + y) = I (wC M n y t - 1000) := by
  intro r
  induction r with
  | zero =>
    intro fu u g hf hu hu1 hR hI
    obtain ⟨fu, rfl⟩ : ∃ k, fu = k + 1 := ⟨fu - 1, by omega⟩
    have : u = 4 := by omega
    subst this
    refine ⟨g, ?_, Sb.rf, hI⟩
    rw [f_X7_setPort_8]
    exact if_pos (by decide)
  | succ r ih =>
    intro fu u g hf hu hu1 hR hI
    obtain ⟨fu, rfl⟩ : ∃ k, fu = k + 1 := ⟨fu - 1, by omega⟩
    obtain ⟨g1, e1, s1, h1, h2⟩ := Y_sp15  (f_X7_setPort_8 fu) ha hM (u := u) (by omega) 24 FU 1 g (FU_lt (by omega)) (by omega) (by omega) hR (fun y h1 h2 => absurd h2 (by omega))
    obtain ⟨g', e, s', h'⟩ := ih fu (u + 1) g1 (by omega) (by omega) (by omega) (by
      unfold PRg
      rw [s1 a (by simp; omega), s1 (a + 1) (by simp; omega), s1 (a + 2) (by simp; omega), s1 (a + 3) (by simp; omega)]
      exact hR) (fun t t1 t2 y y1 y2 => by
      by_cases c : t = u
      · subst c; exact h2 y y1 y2
      · have : t * 25 + 25 ≤ u * 25 := by have := Nat.mul_le_mul_right 25 (show t + 1 ≤ u by omega); omega
        rw [h1 _ (by omega)]; exact hI t t1 (by omega) y y1 y2)
    refine ⟨g', ?_, Sb.tr s1 s', h'⟩
    rw [← e, ← e1, f_X7_setPort_8]
    exact if_neg (fun z => by have := (I_lt (a := 3) (by omega) (by omega)).mp z; omega)
theorem Y_fg10 : ∀ (r fu i : Nat) (g : Nat → Nat → Int32), r < fu → i + r = 800 → (∀ j, j < i → g 69 j = -4) →
    ∃ g', f_X5_forget_10 fu (g, RG) 61 (I i) = some ((), (g', RG)) ∧ Sb [69] g g' ∧ ∀ j, j < 800 → g' 69 j = -4 := by
  intro r
  induction r with
  | zero =>
    intro fu i g hf hi hI
    obtain ⟨fu, rfl⟩ : ∃ k, fu = k + 1 := ⟨fu - 1, by omega⟩
    have : i = 800 := by omega
    subst this
    refine ⟨g, ?_, Sb.rf, hI⟩
    rw [f_X5_forget_10]
    exact if_pos (by decide)
  | succ r ih =>
    intro fu i g hf hi hI
    obtain ⟨fu, rfl⟩ : ∃ k, fu = k + 1 := ⟨fu - 1, by omega⟩
    obtain ⟨g', e, s', h'⟩ := ih fu (i + 1) (uc g 69 (upd (g 69) i (-4))) (by omega) (by omega) (fun j hj => by
      rw [uc_s]
      by_cases c : j = i
      · subst c; rw [upd_s]
      · rw [upd_n c]; exact hI j (by omega))
    refine ⟨g', ?_, fun b hb => by rw [s' b hb, uc_n (fun z => hb (by rw [z]; decide))], h'⟩
    rw [← e]
    simp only [f_X5_forget_10]
    rw [if_neg (fun z => by have := (I_le (a := 800) (by omega) (by omega)).mp z; omega)]
    simp only [t_61_0, t_61_1, t_61_2, t_61_3, t_61_4, t_61_5, t_61_6, t_61_7, t_62_4, t_62_5, t_62_6, t_62_7, t_62_8, k_61, n_61, k_62, n_62, k_63, n_63, k_64, n_64, k_65, n_65, k_66, n_66, k_67, n_67, k_68, n_68, k_69, n_69, k_70, n_70, k_71, n_71, k_72, n_72, k_73, n_73, k_74, n_74, gd, if_true, reduceIte, I_in (show i < 800 by omega) (show 800 < 1000000 by decide), I_ix (show i < 1000000 by omega), lt_w, I_s]
theorem Y_forget {g : Nat → Nat → Int32} {M : Nat → Int32} {n np kind a : Nat} (ha : a = 5 ∨ a = 9) (hM : PW M n np kind) (hR : PRg g a M) (h74 : ∀ x, 1 ≤ x → x ≤ 99 → ∃ t : Nat, t < 8 ∧ g 74 x = I t) :
    ∃ g', f_X5_forget (g, RG) 61 a = some ((), (g', RG)) ∧ Sb [62, 67, 69] g g' ∧ SX M n g' := by
  obtain ⟨ka, -⟩ := Pk ha
  obtain ⟨g1, hg1⟩ : ∃ g1, g1 = uc g 62 (upd (g 62) 11 (-4)) := ⟨_, rfl⟩
  have s1 : Sb [62] g g1 := by rw [hg1]; exact Sb.rf.uc (by decide)
  obtain ⟨g2, e2, s2, h2⟩ := Y_sp8  ha hM 3 FU 1 g1 (FU_lt (by omega)) (by omega) (by omega) (by
      unfold PRg
      rw [s1 a (by simp; omega), s1 (a + 1) (by simp; omega), s1 (a + 2) (by simp; omega), s1 (a + 3) (by simp; omega)]
      exact hR) (fun t t1 t2 => absurd t2 (by omega))
  have e2 : f_X7_setPort_8 FU (g1, RG) 62 a 1 = _ := e2
  obtain ⟨g3, e3, s3, h3⟩ := Y_fg10  800 FU 0 g2 (FU_lt (by omega)) (by omega) (fun j hj => absurd hj (by omega))
  have e3 : f_X5_forget_10 FU (g2, RG) 61 0 = _ := e3
  refine ⟨g3, ?_, Sb.tr (Sb.tr (s1.mono (by decide)) (s2.mono (by decide))) (s3.mono (by decide)), fun x u x1 x2 u1 u2 => ?_, Or.inl ?_, fun b s b1 b2 b3 b4 => Or.inl (h3 s (by omega)), fun x x1 x2 => ?_⟩
  · unfold f_X5_forget f_X7_setPort
    revert e2 e3
    generalize f_X7_setPort_8 FU = lf
    generalize f_X5_forget_10 FU = lf2
    intro e2 e3
    rw [gd_t (show kd 61 = 5 from rfl), gd_t ka]
    simp only [t_61_0, t_61_1, t_61_2, t_61_3, t_61_4, t_61_5, t_61_6, t_61_7, t_62_4, t_62_5, t_62_6, t_62_7, t_62_8, k_61, n_61, k_62, n_62, k_63, n_63, k_64, n_64, k_65, n_65, k_66, n_66, k_67, n_67, k_68, n_68, k_69, n_69, k_70, n_70, k_71, n_71, k_72, n_72, k_73, n_73, k_74, n_74, ka, gd, if_true, reduceIte]
    rw [lt_w, ← hg1, e2, bd_w]
    exact e3
  · have hb := wM_b hM x u
    refine ⟨by rw [s3 67 (by decide)]; exact h2 u (by omega) (by omega) x x1 (by omega), ?_⟩
    unfold wC
    split
    · exact hb
    · omega
  · rw [s3 62 (by decide), s2 62 (by decide), hg1, uc_s, upd_s]; rfl
  · rw [s3 74 (by decide), s2 74 (by decide), s1 74 (by decide)]; exact h74 x x1 x2
end T
