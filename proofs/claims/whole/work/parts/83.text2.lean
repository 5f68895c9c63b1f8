/-! the text, on the other side -/
def TM (g : Nat → Nat → Int32) (c : Nat → Nat) (len : Nat) : Prop := g 83 9 = I len ∧ len ≤ 200 ∧ ∀ i, i < len → g 89 i = I (c i : Nat) ∧ c i < 128
def MT (g g' : Nat → Nat → Int32) : Prop := Sb [83, 90] g g' ∧ ∀ j, j ≠ 10 → g' 83 j = g 83 j
theorem MT.rf {g : Nat → Nat → Int32} : MT g g := ⟨Sb.rf, fun _ _ => rfl⟩
theorem MT.tr {g g' g'' : Nat → Nat → Int32} (h : MT g g') (h' : MT g' g'') : MT g g'' := ⟨Sb.tr h.1 h'.1, fun j hj => (h'.2 j hj).trans (h.2 j hj)⟩
theorem MT.at {g : Nat → Nat → Int32} {x : Int32} : MT g (uc g 83 (upd (g 83) 10 x)) := ⟨Sb.rf.uc (by decide), fun j hj => by rw [uc_s, upd_n hj]⟩
theorem MT.fig {g : Nat → Nat → Int32} {f : Nat → Int32} : MT g (uc g 90 f) := ⟨Sb.rf.uc (by decide), fun j _ => by rw [uc_n (by decide)]⟩
theorem TM.f {g g' : Nat → Nat → Int32} {c : Nat → Nat} {len : Nat} (h : TM g c len) (hf : MT g g') : TM g' c len := ⟨by rw [hf.2 9 (by decide)]; exact h.1, h.2.1, by rw [hf.1 89 (by decide)]; exact h.2.2⟩
section T
variable {p q w v : Nat} {ds : Nat → Nat}
theorem M_fig {g : Nat → Nat → Int32} {c : Nat → Nat} {len a : Nat} (hT : TM g c len) (ha : g 83 10 = I a) (ha2 : a ≤ 1000) : f_X12_isFigure (g, RF p q w v ds) 83 = some (if dig c len a then 1 else 0, (g, RF p q w v ds)) := by
  have hl := hT.2.1
  unfold f_X12_isFigure
  rw [gd_t (show kd 83 = 12 from rfl)]
  simp only [hT.1, ha]
  by_cases h : a < len
  · have e := hT.2.2 a h
    rw [if_neg (fun z => by have := (I_le (by omega) (by omega)).mp z; omega)]
    simp only [r_83_1, r_83_2, r_83_3, r_83_4, r_83_6, r_83_8, r_83_11, r_83_13, r_83_15, r_83_19, r_83_20, r_83_21, r_83_22, r_83_24, r_83_25, r_83_26, r_83_28, r_83_29, k_83, n_83, k_84, n_84, k_85, n_85, k_86, n_86, k_87, n_87, k_88, n_88, k_89, n_89, k_90, n_90, k_91, n_91, k_92, n_92, k_93, n_93, k_94, n_94, k_95, n_95, k_96, n_96, k_97, n_97, k_98, n_98, k_99, n_99, k_100, n_100, k_101, n_101, gd, if_true, reduceIte, I_in (show a < 200 by omega) (show 200 < 1000000 by decide), I_ix (show a < 1000000 by omega), e.1, M_in, bd_w]
    rw [I_64c _ (by omega), show (48 : Int64).toInt = 48 by decide, show (57 : Int64).toInt = 57 by decide]
    by_cases d : dig c len a = true
    · have t := dig_t d
      rw [if_pos (show (48 : Int) ≤ (c a : Nat) ∧ ((c a : Nat) : Int) ≤ 57 by omega), if_neg (by decide), if_pos d]
    · have t := dig_f (Bool.eq_false_iff.mpr d)
      rw [if_neg (show ¬ ((48 : Int) ≤ (c a : Nat) ∧ ((c a : Nat) : Int) ≤ 57) by omega), if_pos rfl, if_neg d]
  · have d : ¬ dig c len a = true := fun z => h (dig_t z).1
    rw [if_pos (show I (len : Int) ≤ I (a : Int) from (I_le (by omega) (by omega)).mpr (by omega)), if_neg d]
theorem M_n1 (k2 : Hp → Nat → Int32 → Int32 → Option (Int32 × Hp)) {g : Nat → Nat → Int32} {c : Nat → Nat} {len st b x k fu : Nat} {nn : Int32} (hT : TM g c len) (hb : g 83 10 = I b) (hd : dig c len b = true) (hst : st ≤ b) (h2 : b - st < 2) (hk : k < 3) (hx : g 90 k = I x) (hx9 : x ≤ 99) :
    f_X12_areNumbers_19 k2 (fu + 1) (g, RF p q w v ds) 83 nn (I k) (I st) = f_X12_areNumbers_19 k2 fu (uc (uc g 90 (upd (g 90) k (I ((10 * x + (c b - 48) : Nat) : Int)))) 83 (upd (g 83) 10 (I ((b + 1 : Nat) : Int))), RF p q w v ds) 83 nn (I k) (I st) := by
  have t := dig_t hd
  have hl := hT.2.1
  have ev : (10 : Int32) * I (x : Int) + I (c b : Nat) - 48 = I ((10 * x + (c b - 48) : Nat) : Int) := by
    rw [show (10 : Int32) = I 10 from rfl, show (48 : Int32) = I 48 from rfl, I_mul, I_add, I_sub]; congr 1; omega
  simp only [f_X12_areNumbers_19]
  generalize f_X12_areNumbers_19 k2 fu = lf
  rw [M_fig hT hb (by omega), bd_w, if_pos hd, if_neg (by decide)]
  unfold f_X12_areNumbers_72
  simp only [r_83_1, r_83_2, r_83_3, r_83_4, r_83_6, r_83_8, r_83_11, r_83_13, r_83_15, r_83_19, r_83_20, r_83_21, r_83_22, r_83_24, r_83_25, r_83_26, r_83_28, r_83_29, k_83, n_83, k_84, n_84, k_85, n_85, k_86, n_86, k_87, n_87, k_88, n_88, k_89, n_89, k_90, n_90, k_91, n_91, k_92, n_92, k_93, n_93, k_94, n_94, k_95, n_95, k_96, n_96, k_97, n_97, k_98, n_98, k_99, n_99, k_100, n_100, k_101, n_101, gd, if_true, reduceIte, hb]
  rw [I_sub, if_neg (fun z => by have := (I_le (a := 2) (by omega) (by omega)).mp z; omega)]
  simp only [I_in (show k < 3 by omega) (show 3 < 1000000 by decide), I_ix (show k < 1000000 by omega), hx, I_in (show b < 200 by omega) (show 200 < 1000000 by decide), I_ix (show b < 1000000 by omega), (hT.2.2 b t.1).1, if_true, reduceIte, ev]
  rw [lt_w]
  simp only [uc_n (show 83 ≠ 90 by decide), hb]
  rw [lt_w, uc_n (show 83 ≠ 90 by decide), I_s]
theorem M_n3 (k2 : Hp → Nat → Int32 → Int32 → Option (Int32 × Hp)) {c : Nat → Nat} {len st k : Nat} {nn : Int32} (hk : k < 3) : ∀ (r fu b : Nat) (g : Nat → Nat → Int32), r < fu → len ≤ b + r → TM g c len → g 83 10 = I b → b ≤ 1000 → st + 2 ≤ b → (b = st + 2 → dig c len b = true) →
    ∃ g', f_X12_areNumbers_19 k2 fu (g, RF p q w v ds) 83 nn (I k) (I st) = some (0, (g', RF p q w v ds)) ∧ MT g g' := by
  intro r
  induction r with
  | zero =>
    intro fu b g hf hr hT hb hb2 hst hd
    obtain ⟨fu, rfl⟩ : ∃ k, fu = k + 1 := ⟨fu - 1, by omega⟩
    have hl := hT.2.1
    have d : ¬ dig c len b = true := fun z => by have := (dig_t z).1; omega
    refine ⟨g, ?_, MT.rf⟩
    simp only [f_X12_areNumbers_19]
    rw [M_fig hT hb hb2, bd_w, if_neg d, if_pos rfl]
    simp only [hb]
    rw [I_sub, M_in, bd_w, I_64c _ (by omega), show (1 : Int64).toInt = 1 by decide, show (2 : Int64).toInt = 2 by decide, if_neg (show ¬ ((1 : Int) ≤ (b : Int) - st ∧ (b : Int) - st ≤ 2) by have : b ≠ st + 2 := fun z => d (hd z); omega), if_pos rfl]
    unfold f_X12_areNumbers_144 f_X12_areNumbers_145
    rw [if_pos rfl]
  | succ r ih =>
    intro fu b g hf hr hT hb hb2 hst hd
    obtain ⟨fu, rfl⟩ : ∃ k, fu = k + 1 := ⟨fu - 1, by omega⟩
    have hl := hT.2.1
    by_cases d : dig c len b = true
    · have t := dig_t d
      obtain ⟨g1, hg1⟩ : ∃ g1, g1 = uc (uc g 90 (upd (g 90) k (g 90 k))) 83 (upd (g 83) 10 (I ((b + 1 : Nat) : Int))) := ⟨_, rfl⟩
      have hf1 : MT g g1 := by
        rw [hg1]
        refine ⟨(Sb.rf.uc (by decide)).uc (by decide), fun j hj => by rw [uc_s, upd_n hj]⟩
      obtain ⟨g', e, m'⟩ := ih fu (b + 1) g1 (by omega) (by omega) (hT.f hf1) (by rw [hg1, uc_s, upd_s]) (by omega) (by omega) (fun z => by omega)
      refine ⟨g', ?_, hf1.tr m'⟩
      rw [← e]
      simp only [f_X12_areNumbers_19]
      generalize f_X12_areNumbers_19 k2 fu = lf
      rw [M_fig hT hb (by omega), bd_w, if_pos d, if_neg (by decide)]
      unfold f_X12_areNumbers_72
      simp only [r_83_1, r_83_2, r_83_3, r_83_4, r_83_6, r_83_8, r_83_11, r_83_13, r_83_15, r_83_19, r_83_20, r_83_21, r_83_22, r_83_24, r_83_25, r_83_26, r_83_28, r_83_29, k_83, n_83, k_84, n_84, k_85, n_85, k_86, n_86, k_87, n_87, k_88, n_88, k_89, n_89, k_90, n_90, k_91, n_91, k_92, n_92, k_93, n_93, k_94, n_94, k_95, n_95, k_96, n_96, k_97, n_97, k_98, n_98, k_99, n_99, k_100, n_100, k_101, n_101, gd, if_true, reduceIte, hb]
      rw [I_sub, if_pos (show (2 : Int32) ≤ I ((b : Int) - (st : Int)) from (I_le (a := 2) (by omega) (by omega)).mpr (by omega))]
      simp only [I_in (show k < 3 by omega) (show 3 < 1000000 by decide), I_ix (show k < 1000000 by omega), if_true, reduceIte]
      rw [lt_w]
      simp only [uc_n (show 83 ≠ 90 by decide), hb]
      rw [lt_w, uc_n (show 83 ≠ 90 by decide), I_s, hg1]
    · refine ⟨g, ?_, MT.rf⟩
      simp only [f_X12_areNumbers_19]
      rw [M_fig hT hb hb2, bd_w, if_neg d, if_pos rfl]
      simp only [hb]
      rw [I_sub, M_in, bd_w, I_64c _ (by omega), show (1 : Int64).toInt = 1 by decide, show (2 : Int64).toInt = 2 by decide, if_neg (show ¬ ((1 : Int) ≤ (b : Int) - st ∧ (b : Int) - st ≤ 2) by have : b ≠ st + 2 := fun z => d (hd z); omega), if_pos rfl]
      unfold f_X12_areNumbers_144 f_X12_areNumbers_145
      rw [if_pos rfl]
theorem M_n0 (k2 : Hp → Nat → Int32 → Int32 → Option (Int32 × Hp)) {g : Nat → Nat → Int32} {c : Nat → Nat} {len st b k n s fu : Nat} (hT : TM g c len) (hb : g 83 10 = I b) (hb2 : b ≤ 1000) (hd : ¬ dig c len b = true) (hst : st ≤ b) (hn : 1 ≤ n ∧ n ≤ 3) (hk : k < n) (hs : s = if n - 1 - k = 0 then 59 else 44) :
    f_X12_areNumbers_19 k2 (fu + 1) (g, RF p q w v ds) 83 (I n) (I k) (I st) = if (1 ≤ b - st ∧ b - st ≤ 2) ∧ b < len ∧ c b = s then k2 (uc g 83 (upd (g 83) 10 (I ((b + 1 : Nat) : Int))), RF p q w v ds) 83 (I n) (I ((k + 1 : Nat) : Int)) else some (0, (g, RF p q w v ds)) := by
  have hl := hT.2.1
  simp only [f_X12_areNumbers_19]
  rw [M_fig hT hb hb2, bd_w, if_neg hd, if_pos rfl]
  simp only [hb]
  rw [I_sub, M_in, bd_w, I_64c _ (by omega), show (1 : Int64).toInt = 1 by decide, show (2 : Int64).toInt = 2 by decide]
  unfold f_X12_areNumbers_137 f_X12_areNumbers_144 f_X12_areNumbers_145
  by_cases h12 : 1 ≤ b - st ∧ b - st ≤ 2
  · rw [if_pos (show (1 : Int) ≤ (b : Int) - st ∧ (b : Int) - st ≤ 2 by omega), if_neg (by decide)]
    simp only [hT.1, hb]
    by_cases hlen : b < len
    · have e := hT.2.2 b hlen
      rw [if_neg (fun z => by have := (I_le (by omega) (by omega)).mp z; omega)]
      simp only [r_83_1, r_83_2, r_83_3, r_83_4, r_83_6, r_83_8, r_83_11, r_83_13, r_83_15, r_83_19, r_83_20, r_83_21, r_83_22, r_83_24, r_83_25, r_83_26, r_83_28, r_83_29, k_83, n_83, k_84, n_84, k_85, n_85, k_86, n_86, k_87, n_87, k_88, n_88, k_89, n_89, k_90, n_90, k_91, n_91, k_92, n_92, k_93, n_93, k_94, n_94, k_95, n_95, k_96, n_96, k_97, n_97, k_98, n_98, k_99, n_99, k_100, n_100, k_101, n_101, gd, if_true, reduceIte, I_in (show b < 200 by omega) (show 200 < 1000000 by decide), I_ix (show b < 1000000 by omega), e.1]
      have y1 : ((1 : Int32) = 0) = False := eq_false (by decide)
      have key : ∀ ss : Int32, ss = I (s : Nat) → (if I (c b : Nat) = ss then (if (1 : Int32) = 0 then some ((0 : Int32), (g, RF p q w v ds)) else lt (si (g, RF p q w v ds) 83 10 (I (b : Int) + 1)) (fun h1 => k2 h1 83 (I n) (I k + 1))) else some ((0 : Int32), (g, RF p q w v ds))) = if (1 ≤ b - st ∧ b - st ≤ 2) ∧ b < len ∧ c b = s then k2 (uc g 83 (upd (g 83) 10 (I ((b + 1 : Nat) : Int))), RF p q w v ds) 83 (I n) (I ((k + 1 : Nat) : Int)) else some (0, (g, RF p q w v ds)) := fun ss hss => by
        rw [hss]
        have hs2 : s = 59 ∨ s = 44 := by rw [hs]; split <;> omega
        by_cases hcs : c b = s
        · rw [if_pos (show I (c b : Nat) = I (s : Nat) by rw [hcs]), if_neg (by decide), lt_w, I_s, I_s, if_pos ⟨h12, hlen, hcs⟩]
        · rw [if_neg (fun z => hcs (by have := (I_inj (by omega) (by omega)).mp z; omega)), if_neg (fun z => hcs z.2.2)]
      rw [I_p hn.1]
      by_cases c0 : n - 1 - k = 0
      · rw [if_pos (show I ((n - 1 : Nat) : Int) ≤ I (k : Int) from (I_le (by omega) (by omega)).mpr (by omega))]
        rw [if_pos c0] at hs
        exact key 59 (by rw [hs]; rfl)
      · rw [if_neg (show ¬ I ((n - 1 : Nat) : Int) ≤ I (k : Int) from fun z => by have := (I_le (by omega) (by omega)).mp z; omega)]
        rw [if_neg c0] at hs
        exact key 44 (by rw [hs]; rfl)
    · rw [if_pos (show I (len : Int) ≤ I (b : Int) from (I_le (by omega) (by omega)).mpr (by omega)), if_pos trivial, if_neg (fun z => hlen z.2.1)]
  · rw [if_neg (show ¬ ((1 : Int) ≤ (b : Int) - st ∧ (b : Int) - st ≤ 2) by omega), if_pos rfl, if_pos rfl, if_neg (fun z => h12 z.1)]
theorem M_an1 (k2 : Hp → Nat → Int32 → Int32 → Option (Int32 × Hp)) {g : Nat → Nat → Int32} {c : Nat → Nat} {len a k n s : Nat} (hT : TM g c len) (ha : g 83 10 = I a) (ha2 : a ≤ 200) (hn : 1 ≤ n ∧ n ≤ 3) (hk : k < n) (hs : s = if n - 1 - k = 0 then 59 else 44) (hz : g 90 k = I ((0 : Nat) : Int)) :
    ∃ g', MT g g' ∧ (∀ j, j ≠ k → g' 90 j = g 90 j ∨ nms c len a s = none) ∧ (nms c len a s = none → f_X12_areNumbers_19 k2 FU (g, RF p q w v ds) 83 (I n) (I k) (I a) = some (0, (g', RF p q w v ds))) ∧ ∀ x b, nms c len a s = some (x, b) → f_X12_areNumbers_19 k2 FU (g, RF p q w v ds) 83 (I n) (I k) (I a) = k2 (g', RF p q w v ds) 83 (I n) (I ((k + 1 : Nat) : Int)) ∧ g' 83 10 = I b ∧ g' 90 k = I x := by
  obtain ⟨fu, hFU⟩ : ∃ fu, FU = fu + 700 := ⟨99300, rfl⟩
  rw [hFU]
  have hl := hT.2.1
  have hs2 : s = 59 ∨ s = 44 := by rw [hs]; split <;> omega
  by_cases d0 : dig c len a = true
  · have t0 := dig_t d0
    obtain ⟨g1, hg1⟩ : ∃ g1, g1 = uc (uc g 90 (upd (g 90) k (I ((10 * 0 + (c a - 48) : Nat) : Int)))) 83 (upd (g 83) 10 (I ((a + 1 : Nat) : Int))) := ⟨_, rfl⟩
    have e1 := M_n1 (p := p) (q := q) (w := w) (v := v) (ds := ds) k2 (fu := fu + 699) (nn := I n) hT ha d0 (Nat.le_refl a) (by omega) (show k < 3 by omega) hz (by decide)
    rw [← hg1] at e1
    have hf1 : MT g g1 := by rw [hg1]; exact ⟨(Sb.rf.uc (by decide)).uc (by decide), fun j hj => by rw [uc_s, upd_n hj]⟩
    have a1 : g1 83 10 = I ((a + 1 : Nat) : Int) := by rw [hg1, uc_s, upd_s]
    have x1 : g1 90 k = I ((c a - 48 : Nat) : Int) := by rw [hg1, uc_n (by decide), uc_s, upd_s]; congr 2; omega
    have o1 : ∀ j, j ≠ k → g1 90 j = g 90 j := fun j hj => by rw [hg1, uc_n (by decide), uc_s, upd_n hj]
    have hT1 := hT.f hf1
    by_cases d1 : dig c len (a + 1) = true
    · have t1 := dig_t d1
      obtain ⟨g2, hg2⟩ : ∃ g2, g2 = uc (uc g1 90 (upd (g1 90) k (I ((10 * (c a - 48) + (c (a + 1) - 48) : Nat) : Int)))) 83 (upd (g1 83) 10 (I ((a + 1 + 1 : Nat) : Int))) := ⟨_, rfl⟩
      have e2 := M_n1 (p := p) (q := q) (w := w) (v := v) (ds := ds) k2 (fu := fu + 698) (nn := I n) (st := a) hT1 a1 d1 (by omega) (by omega) (show k < 3 by omega) x1 (by omega)
      rw [← hg2] at e2
      have hf2 : MT g1 g2 := by rw [hg2]; exact ⟨(Sb.rf.uc (by decide)).uc (by decide), fun j hj => by rw [uc_s, upd_n hj]⟩
      have a2 : g2 83 10 = I ((a + 2 : Nat) : Int) := by rw [hg2, uc_s, upd_s]
      have x2 : g2 90 k = I ((10 * (c a - 48) + (c (a + 1) - 48) : Nat) : Int) := by rw [hg2, uc_n (by decide), uc_s, upd_s]
      have o2 : ∀ j, j ≠ k → g2 90 j = g 90 j := fun j hj => by rw [hg2, uc_n (by decide), uc_s, upd_n hj, o1 j hj]
      have hT2 := hT1.f hf2
      have hnm : nms c len a s = if a + 2 < len ∧ c (a + 2) = s then some (10 * (c a - 48) + (c (a + 1) - 48), a + 3) else none := by unfold nms; rw [if_pos d0, if_pos d1]
      by_cases d2 : dig c len (a + 2) = true
      · have t2 := dig_t d2
        have hno : nms c len a s = none := by rw [hnm]; exact if_neg (fun z => by omega)
        obtain ⟨g3, e3, m3⟩ := M_n3 (p := p) (q := q) (w := w) (v := v) (ds := ds) k2 (nn := I n) (st := a) (show k < 3 by omega) 250 (fu + 698) (a + 2) g2 (by omega) (by omega) hT2 a2 (by omega) (by omega) (fun _ => d2)
        refine ⟨g3, (hf1.tr hf2).tr m3, fun j hj => Or.inr hno, fun _ => ?_, fun x b hz => by rw [hno] at hz; cases hz⟩
        rw [← e3, ← e2, ← e1]
      · have e3 := M_n0 (p := p) (q := q) (w := w) (v := v) (ds := ds) k2 (fu := fu + 697) (st := a) hT2 a2 (by omega) d2 (by omega) hn hk hs
        by_cases hsep : a + 2 < len ∧ c (a + 2) = s
        · rw [if_pos ⟨by omega, hsep⟩] at e3
          rw [if_pos hsep] at hnm
          refine ⟨uc g2 83 (upd (g2 83) 10 (I ((a + 2 + 1 : Nat) : Int))), (hf1.tr hf2).tr MT.at, fun j hj => Or.inl (by rw [uc_n (by decide)]; exact o2 j hj), fun z => (by rw [hnm] at z; cases z), fun x b hz => ?_⟩
          rw [hnm] at hz
          have hz := Option.some.inj hz
          have y1 := congrArg Prod.fst hz
          have y2 := congrArg Prod.snd hz
          simp only at y1 y2
          subst y1 y2
          exact ⟨by rw [← e3, ← e2, ← e1], by rw [uc_s, upd_s], by rw [uc_n (by decide)]; exact x2⟩
        · rw [if_neg (fun z => hsep z.2)] at e3
          rw [if_neg hsep] at hnm
          exact ⟨g2, hf1.tr hf2, fun j hj => Or.inl (o2 j hj), fun _ => by rw [← e3, ← e2, ← e1], fun x b hz => by rw [hnm] at hz; cases hz⟩
    · have e2 := M_n0 (p := p) (q := q) (w := w) (v := v) (ds := ds) k2 (fu := fu + 698) (st := a) hT1 a1 (by omega) d1 (by omega) hn hk hs
      have hnm : nms c len a s = if a + 1 < len ∧ c (a + 1) = s then some (c a - 48, a + 2) else none := by unfold nms; rw [if_pos d0, if_neg d1]
      by_cases hsep : a + 1 < len ∧ c (a + 1) = s
      · rw [if_pos ⟨by omega, hsep⟩] at e2
        rw [if_pos hsep] at hnm
        refine ⟨uc g1 83 (upd (g1 83) 10 (I ((a + 1 + 1 : Nat) : Int))), hf1.tr MT.at, fun j hj => Or.inl (by rw [uc_n (by decide)]; exact o1 j hj), fun z => (by rw [hnm] at z; cases z), fun x b hz => ?_⟩
        rw [hnm] at hz
        have hz := Option.some.inj hz
        have y1 := congrArg Prod.fst hz
        have y2 := congrArg Prod.snd hz
        simp only at y1 y2
        subst y1 y2
        exact ⟨by rw [← e2, ← e1], by rw [uc_s, upd_s], by rw [uc_n (by decide)]; exact x1⟩
      · rw [if_neg (fun z => hsep z.2)] at e2
        rw [if_neg hsep] at hnm
        exact ⟨g1, hf1, fun j hj => Or.inl (o1 j hj), fun _ => by rw [← e2, ← e1], fun x b hz => by rw [hnm] at hz; cases hz⟩
  · have e1 := M_n0 (p := p) (q := q) (w := w) (v := v) (ds := ds) k2 (fu := fu + 699) (st := a) hT ha (by omega) d0 (Nat.le_refl _) hn hk hs
    rw [if_neg (fun z => by omega)] at e1
    have hnm : nms c len a s = none := by unfold nms; rw [if_neg d0]
    exact ⟨g, MT.rf, fun j _ => Or.inl rfl, fun _ => e1, fun x b hz => by rw [hnm] at hz; cases hz⟩
theorem M_an {c : Nat → Nat} {len n : Nat} (hn : 1 ≤ n ∧ n ≤ 3) : ∀ (r fu k a : Nat) (g : Nat → Nat → Int32), r < fu → k + r = n → TM g c len → g 83 10 = I a → a ≤ 200 →
    ∃ b g', f_X12_areNumbers_2 fu (g, RF p q w v ds) 83 (I n) (I k) = some (b, (g', RF p q w v ds)) ∧ MT g g' ∧ (ags c len r a = none → b = 0) ∧ ∀ L e, ags c len r a = some (L, e) → b = 1 ∧ g' 83 10 = I e ∧ (∀ j, j < k → g' 90 j = g 90 j) ∧ ∀ j, j < r → g' 90 (k + j) = I ((L.getD j 0 : Nat) : Int) := by
  intro r
  induction r with
  | zero =>
    intro fu k a g hf hk hT ha ha2
    obtain ⟨fu, rfl⟩ : ∃ k, fu = k + 1 := ⟨fu - 1, by omega⟩
    have : k = n := by omega
    subst this
    refine ⟨1, g, ?_, MT.rf, fun z => (by cases z), fun L e h => ⟨rfl, ?_, fun _ _ => rfl, fun j hj => absurd hj (by omega)⟩⟩
    · rw [f_X12_areNumbers_2]
      exact if_pos ((I_le (by omega) (by omega)).mpr (by omega))
    · have := congrArg Prod.snd (Option.some.inj h)
      simp only at this
      rw [ha, this]
  | succ r ih =>
    intro fu k a g hf hk hT ha ha2
    obtain ⟨fu, rfl⟩ : ∃ k, fu = k + 1 := ⟨fu - 1, by omega⟩
    have hlen := hT.2.1
    obtain ⟨g0, hg0⟩ : ∃ g0, g0 = uc g 90 (upd (g 90) k 0) := ⟨_, rfl⟩
    have hf0 : MT g g0 := by rw [hg0]; exact MT.fig
    obtain ⟨s, hs⟩ : ∃ s, s = (if r = 0 then 59 else 44) := ⟨_, rfl⟩
    obtain ⟨g1, m1, m2, m3, m4⟩ := M_an1 (p := p) (q := q) (w := w) (v := v) (ds := ds) (f_X12_areNumbers_2 fu) (k := k) (s := s) (hT.f hf0) (show g0 83 10 = I a by rw [hg0, uc_n (by decide)]; exact ha) ha2 hn (by omega) (by rw [show n - 1 - k = r by omega]; exact hs) (by rw [hg0, uc_s, upd_s]; rfl)
    have e0 : f_X12_areNumbers_2 (fu + 1) (g, RF p q w v ds) 83 (I n) (I k) = f_X12_areNumbers_19 (f_X12_areNumbers_2 fu) FU (g0, RF p q w v ds) 83 (I n) (I k) (I a) := by
      simp only [f_X12_areNumbers_2]
      generalize f_X12_areNumbers_19 (f_X12_areNumbers_2 fu) FU = lf
      rw [if_neg (fun z => by have := (I_le (by omega) (by omega)).mp z; omega)]
      simp only [r_83_1, r_83_2, r_83_3, r_83_4, r_83_6, r_83_8, r_83_11, r_83_13, r_83_15, r_83_19, r_83_20, r_83_21, r_83_22, r_83_24, r_83_25, r_83_26, r_83_28, r_83_29, k_83, n_83, k_84, n_84, k_85, n_85, k_86, n_86, k_87, n_87, k_88, n_88, k_89, n_89, k_90, n_90, k_91, n_91, k_92, n_92, k_93, n_93, k_94, n_94, k_95, n_95, k_96, n_96, k_97, n_97, k_98, n_98, k_99, n_99, k_100, n_100, k_101, n_101, gd, if_true, reduceIte, I_in (show k < 3 by omega) (show 3 < 1000000 by decide), I_ix (show k < 1000000 by omega), ha]
      rw [lt_w, ← hg0]
    rw [e0, ags_s, ← hs]
    cases hnm : nms c len a s with
    | none => exact ⟨0, g1, m3 hnm, hf0.tr m1, fun _ => rfl, fun L e hz => by cases hz⟩
    | some xb =>
      obtain ⟨x, b⟩ := xb
      obtain ⟨q1, q2, q3⟩ := m4 x b hnm
      have hb := nms_b hnm
      obtain ⟨bb, g', y1, y2, y3, y4⟩ := ih fu (k + 1) b g1 (by omega) (by omega) ((hT.f hf0).f m1) q2 (by omega)
      refine ⟨bb, g', q1.trans y1, (hf0.tr m1).tr y2, fun hz => ?_, fun L e hz => ?_⟩
      · apply y3
        cases hq : ags c len r b with
        | none => rfl
        | some y => simp only [Option.bind, hq, Option.map] at hz; cases hz
      · cases hq : ags c len r b with
        | none => simp only [Option.bind, hq, Option.map] at hz; cases hz
        | some y =>
          obtain ⟨L', e'⟩ := y
          simp only [Option.bind, hq, Option.map] at hz
          have hz := Option.some.inj hz
          have w1 := congrArg Prod.fst hz
          have w2 := congrArg Prod.snd hz
          simp only at w1 w2
          subst w1 w2
          obtain ⟨z1, z2, z3, z4⟩ := y4 L' e' hq
          have o1 : ∀ j, j ≠ k → g1 90 j = g 90 j := fun j hj => by
            rcases m2 j hj with z | z
            · rw [z, hg0, uc_s, upd_n hj]
            · rw [hnm] at z; cases z
          refine ⟨z1, z2, fun j hj => by rw [z3 j (by omega), o1 j (by omega)], fun j hj => ?_⟩
          cases j with
          | zero => rw [Nat.add_zero, z3 k (by omega), q3]; rfl
          | succ j => rw [show k + (j + 1) = k + 1 + j by omega, z4 j (by omega)]; rfl
end T
