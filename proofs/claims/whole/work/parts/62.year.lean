/-! year: the draws -/
def dE (x2 x3 x4 : Int32) : Int32 := ((((((((7919 : Int64) * x2.toInt64) + ((6151 : Int64) * x3.toInt64)) + ((101 : Int64) * x4.toInt64)) + (1 : Int64)) * (((((7919 : Int64) * x2.toInt64) + ((6151 : Int64) * x3.toInt64)) + ((101 : Int64) * x4.toInt64)) + (1 : Int64))) - ((((((7919 : Int64) * x2.toInt64) + ((6151 : Int64) * x3.toInt64)) + ((101 : Int64) * x4.toInt64)) + (1 : Int64)) * (((((7919 : Int64) * x2.toInt64) + ((6151 : Int64) * x3.toInt64)) + ((101 : Int64) * x4.toInt64)) + (1 : Int64))) / (65521 : Int64) * (65521 : Int64)) - (((((((7919 : Int64) * x2.toInt64) + ((6151 : Int64) * x3.toInt64)) + ((101 : Int64) * x4.toInt64)) + (1 : Int64)) * (((((7919 : Int64) * x2.toInt64) + ((6151 : Int64) * x3.toInt64)) + ((101 : Int64) * x4.toInt64)) + (1 : Int64))) - ((((((7919 : Int64) * x2.toInt64) + ((6151 : Int64) * x3.toInt64)) + ((101 : Int64) * x4.toInt64)) + (1 : Int64)) * (((((7919 : Int64) * x2.toInt64) + ((6151 : Int64) * x3.toInt64)) + ((101 : Int64) * x4.toInt64)) + (1 : Int64))) / (65521 : Int64) * (65521 : Int64)) / (99 : Int64) * (99 : Int64)).toInt32 + (1 : Int32)
def J (z : Int) : Int64 := Int64.ofInt z
theorem J_toInt {z : Int} (h1 : -9223372036854775808 ≤ z) (h2 : z < 9223372036854775808) : (J z).toInt = z := by
  unfold J
  rw [Int64.toInt_ofInt]
  apply Int.bmod_eq_of_le <;> simp [Int64.size] <;> omega
theorem J_add (a b : Int) : J a + J b = J (a + b) := (Int64.ofInt_add a b).symm
theorem J_sub (a b : Int) : J a - J b = J (a - b) := (Int64.ofInt_sub a b).symm
theorem J_mul (a b : Int) : J a * J b = J (a * b) := (Int64.ofInt_mul a b).symm
theorem J_I {z : Int} (h1 : -2147483648 ≤ z) (h2 : z < 2147483648) : (I z).toInt64 = J z := by
  apply Int64.toInt_inj.mp
  rw [I_64 h1 h2, J_toInt (by omega) (by omega)]
theorem J_divn {a b : Int} (h0 : 0 ≤ a) (h1 : a < 9223372036854775808) (hb : 0 < b) (hb2 : b < 9223372036854775808) : J a / J b = J (a / b) := by
  have hd : a / b ≤ a := Int.ediv_le_self _ h0
  have hd0 : 0 ≤ a / b := Int.ediv_nonneg h0 (by omega)
  apply Int64.toInt_inj.mp
  rw [Int64.toInt_div, J_toInt (by omega) (by omega), J_toInt (by omega) (by omega), J_toInt (by omega) (by omega)]
  rw [Int.tdiv_eq_ediv_of_nonneg h0]
  apply Int.bmod_eq_of_le <;> simp [Int64.size] <;> omega
theorem J_32 (z : Int) : (J z).toInt32 = I z := by
  unfold J I
  exact Int64.toInt32_ofInt
def xI (z k i : Nat) : Int := 7919 * z + 6151 * k + 101 * i + 1
def dr (z k i : Nat) : Nat := (xI z k i * xI z k i % 65521 % 99 + 1).toNat
theorem dr_b (z k i : Nat) : 1 ≤ dr z k i ∧ dr z k i ≤ 99 := by
  unfold dr
  have h1 := Int.emod_nonneg (xI z k i * xI z k i % 65521) (show (99 : Int) ≠ 0 by decide)
  have h2 := Int.emod_lt_of_pos (xI z k i * xI z k i % 65521) (show (0 : Int) < 99 by decide)
  omega
theorem dE_e {z k i : Nat} (hz : z ≤ 9999) (hk : k ≤ 100) (hi : i ≤ 100) : dE (I z) (I k) (I i) = I (dr z k i : Nat) := by
  have hx0 : 0 ≤ xI z k i := by unfold xI; omega
  have hx1 : xI z k i ≤ 80000000 := by unfold xI; omega
  have hxx : xI z k i * xI z k i ≤ 80000000 * 80000000 := Int.mul_le_mul hx1 hx1 hx0 (by decide)
  have hxx0 : 0 ≤ xI z k i * xI z k i := Int.mul_nonneg hx0 hx0
  have e : (((7919 : Int64) * (I (z : Int)).toInt64) + ((6151 : Int64) * (I (k : Int)).toInt64)) + ((101 : Int64) * (I (i : Int)).toInt64) + (1 : Int64) = J (xI z k i) := by
    rw [J_I (by omega) (by omega), J_I (by omega) (by omega), J_I (by omega) (by omega)]
    show J 7919 * J z + J 6151 * J k + J 101 * J i + J 1 = _
    rw [J_mul, J_mul, J_mul, J_add, J_add, J_add]
    rfl
  unfold dE
  rw [e, J_mul]
  generalize hX : xI z k i * xI z k i = X at *
  have q1 := Int.mul_ediv_add_emod X 65521
  have m1 := Int.emod_nonneg X (show (65521 : Int) ≠ 0 by decide)
  have m2 := Int.emod_lt_of_pos X (show (0 : Int) < 65521 by decide)
  have e1 : J X - J X / (65521 : Int64) * (65521 : Int64) = J (X % 65521) := by
    show J X - J X / J 65521 * J 65521 = _
    rw [J_divn hxx0 (by omega) (by decide) (by decide), J_mul, J_sub]
    congr 1
    omega
  rw [e1]
  have e2 : J (X % 65521) - J (X % 65521) / (99 : Int64) * (99 : Int64) = J (X % 65521 % 99) := by
    show J (X % 65521) - J (X % 65521) / J 99 * J 99 = _
    rw [J_divn m1 (by omega) (by decide) (by decide), J_mul, J_sub]
    congr 1
    omega
  rw [e2, J_32]
  show I _ + I 1 = _
  rw [I_add]
  congr 1
  unfold dr
  rw [hX]
  omega
theorem setDrawn_s (fu : Nat) (h : Hp) (x0 : Nat) (x2 x3 x4 : Int32) : f_X6_setDrawn_8 (fu + 1) h x0 x2 x3 x4 = if (6 : Int32) ≤ x4 then some ((), h) else gd (kd (h.2 x0 5) = 13) <| gd (inr x4 (ln (h.2 x0 5)) = true) <| lt ((si h (h.2 x0 5) x4.toNatClampNeg (dE x2 x3 x4))) fun h3 => f_X6_setDrawn_8 fu h3 x0 x2 x3 (x4 + (1 : Int32)) := by
  rw [f_X6_setDrawn_8]
  rfl
/-- a day that begins -/
def dawnT (f : Int32) (k : Nat) : Int32 := if k = 1 then f else if k < 3 then 0 else I (-4)
theorem dawnT_w {f : Int32} (hf : f = 0 ∨ f = 1) (n np : Nat) : DW (dawnT f) n np := by
  refine ⟨fun j _ _ => bt_0 j, ⟨0, Nat.zero_le _, rfl⟩, hf, fun j _ => Or.inl ?_, fun j _ => Or.inl ?_⟩
  · unfold dawnT; rw [if_neg (by omega), if_neg (by omega)]
  · unfold dawnT; rw [if_neg (by omega), if_neg (by omega)]
theorem dawnT_r {f : Int32} {d0 d1 d2 : Nat → Int32} (h2 : d0 2 = 0) (h3 : d0 3 = 0) (h4 : d0 4 = f) (hd1 : ∀ i, i < 8 → d1 i = 0) (hd2 : ∀ i, i < 6 → d2 i = 0) : DR d0 d1 d2 (dawnT f) := by
  refine ⟨⟨h2, h3, h4⟩, fun i hi j hj => ?_, fun i hi j hj => ?_⟩
  · have e : dawnT f (3 + j) = I (-4) := by unfold dawnT; rw [if_neg (by omega), if_neg (by omega)]
    rw [hd1 i hi, bt_0, e, decide_eq_false (show ¬ I (-4) = I (i : Int) from fun z => I_ne4 (k := i) (by omega) z.symm), Bool.and_false]
  · have e : dawnT f (27 + j) = I (-4) := by unfold dawnT; rw [if_neg (by omega), if_neg (by omega)]
    rw [hd2 i hi, bt_0, e, decide_eq_false (show ¬ I (-4) = I (i : Int) from fun z => I_ne4 (k := i) (by omega) z.symm), Bool.and_false]
/-- whose numbers, on a day of a year -/
theorem ow_free {c0 c1 c2 c3 M : Nat → Int32} {n np kind : Nat} (hP : PR c0 c1 c2 c3 M) (hM : PW M n np kind) {i : Nat} (h6 : i < 6) : (allM n &&& (orr 6 c2 ^^^ (-1))) ||| c2 i = owM n M (dawnT 0) 0 i := by
  have := ow_eq (d0 := fun _ => 0) (d1 := fun _ => 0) (d2 := fun _ => 0) hP hM (dawnT_r rfl rfl rfl (fun _ _ => rfl) (fun _ _ => rfl)) (dawnT_w (Or.inl rfl) n np) h6
  rw [or_z] at this
  exact this
theorem owY {n i : Nat} {M : Nat → Int32} (hn : n ≤ 24) (hi : i < 1000) : mk n (fun j => decide (M (29 + j) = I (-4) ∨ M (29 + j) = I i)) = owM n M (dawnT 0) 0 i := by
  apply bt_ext
  intro j hj
  rw [bt_mk (by omega) _ hj, owM_bt hn hj]
  have e : dawnT 0 (27 + j) = I (-4) := by unfold dawnT; rw [if_neg (by omega), if_neg (by omega)]
  congr 1
  apply decide_eq_decide.mpr
  rw [e]
  constructor
  · rintro (h | h)
    · exact Or.inl h
    · exact Or.inr (Or.inl h)
  · rintro (h | h | h | h)
    · exact Or.inl h
    · exact Or.inr h
    · exact absurd h.symm (I_ne4 (by omega))
    · omega
/-- how many can -/
def ycan (M : Nat → Int32) (kind : Nat) (O : Nat → Int32) (A : Nat → Nat) : List Nat → Int32 → Nat
  | [], _ => 0
  | i :: l, t => (if BT M kind (O i &&& (t ^^^ (-1))) (A i) = [] then 0 else 1) + ycan M kind O A l (t ||| us (BT M kind (O i &&& (t ^^^ (-1))) (A i)))
theorem ycan_e {M : Nat → Int32} {kind : Nat} {O : Nat → Int32} {A : Nat → Nat} : ∀ (m i : Nat) (t s : Int32), i + m ≤ 32 → (∀ j, i ≤ j → bt s j = false) → pc 32 (stk M kind O A (List.range' i m) t s) + ycan M kind O A (List.range' i m) t = pc 32 s + m := by
  intro m
  induction m with
  | zero => intro i t s _ _; rfl
  | succ m ih =>
    intro i t s hi hs
    rw [List.range'_succ]
    show pc 32 (stk M kind O A (List.range' (i + 1) m) _ (if BT M kind (O i &&& (t ^^^ (-1))) (A i) = [] then s ||| b1 i else s)) + ((if BT M kind (O i &&& (t ^^^ (-1))) (A i) = [] then 0 else 1) + ycan M kind O A (List.range' (i + 1) m) _) = _
    by_cases c : BT M kind (O i &&& (t ^^^ (-1))) (A i) = []
    · rw [if_pos c, if_pos c]
      have h1 := ih (i + 1) (t ||| us (BT M kind (O i &&& (t ^^^ (-1))) (A i))) (s ||| b1 i) (by omega) (fun j hj => by
        rw [bt_or, hs j (by omega)]
        rcases Nat.lt_or_ge j 32 with q | q
        · rw [bt_b1 (by omega) q, decide_eq_false (by omega)]; rfl
        · rw [bt_big q]; rfl)
      have h2 := pc_ins (y := s) (k := i) (by omega) (hs i (Nat.le_refl _)) 32 (Nat.le_refl _)
      have h3 : b1 i ||| s = s ||| b1 i := by apply bt_ext; intro j hj; rw [bt_or, bt_or, Bool.or_comm]
      rw [h3, if_pos (by omega)] at h2
      omega
    · rw [if_neg c, if_neg c]
      have h1 := ih (i + 1) (t ||| us (BT M kind (O i &&& (t ^^^ (-1))) (A i))) s (by omega) (fun j hj => hs j (by omega))
      omega
theorem pc_z : ∀ {x : Int32} (n : Nat), pc n x = 0 → ∀ i, i < n → bt x i = false := by
  intro x n
  induction n with
  | zero => intro _ i hi; omega
  | succ n ih =>
    intro h i hi
    have h : pc n x + (if bt x n then 1 else 0) = 0 := h
    by_cases e : i = n
    · subst e
      cases hb : bt x i
      · rfl
      · rw [hb] at h; simp at h
    · exact ih (by omega) i (by omega)
theorem pc_0 {x : Int32} : pc 32 x = 0 ↔ x = 0 := by
  constructor
  · intro h
    apply bt_ext
    intro i hi
    rw [pc_z 32 h i hi, bt_0]
  · intro h; rw [h]; decide
theorem whl_all {np : Nat} (h : np ≤ 6) : whl (allM np) 0 np = List.range' 0 np := by
  unfold whl
  rw [List.filter_eq_self]
  intro x hx
  have := List.mem_range'_1.mp hx
  rw [bt_all (by omega) (by omega), decide_eq_true_eq]
  omega
section T
variable {p q w v : Nat} {ds : Nat → Nat}
theorem X_drw_lp {z k : Nat} (hz : z ≤ 9999) (hk : k ≤ 100) : ∀ (m fu i : Nat) (g : Nat → Nat → Int32), m < fu → i + m = 6 → (∀ j, j < i → g 76 j = I (dr z k j : Nat)) →
    ∃ g', f_X6_setDrawn_8 fu (g, RF p q w v ds) 75 (I z) (I k) (I i) = some ((), (g', RF p q w v ds)) ∧ Sb [76] g g' ∧ ∀ j, j < 6 → g' 76 j = I (dr z k j : Nat) := by
  intro m
  induction m with
  | zero =>
    intro fu i g hf hi hE
    obtain ⟨fu, rfl⟩ : ∃ k, fu = k + 1 := ⟨fu - 1, by omega⟩
    have c1 : (6 : Int32) ≤ I (i : Int) := (I_le (a := 6) (by omega) (by omega)).mpr (by omega)
    refine ⟨g, ?_, Sb.rf, fun j hj => hE j (by omega)⟩
    rw [setDrawn_s, if_pos c1]
  | succ m ih =>
    intro fu i g hf hi hE
    obtain ⟨fu, rfl⟩ : ∃ k, fu = k + 1 := ⟨fu - 1, by omega⟩
    have c1 : ¬ (6 : Int32) ≤ I (i : Int) := fun z => by have := (I_le (a := 6) (by omega) (by omega)).mp z; omega
    obtain ⟨g', h1, h2, h3⟩ := ih fu (i + 1) (uc g 76 (upd (g 76) i (I (dr z k i : Nat)))) (by omega) (by omega) (fun j hj => by
      rw [uc_s]
      by_cases e : j = i
      · subst e; rw [upd_s]
      · rw [upd_n e]; exact hE j (by omega))
    refine ⟨g', ?_, Sb.tr (Sb.rf.uc (by decide)) h2, h3⟩
    rw [← h1, setDrawn_s, if_neg c1, dE_e hz hk (by omega)]
    clear h1 h2 h3
    generalize I (dr z k i : Nat) = D
    simp only [r_75_5, r_75_6, r_78_5, r_78_6, r_78_7, r_78_8, r_78_9, k_75, n_75, k_76, n_76, k_77, n_77, k_78, n_78, k_79, n_79, k_80, n_80, k_81, n_81, k_82, n_82, gd, if_true, reduceIte, I_in (show i < 6 by omega) (show 6 < 1000000 by omega), I_ix (show i < 1000000 by omega), I_s]
    rw [lt_w]
theorem X_drawn {g : Nat → Nat → Int32} {M : Nat → Int32} {n np kind z k : Nat} (hp : p = 5 ∨ p = 9) (hM : PW M n np kind) (hR : PR (g p) (g (p + 1)) (g (p + 2)) (g (p + 3)) M) (hz : z ≤ 9999) (hk : k ≤ 100) :
    ∃ g', f_X6_setDrawn (g, RF p q w v ds) 75 p (I z) (I k) = some ((), (g', RF p q w v ds)) ∧ Sb [75, 76, 77] g g' ∧ SC g' M n (allM np) kind (owM n M (dawnT 0) 0) (dr z k) ∧ g' 75 2 = 0 := by
  obtain ⟨g1, f1, f2, f3, f4, f5, f6, f7, f8⟩ := X_free (q := q) (w := w) (v := v) (ds := ds) hp hM hR
  obtain ⟨g', h1, h2, h3⟩ := X_drw_lp (p := p) (q := q) (w := w) (v := v) (ds := ds) hz hk 6 FU 0 g1 (FU_lt (by omega)) (by omega) (fun j hj => absurd hj (by omega))
  have h1 : f_X6_setDrawn_8 FU (g1, RF p q w v ds) 75 (I z) (I k) 0 = _ := h1
  have kp := (Pk hp).1
  have k5 : ∀ j, g' 75 j = g1 75 j := fun j => by rw [h2 75 (by decide)]
  have k7 : g' 77 = g1 77 := h2 77 (by decide)
  refine ⟨g', ?_, Sb.tr (f2.mono (by decide)) (h2.mono (by decide)), ⟨by rw [k5]; exact f3, by rw [k5]; exact f7, hM.2.2.2.2.2.1, fun i hi => ⟨?_, LO_mk hM.2.1.2 _⟩, fun i hi _ => ⟨h3 i hi, dr_b z k i⟩⟩, by rw [k5]; exact f5⟩
  · unfold f_X6_setDrawn
    revert h1 f1
    generalize f_X6_setDrawn_8 FU = lf
    generalize f_X6_setFree = ff
    intro f1 h1
    rw [gd_t (show kd 75 = 6 from rfl), gd_t kp, f1, bd_w, h1]
  · rw [k5, f6, k7, f8 i hi]
    exact ow_free hR hM hi
/-- who is stuck on a day of a year -/
def yst (M : Nat → Int32) (n np kind z k : Nat) : Int32 := stk M kind (owM n M (dawnT 0) 0) (dr z k) (List.range' 0 np) 0 0
def yR (M : Nat → Int32) (n np kind z : Nat) : Nat → Nat → Nat → Nat → Nat × Nat
  | 0, _, tm, dy => (tm, dy)
  | r + 1, k, tm, dy => yR M n np kind z r (k + 1) (tm + pc 32 (yst M n np kind z k)) (if yst M n np kind z k = 0 then dy + 1 else dy)
theorem X_yr {M T : Nat → Int32} {n np kind z nd : Nat} {what : Int32} (hz : z ≤ 9999) (hd : nd ≤ 30) : ∀ (r fu k tm dy : Nat) (G : Nat → Nat → Int32), r < fu → k + r = nd → XI G p M T n np kind →
    ∃ G', f_X11_year_42 fu (G, RF p q w v ds) 1 (I z) (I nd) what (I tm) (I dy) (I k) = some (if what = 0 then I ((yR M n np kind z r k tm dy).1 : Nat) else I ((yR M n np kind z r k tm dy).2 : Nat), (G', RF p q w v ds)) ∧ Sb QC G G' ∧ XI G' p M T n np kind := by
  intro r
  induction r with
  | zero =>
    intro fu k tm dy G hf hk hG
    obtain ⟨fu, rfl⟩ : ∃ k, fu = k + 1 := ⟨fu - 1, by omega⟩
    have c1 : I (nd : Int) ≤ I (k : Int) := by rw [I_len (by omega) (by omega)]; omega
    refine ⟨G, ?_, Sb.rf, hG⟩
    simp only [f_X11_year_42, if_pos c1, ite_som]
    rfl
  | succ r ih =>
    intro fu k tm dy G hf hk hG
    obtain ⟨fu, rfl⟩ : ∃ k, fu = k + 1 := ⟨fu - 1, by omega⟩
    have kp := (Pk hG.1).1
    have hnp := hG.2.1.2.2.2.1
    have c1 : ¬ I (nd : Int) ≤ I (k : Int) := by rw [I_len (by omega) (by omega)]; omega
    obtain ⟨G1, a1, a2, a3, a4⟩ := X_drawn (q := q) (w := w) (v := v) (ds := ds) hG.1 hG.2.1 hG.2.2.2.1 hz (show k ≤ 100 by omega)
    obtain ⟨G2, b1', b2, b3⟩ := X_stk (p := p) (q := q) (w := w) (v := v) (ds := ds) hG.2.1 (hG.2.2.2.2.2.sc (a2.mono (by decide))) a3
    rw [whl_6 hnp (fun i h1 h2 => by rw [bt_all (by omega) h2]; exact decide_eq_false (by omega)), whl_all hnp, a4] at b1'
    have b1' : f_X1_stuckIn (G1, RF p q w v ds) 78 75 = some (yst M n np kind z k, (G2, RF p q w v ds)) := b1'
    have hG2 : XI G2 p M T n np kind := hG.keep (Sb.tr (a2.mono (by decide)) (b3.mono (by decide))) b2
    obtain ⟨G3, w1, w2, w3⟩ := ih fu (k + 1) (tm + pc 32 (yst M n np kind z k)) (if yst M n np kind z k = 0 then dy + 1 else dy) G2 (by omega) (by omega) hG2
    refine ⟨G3, ?_, Sb.tr (Sb.tr (a2.mono (by decide)) (b3.mono (by decide))) w2, w3⟩
    rw [yR, ← w1]
    clear w1
    generalize yst M n np kind z k = S at *
    simp only [f_X11_year_42, if_neg c1, r_1_0, r_1_1, r_1_2, r_1_3, r_1_4, r_1_5, r_1_6, r_1_7, r_1_8, r_1_9, r_1_10, r_1_11, k_1, n_1, k_75, k_78, kp, gd, if_true, reduceIte, a1, bd_w, b1', Xbc, I_k, I_s, I_p0]
    by_cases c : S = 0
    · rw [if_pos c, if_pos c]
    · rw [if_neg c, if_neg c]
end T
