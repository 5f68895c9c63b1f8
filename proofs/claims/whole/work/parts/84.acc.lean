/-! what an item of the text does to a port -/
def acc (ch l0 l1 l2 : Nat) (on : Bool) (M : Nat → Int32) : Option (Nat → Int32) :=
  if ch = 99 then (if (1 ≤ l0 ∧ l0 ≤ (M 0).toNatClampNeg) ∧ l1 ≤ 9 then some (upd M (4 + l0) (I l1)) else none)
  else if ch = 104 then (if (1 ≤ l0 ∧ l0 ≤ (M 0).toNatClampNeg) ∧ l1 < (M 1).toNatClampNeg then some (upd M (28 + l0) (I l1)) else none)
  else if ch = 107 then (if l0 ≤ 3 ∧ l1 ≤ 9 ∧ l2 ≤ 9 then some (upd (upd (upd M 2 (I l0)) 3 (I l1)) 4 (I l2)) else none)
  else if ch = 110 then (if on = true ∧ 1 ≤ l0 ∧ l0 ≤ 24 then some (upd M 0 (I l0)) else none)
  else if ch = 112 then (if (M 1).toNatClampNeg < 6 ∧ 1 ≤ l0 then some (upd (upd M (53 + (M 1).toNatClampNeg) (I l0)) 1 (I (((M 1).toNatClampNeg + 1 : Nat) : Int))) else none)
  else none
def nbh (ch : Nat) : Nat := if ch = 99 then 2 else if ch = 104 then 2 else if ch = 107 then 3 else if ch = 110 then 1 else if ch = 112 then 1 else 0
def PWo (M : Nat → Int32) (on : Bool) : Prop := ∃ n np kind, PW M n np kind ∧ (on = true → ∀ j, j < 24 → M (29 + j) = I (-4))
theorem acc_pw {ch l0 l1 l2 : Nat} {on : Bool} {M M' : Nat → Int32} (h : PWo M on) (h0 : l0 ≤ 99) (e : acc ch l0 l1 l2 on M = some M') : PWo M' (on && decide (ch = 110)) := by
  obtain ⟨n, np, kind, hM, hO⟩ := h
  obtain ⟨p1, p2, p3, p4, p5, p6, ⟨ll, p7, p7'⟩, ⟨lh, p8, p8'⟩, p9, p10, p11⟩ := hM
  have en : (M 0).toNatClampNeg = n := by rw [p1]; exact I_ix (by omega)
  have enp : (M 1).toNatClampNeg = np := by rw [p3]; exact I_ix (by omega)
  unfold acc at e
  rw [en, enp] at e
  by_cases c1 : ch = 99
  · rw [if_pos c1] at e
    by_cases d : (1 ≤ l0 ∧ l0 ≤ n) ∧ l1 ≤ 9
    · rw [if_pos d] at e
      have e := Option.some.inj e
      subst e
      refine ⟨n, np, kind, ⟨?_, p2, ?_, p4, ?_, p6, ⟨ll, p7, ?_⟩, ⟨lh, p8, ?_⟩, fun j hj => ?_, fun j hj => ?_, fun i hi => ?_⟩, fun z => ?_⟩
      · rw [upd_n (by omega)]; exact p1
      · rw [upd_n (by omega)]; exact p3
      · rw [upd_n (by omega)]; exact p5
      · rw [upd_n (by omega)]; exact p7'
      · rw [upd_n (by omega)]; exact p8'
      · by_cases f : 5 + j = 4 + l0
        · exact ⟨l1, d.2, by rw [f, upd_s]⟩
        · rw [upd_n f]; exact p9 j hj
      · rw [upd_n (by omega)]; exact p10 j hj
      · rw [upd_n (by omega)]; exact p11 i hi
      · rw [c1] at z; simp at z
    · rw [if_neg d] at e; cases e
  rw [if_neg c1] at e
  by_cases c2 : ch = 104
  · rw [if_pos c2] at e
    by_cases d : (1 ≤ l0 ∧ l0 ≤ n) ∧ l1 < np
    · rw [if_pos d] at e
      have e := Option.some.inj e
      subst e
      refine ⟨n, np, kind, ⟨?_, p2, ?_, p4, ?_, p6, ⟨ll, p7, ?_⟩, ⟨lh, p8, ?_⟩, fun j hj => ?_, fun j hj => ?_, fun i hi => ?_⟩, fun z => ?_⟩
      · rw [upd_n (by omega)]; exact p1
      · rw [upd_n (by omega)]; exact p3
      · rw [upd_n (by omega)]; exact p5
      · rw [upd_n (by omega)]; exact p7'
      · rw [upd_n (by omega)]; exact p8'
      · rw [upd_n (by omega)]; exact p9 j hj
      · by_cases f : 29 + j = 28 + l0
        · exact Or.inr ⟨by omega, l1, d.2, by rw [f, upd_s]⟩
        · rw [upd_n f]; exact p10 j hj
      · rw [upd_n (by omega)]; exact p11 i hi
      · rw [c2] at z; simp at z
    · rw [if_neg d] at e; cases e
  rw [if_neg c2] at e
  by_cases c3 : ch = 107
  · rw [if_pos c3] at e
    by_cases d : l0 ≤ 3 ∧ l1 ≤ 9 ∧ l2 ≤ 9
    · rw [if_pos d] at e
      have e := Option.some.inj e
      subst e
      refine ⟨n, np, l0, ⟨?_, p2, ?_, p4, ?_, d.1, ⟨l1, d.2.1, ?_⟩, ⟨l2, d.2.2, ?_⟩, fun j hj => ?_, fun j hj => ?_, fun i hi => ?_⟩, fun z => ?_⟩
      · rw [upd_n (by omega), upd_n (by omega), upd_n (by omega)]; exact p1
      · rw [upd_n (by omega), upd_n (by omega), upd_n (by omega)]; exact p3
      · rw [upd_n (by omega), upd_n (by omega), upd_s]
      · rw [upd_n (by omega), upd_s]
      · rw [upd_s]
      · rw [upd_n (by omega), upd_n (by omega), upd_n (by omega)]; exact p9 j hj
      · rw [upd_n (by omega), upd_n (by omega), upd_n (by omega)]; exact p10 j hj
      · rw [upd_n (by omega), upd_n (by omega), upd_n (by omega)]; exact p11 i hi
      · rw [c3] at z; simp at z
    · rw [if_neg d] at e; cases e
  rw [if_neg c3] at e
  by_cases c4 : ch = 110
  · rw [if_pos c4] at e
    by_cases d : on = true ∧ 1 ≤ l0 ∧ l0 ≤ 24
    · rw [if_pos d] at e
      have e := Option.some.inj e
      subst e
      have hO' := hO d.1
      refine ⟨l0, np, kind, ⟨?_, d.2, ?_, p4, ?_, p6, ⟨ll, p7, ?_⟩, ⟨lh, p8, ?_⟩, fun j hj => ?_, fun j hj => ?_, fun i hi => ?_⟩, fun z j hj => ?_⟩
      · rw [upd_s]
      · rw [upd_n (by omega)]; exact p3
      · rw [upd_n (by omega)]; exact p5
      · rw [upd_n (by omega)]; exact p7'
      · rw [upd_n (by omega)]; exact p8'
      · rw [upd_n (by omega)]; exact p9 j hj
      · rw [upd_n (by omega)]; exact Or.inl (hO' j hj)
      · rw [upd_n (by omega)]; exact p11 i hi
      · rw [upd_n (by omega)]; exact hO' j hj
    · rw [if_neg d] at e; cases e
  rw [if_neg c4] at e
  by_cases c5 : ch = 112
  · rw [if_pos c5] at e
    by_cases d : np < 6 ∧ 1 ≤ l0
    · rw [if_pos d] at e
      have e := Option.some.inj e
      subst e
      refine ⟨n, np + 1, kind, ⟨?_, p2, ?_, by omega, ?_, p6, ⟨ll, p7, ?_⟩, ⟨lh, p8, ?_⟩, fun j hj => ?_, fun j hj => ?_, fun i hi => ?_⟩, fun z => ?_⟩
      · rw [upd_n (by omega), upd_n (by omega)]; exact p1
      · rw [upd_s]
      · rw [upd_n (by omega), upd_n (by omega)]; exact p5
      · rw [upd_n (by omega), upd_n (by omega)]; exact p7'
      · rw [upd_n (by omega), upd_n (by omega)]; exact p8'
      · rw [upd_n (by omega), upd_n (by omega)]; exact p9 j hj
      · rw [upd_n (by omega), upd_n (by omega)]
        rcases p10 j hj with y | ⟨y1, i, y2, y3⟩
        · exact Or.inl y
        · exact Or.inr ⟨y1, i, by omega, y3⟩
      · rw [upd_n (by omega)]
        by_cases f : i = np
        · exact ⟨l0, ⟨d.2, h0⟩, by rw [f, upd_s]⟩
        · rw [upd_n (by omega)]; exact p11 i (by omega)
      · rw [c5] at z; simp at z
    · rw [if_neg d] at e; cases e
  rw [if_neg c5] at e
  cases e
theorem Prx {a : Nat} (ha : a = 5 ∨ a = 9) (p q w v : Nat) (ds : Nat → Nat) : RF p q w v ds a 5 = a + 1 ∧ RF p q w v ds a 6 = a + 2 ∧ RF p q w v ds a 7 = a + 3 := by rcases ha with rfl | rfl <;> exact ⟨rfl, rfl, rfl⟩
def PRg (g : Nat → Nat → Int32) (a : Nat) (M : Nat → Int32) : Prop := PR (g a) (g (a + 1)) (g (a + 2)) (g (a + 3)) M
section T
variable {p q w v : Nat} {ds : Nat → Nat}
theorem X_so_lp {a o : Nat} (ha : a = 5 ∨ a = 9) (ho : o < 6) {B : Int32} : ∀ (r fu i : Nat) (g : Nat → Nat → Int32), r < fu → i + r = 6 →
    ∃ g', f_X4_setOwner_27 fu (g, RF p q w v ds) a (I o) B (I i) = some (1, (g', RF p q w v ds)) ∧ Sb [a + 2] g g' ∧ ∀ j, j < 6 → g' (a + 2) j = if j = o then (if i ≤ j then g (a + 2) j &&& (B ^^^ (-1)) else g (a + 2) j) ||| B else (if i ≤ j then g (a + 2) j &&& (B ^^^ (-1)) else g (a + 2) j) := by
  obtain ⟨ka, k1, k2, k3, l1, l2, l3⟩ := Pk ha
  obtain ⟨r5, r6, r7⟩ := Prx ha p q w v ds
  intro r
  induction r with
  | zero =>
    intro fu i g hf hi
    obtain ⟨fu, rfl⟩ : ∃ k, fu = k + 1 := ⟨fu - 1, by omega⟩
    have : i = 6 := by omega
    subst this
    refine ⟨uc g (a + 2) (upd (g (a + 2)) o (g (a + 2) o ||| B)), ?_, Sb.rf.uc (by simp), fun j hj => ?_⟩
    · simp only [f_X4_setOwner_27]
      rw [if_pos (by decide)]
      simp only [r6, k2, l2, gd, if_true, reduceIte, I_in (show o < 6 by omega) (show 6 < 1000000 by decide), I_ix (show o < 1000000 by omega), lt_w]
    · rw [uc_s]
      by_cases c : j = o
      · subst c; rw [upd_s, if_pos rfl, if_neg (by omega)]
      · rw [upd_n c, if_neg c, if_neg (by omega)]
  | succ r ih =>
    intro fu i g hf hi
    obtain ⟨fu, rfl⟩ : ∃ k, fu = k + 1 := ⟨fu - 1, by omega⟩
    obtain ⟨g', e, s', h'⟩ := ih fu (i + 1) (uc g (a + 2) (upd (g (a + 2)) i (g (a + 2) i &&& (B ^^^ (-1))))) (by omega) (by omega)
    refine ⟨g', ?_, fun b hb => by rw [s' b hb, uc_n (fun z => hb (by rw [z]; simp))], fun j hj => ?_⟩
    · rw [← e]
      simp only [f_X4_setOwner_27]
      rw [if_neg (fun z => by have := (I_le (a := 6) (by omega) (by omega)).mp z; omega)]
      simp only [r6, k2, l2, gd, if_true, reduceIte, I_in (show i < 6 by omega) (show 6 < 1000000 by decide), I_ix (show i < 1000000 by omega), lt_w, I_s]
    · rw [h' j hj, uc_s]
      have : (if i + 1 ≤ j then upd (g (a + 2)) i (g (a + 2) i &&& (B ^^^ (-1))) j &&& (B ^^^ (-1)) else upd (g (a + 2)) i (g (a + 2) i &&& (B ^^^ (-1))) j) = (if i ≤ j then g (a + 2) j &&& (B ^^^ (-1)) else g (a + 2) j) := by
        by_cases c : j = i
        · subst c; rw [if_neg (by omega), if_pos (Nat.le_refl _), upd_s]
        · rw [upd_n c]
          by_cases c2 : i + 1 ≤ j
          · rw [if_pos c2, if_pos (by omega)]
          · rw [if_neg c2, if_neg (by omega)]
      rw [this]
theorem X_acc {a ch l0 l1 l2 : Nat} {on : Bool} {M : Nat → Int32} {n np kind : Nat} {g : Nat → Nat → Int32} (ha : a = 5 ∨ a = 9) (hM : PW M n np kind) (hR : PRg g a M) (hon : g 2 4 = if on then 1 else 0) (hch : ch < 128) (hl : l0 ≤ 99 ∧ l1 ≤ 99 ∧ l2 ≤ 99) (h0 : g 4 0 = I l0) (h1 : 2 ≤ nbh ch → g 4 1 = I l1) (h2 : 3 ≤ nbh ch → g 4 2 = I l2) :
    ∃ b g', f_X8_accept (g, RF p q w v ds) 2 (I ch) a = some (b, (g', RF p q w v ds)) ∧ Sb [a, a + 1, a + 2, a + 3] g g' ∧ (acc ch l0 l1 l2 on M = none → b = 0) ∧ ∀ M', acc ch l0 l1 l2 on M = some M' → b = 1 ∧ PRg g' a M' := by
  obtain ⟨ka, k1, k2, k3, z1, z2, z3⟩ := Pk ha
  obtain ⟨r5, r6, r7⟩ := Prx ha p q w v ds
  obtain ⟨p1, p2, p3, p4, p5, p6, ⟨ll, p7, p7'⟩, ⟨lh, p8, p8'⟩, p9, p10, p11⟩ := hM
  have en : (M 0).toNatClampNeg = n := by rw [p1]; exact I_ix (by omega)
  have enp : (M 1).toNatClampNeg = np := by rw [p3]; exact I_ix (by omega)
  have a0 : g a 0 = I n := by rw [hR.1 0 (by decide)]; exact p1
  have a1 : g a 1 = I np := by rw [hR.1 1 (by decide)]; exact p3
  have nI : ∀ m : Nat, m < 128 → ∀ k : Nat, k < 128 → m ≠ k → ¬ I (m : Int) = I (k : Int) := fun m hm k hk hne z => hne (by have := (I_inj (by omega) (by omega)).mp z; omega)
  have ci0 : (0 : Int32).toNatClampNeg = 0 := by decide
  have ci1 : (1 : Int32).toNatClampNeg = 1 := by decide
  have ci2 : (2 : Int32).toNatClampNeg = 2 := by decide
  have i30 : inr (0 : Int32) 3 = true := by decide
  have i31 : inr (1 : Int32) 3 = true := by decide
  have i32 : inr (2 : Int32) 3 = true := by decide
  have y1 : ((1 : Int32) = 0) = False := eq_false (by decide)
  have g01 : ∀ b : Int32, (b = 0 ∨ b = 1) → ∀ x : Option (Int32 × Hp), gd (b = 0 ∨ b = 1) x = x := fun b hb x => gd_t hb
  have xN := X_isNumber (p := p) (q := q) (w := w) (v := v) (ds := ds) (c := M) (M := M) ka a0 p2.2 (I (l0 : Int))
  rw [I_tN (show l0 < 1000000 by omega)] at xN
  unfold f_X8_accept acc
  rw [gd_t (show kd 2 = 8 from rfl), gd_t ka, en, enp]
  by_cases c1 : ch = 99
  · have hn1 : g 4 1 = I l1 := h1 (by rw [c1]; decide)
    rw [c1, if_pos (show I ((99 : Nat) : Int) = (99 : Int32) from rfl), if_pos rfl]
    simp only [r_2_1, r_2_2, k_2, n_2, k_3, n_3, k_4, n_4, gd, if_true, reduceIte, ci0, ci1, i30, i31, h0, hn1]
    unfold f_X4_setCost
    simp only [gd, ka, if_true, reduceIte, xN, bd_w]
    by_cases d : (1 ≤ l0 ∧ l0 ≤ n) ∧ l1 ≤ 9
    · rw [if_pos (show (1 : Int) ≤ (l0 : Int) ∧ (l0 : Int) ≤ n by omega), if_neg (by decide), if_pos (show I (l1 : Int) ≤ (9 : Int32) from (I_le (b := 9) (by omega) (by omega)).mpr (by omega)), if_pos d]
      simp only [r5, k1, z1, if_true, reduceIte, I_in (show l0 < 25 by omega) (show 25 < 1000000 by decide), I_ix (show l0 < 1000000 by omega), lt_w, bd_w]
      refine ⟨1, _, if_pos (by decide), Sb.rf.uc (by simp), fun z => (by cases z), fun M' hM' => ⟨rfl, ?_⟩⟩
      have e := Option.some.inj hM'
      subst e
      refine ⟨fun k hk => ?_, fun j hj => ?_, fun i hi j hj => ?_, fun i hi => ?_⟩
      · rw [uc_n (by omega), upd_n (by omega)]; exact hR.1 k hk
      · rw [uc_s]
        by_cases f : j + 1 = l0
        · rw [show 5 + j = 4 + l0 by omega, upd_s, f, upd_s]
        · rw [upd_n f, upd_n (by omega)]; exact hR.2.1 j hj
      · rw [uc_n (by omega)]
        rw [hR.2.2.1 i hi j hj]
        by_cases f : j < 24
        · rw [upd_n (by omega)]
        · rw [decide_eq_false f, Bool.false_and, Bool.false_and]
      · rw [uc_n (by omega), upd_n (by omega)]; exact hR.2.2.2 i hi
    · rw [if_neg d]
      by_cases d1 : (1 : Int) ≤ (l0 : Int) ∧ (l0 : Int) ≤ n
      · rw [if_pos d1, if_neg (by decide), if_neg (show ¬ I (l1 : Int) ≤ (9 : Int32) from fun z => by have := (I_le (b := 9) (by omega) (by omega)).mp z; omega), bd_w]
        exact ⟨0, g, if_pos (by decide), Sb.rf, fun _ => rfl, fun M' h => by cases h⟩
      · rw [if_neg d1, if_pos rfl, bd_w]
        exact ⟨0, g, if_pos (by decide), Sb.rf, fun _ => rfl, fun M' h => by cases h⟩
  rw [if_neg (show ¬ I (ch : Int) = (99 : Int32) from nI ch hch 99 (by decide) c1), if_neg c1]
  by_cases c2 : ch = 104
  · have hn1 : g 4 1 = I l1 := h1 (by rw [c2]; decide)
    have xP := X_isPerson (p := p) (q := q) (w := w) (v := v) (ds := ds) ka a1 p4 (I (l1 : Int))
    rw [I_tN (show l1 < 1000000 by omega)] at xP
    rw [c2, if_pos (show I ((104 : Nat) : Int) = (104 : Int32) from rfl), if_pos rfl]
    simp only [r_2_1, r_2_2, k_2, n_2, k_3, n_3, k_4, n_4, gd, if_true, reduceIte, ci0, ci1, i30, i31, h0, hn1]
    unfold f_X4_setOwner
    simp only [gd, ka, if_true, reduceIte, xN, xP, bd_w]
    by_cases d : (1 ≤ l0 ∧ l0 ≤ n) ∧ l1 < np
    · obtain ⟨g', e', s', h'⟩ := X_so_lp (p := p) (q := q) (w := w) (v := v) (ds := ds) ha (o := l1) (by omega) (B := b1 (l0 - 1)) 6 FU 0 g (FU_lt (by omega)) (by omega)
      have e' : f_X4_setOwner_27 FU (g, RF p q w v ds) a (I l1) (b1 (l0 - 1)) 0 = _ := e'
      have eb : (1 : Int32) <<< ((I (l0 : Int) - 1) &&& 31) = b1 (l0 - 1) := by rw [I_p d.1.1]; rfl
      rw [if_pos (show (1 : Int) ≤ (l0 : Int) ∧ (l0 : Int) ≤ n by omega), if_neg (by decide), if_pos (show (0 : Int) ≤ (l1 : Int) ∧ (l1 : Int) < np by omega), if_neg (by decide), if_pos d, eb, e', bd_w]
      refine ⟨1, g', if_pos (by decide), s'.mono (by simp), fun z => (by cases z), fun M' hM' => ⟨rfl, ?_⟩⟩
      have e := Option.some.inj hM'
      subst e
      have oth : ∀ x, x ≠ a + 2 → g' x = g x := fun x hx => s' x (by simp; exact hx)
      refine ⟨fun k hk => ?_, fun j hj => ?_, fun i hi j hj => ?_, fun i hi => ?_⟩
      · rw [oth a (by omega), upd_n (by omega)]; exact hR.1 k hk
      · rw [oth _ (by omega), upd_n (by omega)]; exact hR.2.1 j hj
      · rw [h' i hi, if_pos (Nat.zero_le _)]
        have hb := hR.2.2.1 i hi j hj
        by_cases f : j = l0 - 1
        · rw [show 29 + j = 28 + l0 by omega, upd_s, decide_eq_true (show j < 24 by omega), Bool.true_and]
          by_cases f2 : i = l1
          · rw [if_pos f2, bt_or, bt_b1 (by omega) hj, decide_eq_true f, Bool.or_true, f2, decide_eq_true rfl]
          · rw [if_neg f2, bt_and, bt_not hj, bt_b1 (by omega) hj, decide_eq_true f, Bool.not_true, Bool.and_false, decide_eq_false (fun z => f2 (by have := (I_inj (by omega) (by omega)).mp z; omega))]
        · have e29 : (decide (j < 24) && decide (upd M (28 + l0) (I (l1 : Int)) (29 + j) = I (i : Int))) = (decide (j < 24) && decide (M (29 + j) = I (i : Int))) := by rw [upd_n (by omega)]
          rw [e29, ← hb]
          by_cases f2 : i = l1
          · rw [if_pos f2, bt_or, bt_and, bt_not hj, bt_b1 (by omega) hj, decide_eq_false f]; simp
          · rw [if_neg f2, bt_and, bt_not hj, bt_b1 (by omega) hj, decide_eq_false f]; simp
      · rw [oth _ (by omega), upd_n (by omega)]; exact hR.2.2.2 i hi
    · rw [if_neg d]
      generalize f_X4_setOwner_27 FU = lf
      by_cases d1 : (1 : Int) ≤ (l0 : Int) ∧ (l0 : Int) ≤ n
      · rw [if_pos d1, if_neg (by decide), if_neg (show ¬ ((0 : Int) ≤ (l1 : Int) ∧ (l1 : Int) < np) by omega), if_pos rfl, bd_w]
        exact ⟨0, g, if_pos (by decide), Sb.rf, fun _ => rfl, fun M' h => by cases h⟩
      · rw [if_neg d1, if_pos rfl, bd_w]
        exact ⟨0, g, if_pos (by decide), Sb.rf, fun _ => rfl, fun M' h => by cases h⟩
  rw [if_neg (show ¬ I (ch : Int) = (104 : Int32) from nI ch hch 104 (by decide) c2), if_neg c2]
  by_cases c3 : ch = 107
  · have hn1 : g 4 1 = I l1 := h1 (by rw [c3]; decide)
    have hn2 : g 4 2 = I l2 := h2 (by rw [c3]; decide)
    rw [c3, if_pos (show I ((107 : Nat) : Int) = (107 : Int32) from rfl), if_pos rfl]
    simp only [r_2_1, r_2_2, k_2, n_2, k_3, n_3, k_4, n_4, gd, if_true, reduceIte, ci0, ci1, ci2, i30, i31, i32, h0, hn1, hn2]
    unfold f_X4_setLaw
    rw [gd_t ka]
    by_cases d : l0 ≤ 3 ∧ l1 ≤ 9 ∧ l2 ≤ 9
    · rw [if_neg (show ¬ (3 : Int32) < I (l0 : Int) from fun z => by have := (I_lt (a := 3) (by omega) (by omega)).mp z; omega), if_neg (show ¬ (9 : Int32) < I (l1 : Int) from fun z => by have := (I_lt (a := 9) (by omega) (by omega)).mp z; omega), if_pos (show I (l2 : Int) ≤ (9 : Int32) from (I_le (b := 9) (by omega) (by omega)).mpr (by omega)), if_pos d]
      simp only [lt_w, bd_w, uc_s, uc_uc]
      refine ⟨1, _, if_pos (by decide), Sb.rf.uc (by simp), fun z => (by cases z), fun M' hM' => ⟨rfl, ?_⟩⟩
      have e := Option.some.inj hM'
      subst e
      refine ⟨fun k hk => ?_, fun j hj => ?_, fun i hi j hj => ?_, fun i hi => ?_⟩
      · rw [uc_s]
        unfold upd
        by_cases f4 : k = 4
        · rw [if_pos f4, if_pos f4]
        · rw [if_neg f4, if_neg f4]
          by_cases f3 : k = 3
          · rw [if_pos f3, if_pos f3]
          · rw [if_neg f3, if_neg f3]
            by_cases f2 : k = 2
            · rw [if_pos f2, if_pos f2]
            · rw [if_neg f2, if_neg f2]; exact hR.1 k hk
      · rw [uc_n (by omega), upd_n (by omega), upd_n (by omega), upd_n (by omega)]; exact hR.2.1 j hj
      · rw [uc_n (by omega), upd_n (by omega), upd_n (by omega), upd_n (by omega)]; exact hR.2.2.1 i hi j hj
      · rw [uc_n (by omega), upd_n (by omega), upd_n (by omega), upd_n (by omega)]; exact hR.2.2.2 i hi
    · rw [if_neg d]
      refine ⟨0, g, ?_, Sb.rf, fun _ => rfl, fun M' h => by cases h⟩
      by_cases d1 : l0 ≤ 3
      · rw [if_neg (show ¬ (3 : Int32) < I (l0 : Int) from fun z => by have := (I_lt (a := 3) (by omega) (by omega)).mp z; omega)]
        by_cases d2 : l1 ≤ 9
        · rw [if_neg (show ¬ (9 : Int32) < I (l1 : Int) from fun z => by have := (I_lt (a := 9) (by omega) (by omega)).mp z; omega), if_neg (show ¬ I (l2 : Int) ≤ (9 : Int32) from fun z => by have := (I_le (b := 9) (by omega) (by omega)).mp z; omega), bd_w]
          exact if_pos (by decide)
        · rw [if_pos (show (9 : Int32) < I (l1 : Int) from (I_lt (a := 9) (by omega) (by omega)).mpr (by omega)), bd_w]
          exact if_pos (by decide)
      · rw [if_pos (show (3 : Int32) < I (l0 : Int) from (I_lt (a := 3) (by omega) (by omega)).mpr (by omega)), bd_w]
        exact if_pos (by decide)
  rw [if_neg (show ¬ I (ch : Int) = (107 : Int32) from nI ch hch 107 (by decide) c3), if_neg c3]
  by_cases c4 : ch = 110
  · rw [c4, if_pos (show I ((110 : Nat) : Int) = (110 : Int32) from rfl), if_pos rfl]
    simp only [hon]
    cases on with
    | false =>
      rw [if_pos (by decide), if_neg (fun z => by cases z.1)]
      exact ⟨0, g, rfl, Sb.rf, fun _ => rfl, fun M' h => by cases h⟩
    | true =>
      rw [if_neg (by decide)]
      simp only [r_2_1, r_2_2, k_2, n_2, k_3, n_3, k_4, n_4, gd, if_true, reduceIte, ci0, i30, h0]
      unfold f_X4_setNumbers
      rw [gd_t ka]
      by_cases d : 1 ≤ l0 ∧ l0 ≤ 24
      · rw [if_neg (show ¬ I (l0 : Int) < (1 : Int32) from fun z => by have := (I_lt (b := 1) (by omega) (by omega)).mp z; omega), if_pos (show I (l0 : Int) ≤ (24 : Int32) from (I_le (b := 24) (by omega) (by omega)).mpr (by omega)), if_pos (show True ∧ 1 ≤ l0 ∧ l0 ≤ 24 from ⟨trivial, d⟩), lt_w, bd_w, if_neg (by decide)]
        refine ⟨1, _, rfl, Sb.rf.uc (by simp), fun z => (by cases z), fun M' hM' => ⟨rfl, ?_⟩⟩
        have e := Option.some.inj hM'
        subst e
        refine ⟨fun k hk => ?_, fun j hj => ?_, fun i hi j hj => ?_, fun i hi => ?_⟩
        · rw [uc_s]
          by_cases f : k = 0
          · rw [f, upd_s, upd_s]
          · rw [upd_n f, upd_n f]; exact hR.1 k hk
        · rw [uc_n (by omega), upd_n (by omega)]; exact hR.2.1 j hj
        · rw [uc_n (by omega), upd_n (by omega)]; exact hR.2.2.1 i hi j hj
        · rw [uc_n (by omega), upd_n (by omega)]; exact hR.2.2.2 i hi
      · rw [if_neg (show ¬ (True ∧ 1 ≤ l0 ∧ l0 ≤ 24) from fun z => d z.2)]
        refine ⟨0, g, ?_, Sb.rf, fun _ => rfl, fun M' h => by cases h⟩
        by_cases d1 : l0 < 1
        · rw [if_pos (show I (l0 : Int) < (1 : Int32) from (I_lt (b := 1) (by omega) (by omega)).mpr (by omega)), bd_w, if_pos rfl]
        · rw [if_neg (show ¬ I (l0 : Int) < (1 : Int32) from fun z => by have := (I_lt (b := 1) (by omega) (by omega)).mp z; omega), if_neg (show ¬ I (l0 : Int) ≤ (24 : Int32) from fun z => by have := (I_le (b := 24) (by omega) (by omega)).mp z; omega), bd_w, if_pos rfl]
  rw [if_neg (show ¬ I (ch : Int) = (110 : Int32) from nI ch hch 110 (by decide) c4), if_neg c4]
  by_cases c5 : ch = 112
  · rw [c5, if_pos (show I ((112 : Nat) : Int) = (112 : Int32) from rfl), if_pos rfl]
    simp only [r_2_1, r_2_2, k_2, n_2, k_3, n_3, k_4, n_4, gd, if_true, reduceIte, ci0, i30, h0]
    unfold f_X4_addPerson
    rw [gd_t ka]
    simp only [a1]
    by_cases d : np < 6 ∧ 1 ≤ l0
    · rw [if_neg (show ¬ (6 : Int32) ≤ I (np : Int) from fun z => by have := (I_le (a := 6) (by omega) (by omega)).mp z; omega), if_neg (show ¬ I (l0 : Int) < (1 : Int32) from fun z => by have := (I_lt (b := 1) (by omega) (by omega)).mp z; omega), if_pos (show I (l0 : Int) ≤ (99 : Int32) from (I_le (b := 99) (by omega) (by omega)).mpr (by omega)), if_pos d]
      have na : a ≠ a + 3 := by omega
      simp only [r7, k3, z3, gd, if_true, reduceIte, I_in (show np < 6 by omega) (show 6 < 1000000 by decide), I_ix (show np < 1000000 by omega), lt_w, uc_n na, a1, I_s, bd_w]
      refine ⟨1, _, if_pos (by decide), (Sb.rf.uc (by simp)).uc (by simp), fun z => (by cases z), fun M' hM' => ⟨rfl, ?_⟩⟩
      have e := Option.some.inj hM'
      subst e
      refine ⟨fun k hk => ?_, fun j hj => ?_, fun i hi j hj => ?_, fun i hi => ?_⟩
      · rw [uc_s]
        by_cases f : k = 1
        · rw [f, upd_s, upd_s]
        · rw [upd_n f, upd_n f, upd_n (by omega)]; exact hR.1 k hk
      · rw [uc_n (by omega), uc_n (by omega), upd_n (by omega), upd_n (by omega)]; exact hR.2.1 j hj
      · rw [uc_n (by omega), uc_n (by omega)]
        rw [hR.2.2.1 i hi j hj]
        by_cases f : j < 24
        · rw [upd_n (by omega), upd_n (by omega)]
        · rw [decide_eq_false f, Bool.false_and, Bool.false_and]
      · rw [uc_n (by omega), uc_s, upd_n (show 53 + i ≠ 1 by omega)]
        by_cases f : i = np
        · rw [f, upd_s, upd_s]
        · rw [upd_n f, upd_n (by omega)]; exact hR.2.2.2 i hi
    · rw [if_neg d]
      refine ⟨0, g, ?_, Sb.rf, fun _ => rfl, fun M' h => by cases h⟩
      by_cases d1 : np < 6
      · rw [if_neg (show ¬ (6 : Int32) ≤ I (np : Int) from fun z => by have := (I_le (a := 6) (by omega) (by omega)).mp z; omega), if_pos (show I (l0 : Int) < (1 : Int32) from (I_lt (b := 1) (by omega) (by omega)).mpr (by omega)), bd_w]
        exact if_pos (by decide)
      · rw [if_pos (show (6 : Int32) ≤ I (np : Int) from (I_le (a := 6) (by omega) (by omega)).mpr (by omega)), bd_w]
        exact if_pos (by decide)
  rw [if_neg (show ¬ I (ch : Int) = (112 : Int32) from nI ch hch 112 (by decide) c5), if_neg c5]
  exact ⟨0, g, rfl, Sb.rf, fun _ => rfl, fun M' h => by cases h⟩
end T
