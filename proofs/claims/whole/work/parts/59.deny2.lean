/-! deny -/
def stm (st : Option (Nat × Nat × Nat)) : Option Nat := st.map (fun t => t.1)
def dst (st : Option (Nat × Nat × Nat)) (s x y : Nat) : Option (Nat × Nat × Nat) := if mbw (stm st) s = true then some (s, x, y) else st
def dI (V : Nat → Nat → Bool) (s : Nat → Nat → Nat) (x : Nat) : Nat → Nat → Option (Nat × Nat × Nat) → Option (Nat × Nat × Nat)
  | 0, _, st => st
  | r + 1, y, st => dI V s x r (y + 1) (if V x y = true then dst st (s x y) x y else st)
def dO (V : Nat → Nat → Bool) (s : Nat → Nat → Nat) (st0 ln0 : Nat → Nat) : Nat → Nat → Option (Nat × Nat × Nat) → Option (Nat × Nat × Nat)
  | 0, _, st => st
  | r + 1, x, st => dO V s st0 ln0 r (x + 1) (dI V s x (ln0 x) (st0 x) st)
theorem dI_app (V : Nat → Nat → Bool) (s : Nat → Nat → Nat) (x : Nat) : ∀ (a b y : Nat) (st : Option (Nat × Nat × Nat)), dI V s x (a + b) y st = dI V s x b (y + a) (dI V s x a y st) := by
  intro a
  induction a with
  | zero => intro b y st; rw [Nat.zero_add]; rfl
  | succ a ih =>
    intro b y st
    rw [show a + 1 + b = (a + b) + 1 by omega]
    show dI V s x (a + b) (y + 1) _ = _
    rw [ih, show y + 1 + a = y + (a + 1) by omega]
    rfl
theorem dI_skip {V : Nat → Nat → Bool} {s : Nat → Nat → Nat} {x : Nat} : ∀ (r y : Nat) (st : Option (Nat × Nat × Nat)), (∀ z, y ≤ z → V x z = false) → dI V s x r y st = st := by
  intro r
  induction r with
  | zero => intro y st _; rfl
  | succ r ih =>
    intro y st h
    show dI V s x r (y + 1) (if V x y = true then _ else st) = st
    rw [h y (Nat.le_refl _), if_neg (by decide)]
    exact ih (y + 1) st (fun z hz => h z (by omega))
theorem dO_app (V : Nat → Nat → Bool) (s : Nat → Nat → Nat) (a0 l0 : Nat → Nat) : ∀ (a b x : Nat) (st : Option (Nat × Nat × Nat)), dO V s a0 l0 (a + b) x st = dO V s a0 l0 b (x + a) (dO V s a0 l0 a x st) := by
  intro a
  induction a with
  | zero => intro b x st; rw [Nat.zero_add]; rfl
  | succ a ih =>
    intro b x st
    rw [show a + 1 + b = (a + b) + 1 by omega]
    show dO V s a0 l0 (a + b) (x + 1) _ = _
    rw [ih, show x + 1 + a = x + (a + 1) by omega]
    rfl
theorem dO_skip {V : Nat → Nat → Bool} {s : Nat → Nat → Nat} {a0 l0 : Nat → Nat} : ∀ (r x : Nat) (st : Option (Nat × Nat × Nat)), (∀ z st, x ≤ z → dI V s z (l0 z) (a0 z) st = st) → dO V s a0 l0 r x st = st := by
  intro r
  induction r with
  | zero => intro x st _; rfl
  | succ r ih =>
    intro x st h
    show dO V s a0 l0 r (x + 1) (dI V s x (l0 x) (a0 x) st) = st
    rw [h x st (Nat.le_refl _)]
    exact ih (x + 1) st (fun z st hz => h z st (by omega))
theorem dO_congr {V : Nat → Nat → Bool} {s : Nat → Nat → Nat} {a0 l0 l1 : Nat → Nat} : ∀ (r x : Nat) (st : Option (Nat × Nat × Nat)), (∀ z st, x ≤ z → z < x + r → dI V s z (l0 z) (a0 z) st = dI V s z (l1 z) (a0 z) st) → dO V s a0 l0 r x st = dO V s a0 l1 r x st := by
  intro r
  induction r with
  | zero => intro x st _; rfl
  | succ r ih =>
    intro x st h
    show dO V s a0 l0 r (x + 1) (dI V s x (l0 x) (a0 x) st) = dO V s a0 l1 r (x + 1) (dI V s x (l1 x) (a0 x) st)
    rw [h x st (Nat.le_refl _) (by omega)]
    exact ih (x + 1) _ (fun z st hz hz2 => h z st (by omega) (by omega))
def dV (n : Nat) (t : Int32) (x y : Nat) : Bool := decide (x ≤ n) && decide (y ≤ n) && !bt t (x - 1) && !bt t (y - 1)
theorem dV_big {n : Nat} {t : Int32} {x y : Nat} (h : n < x ∨ n < y) : dV n t x y = false := by
  unfold dV
  rcases h with h | h
  · rw [decide_eq_false (show ¬ x ≤ n by omega)]; simp
  · rw [decide_eq_false (show ¬ y ≤ n by omega)]; simp
theorem d_one {n : Nat} {t : Int32} {s : Nat → Nat → Nat} (hn : n ≤ 24) (st : Option (Nat × Nat × Nat)) : dO (dV n t) s (fun x => x) (fun _ => 1) 24 1 st = dO (dV n t) s (fun x => x) (fun _ => 1) n 1 st := by
  rw [show 24 = n + (24 - n) by omega, dO_app]
  exact dO_skip _ _ _ (fun z st hz => dI_skip _ _ _ (fun y hy => dV_big (by omega)))
theorem d_two {n : Nat} {t : Int32} {s : Nat → Nat → Nat} (h1 : 1 ≤ n) (hn : n ≤ 24) (st : Option (Nat × Nat × Nat)) : dO (dV n t) s (fun x => x + 1) (fun x => 24 - x) 23 1 st = dO (dV n t) s (fun x => x + 1) (fun x => n - x) n 1 st := by
  have e1 : dO (dV n t) s (fun x => x + 1) (fun x => 24 - x) 24 1 st = dO (dV n t) s (fun x => x + 1) (fun x => 24 - x) 23 1 st := by
    rw [show 24 = 23 + 1 by rfl, dO_app]
    exact dO_skip _ _ _ (fun z st hz => by
      show dI _ _ z (24 - z) _ st = st
      rw [show 24 - z = 0 by omega]; rfl)
  have e2 : dO (dV n t) s (fun x => x + 1) (fun x => n - x) 24 1 st = dO (dV n t) s (fun x => x + 1) (fun x => n - x) n 1 st := by
    rw [show 24 = n + (24 - n) by omega, dO_app]
    exact dO_skip _ _ _ (fun z st hz => by
      show dI _ _ z (n - z) _ st = st
      rw [show n - z = 0 by omega]; rfl)
  rw [← e1, ← e2]
  refine dO_congr _ _ _ (fun z st h1 h2 => ?_)
  show dI _ _ z (24 - z) (z + 1) st = dI _ _ z (n - z) (z + 1) st
  by_cases c : z ≤ n
  · rw [show 24 - z = (n - z) + (24 - n) by omega, dI_app]
    exact dI_skip _ _ _ (fun y hy => dV_big (by omega))
  · rw [dI_skip _ _ _ (fun y hy => dV_big (by omega)), dI_skip _ _ _ (fun y hy => dV_big (by omega))]
def mbest (st : Option (Nat × Nat × Nat)) : Int32 := match st with | none => I (-1) | some t => I (t.1 : Nat)
def mlow (st : Option (Nat × Nat × Nat)) : Int32 := match st with | none => I (-4) | some t => I (t.2.1 : Nat)
def mhigh (st : Option (Nat × Nat × Nat)) : Int32 := match st with | none => I (-4) | some t => I (t.2.2 : Nat)
def sN (st : Option (Nat × Nat × Nat)) : Int32 := match st with | none => 0 | some _ => 1
def D6 (st : Option (Nat × Nat × Nat)) : Prop := ∀ t, st = some t → t.1 ≤ 6 ∧ t.2.1 ≤ 24 ∧ t.2.2 ≤ 24
theorem D6_dst {st : Option (Nat × Nat × Nat)} {s x y : Nat} (h : D6 st) (hs : s ≤ 6) (hx : x ≤ 24) (hy : y ≤ 24) : D6 (dst st s x y) := by
  unfold dst
  split
  · intro t e; cases e; exact ⟨hs, hx, hy⟩
  · exact h
def XD (G : Nat → Nat → Int32) (st : Option (Nat × Nat × Nat)) : Prop := G 78 0 = mb0 (stm st) ∧ ∀ t, st = some t → G 78 1 = mlow st ∧ G 78 2 = mhigh st
theorem bits2 {j k : Nat} {y : Int32} (hj : j < 32) (hk : k < 32) : ((b1 j ||| b1 k) &&& y = 0) ↔ (bt y j = false ∧ bt y k = false) := by
  constructor
  · intro h
    have e : ∀ i, i < 32 → bt ((b1 j ||| b1 k) &&& y) i = false := fun i _ => by rw [h, bt_0]
    have e1 := e j hj
    have e2 := e k hk
    rw [bt_and, bt_or, bt_b1 hj hj] at e1
    rw [bt_and, bt_or, bt_b1 hk hk] at e2
    simp at e1 e2
    exact ⟨e1, e2⟩
  · rintro ⟨h1, h2⟩
    apply bt_ext
    intro i hi
    rw [bt_and, bt_or, bt_b1 hj hi, bt_b1 hk hi, bt_0]
    by_cases a : i = j
    · subst a; rw [h1]; simp
    · by_cases b : i = k
      · subst b; rw [h2]; simp
      · simp [a, b]
theorem or_self (x : Int32) : x ||| x = x := by apply bt_ext; intro i hi; rw [bt_or, Bool.or_self]
theorem dV_x {n x y : Nat} {t : Int32} (hn : n ≤ 24) (hx : 1 ≤ x ∧ x ≤ 24) (hy : 1 ≤ y ∧ y ≤ 24) : (dV n t x y = true) ↔ (((b1 (x - 1) ||| b1 (y - 1)) &&& (allM n ^^^ (-1)) = 0) ∧ ((b1 (x - 1) ||| b1 (y - 1)) &&& t = 0)) := by
  rw [bits2 (by omega) (by omega), bits2 (by omega) (by omega), bt_not (by omega), bt_not (by omega), bt_all hn (by omega), bt_all hn (by omega)]
  unfold dV
  simp only [Bool.and_eq_true, decide_eq_true_eq, Bool.not_eq_true', Bool.not_eq_false', decide_eq_false_iff_not]
  constructor
  · rintro ⟨⟨⟨a, b⟩, c⟩, d⟩; exact ⟨⟨by simpa using (show x - 1 < n by omega), by simpa using (show y - 1 < n by omega)⟩, c, d⟩
  · rintro ⟨⟨a, b⟩, c, d⟩
    have a : x - 1 < n := by simpa using a
    have b : y - 1 < n := by simpa using b
    exact ⟨⟨⟨by omega, by omega⟩, c⟩, d⟩
section T
variable {p q w v : Nat} {ds : Nat → Nat}
/-- what stays as the crowd is asked again and again -/
def XC (G : Nat → Nat → Int32) (M : Nat → Int32) (n : Nat) (who : Int32) (kind : Nat) (O : Nat → Int32) : Prop := SX M n G ∧ SC G M n who kind O (am M) ∧ G 75 1 = allM n
theorem X_ds {α : Type} {G : Nat → Nat → Int32} {M : Nat → Int32} {n np k0 kind x y : Nat} {who t : Int32} {O : Nat → Int32} {st : Option (Nat × Nat × Nat)} (K : Hp → Option α) (hM : PW M n np k0) (hw : LO np who) (hC : XC G M n who kind O) (hD : XD G st) (h6 : D6 st) :
    ∃ G', (bd (f_X1_getsWorse (G, RF p q w v ds) 78 75 t) fun r1 h2 => if r1 = 0 then K h2 else lt (si h2 78 1 (I (x : Nat))) fun h4 => lt (si h4 78 2 (I (y : Nat))) fun h6 => K h6) = K (G', RF p q w v ds) ∧ XC G' M n who kind O ∧ XD G' (dst st (nst M kind O who t np) x y) ∧ Sb GWC G G' := by
  obtain ⟨G1, a1, a2, a3, a4, a5, a6, a7⟩ := X_gw (p := p) (q := q) (w := w) (v := v) (ds := ds) t (stm st) hM hw hC.1 hC.2.1 hD.1 (fun b e => by
    cases st with
    | none => cases e
    | some t => cases e; exact (h6 t rfl).1)
  rw [a1, bd_s]
  unfold dst
  cases hb : mbw (stm st) (nst M kind O who t np) with
  | false =>
    rw [hb] at a7
    rw [if_pos (by decide), if_neg (by decide)]
    refine ⟨G1, rfl, ⟨a3, a4, by rw [a5 1 (by decide)]; exact hC.2.2⟩, ⟨a7, fun t e => ?_⟩, a2⟩
    rw [a6 1 (by decide), a6 2 (by decide)]
    exact hD.2 t e
  | true =>
    rw [hb] at a7
    rw [if_neg (by decide), if_pos rfl, lt_w, lt_w]
    refine ⟨_, rfl, ⟨a3.sc ((Sb.rf.uc (by decide)).uc (by decide)), a4.keep (by rw [uc_n (by decide), uc_n (by decide)]) (by rw [uc_n (by decide), uc_n (by decide)]) (by rw [uc_n (by decide), uc_n (by decide)]), by rw [uc_n (by decide), uc_n (by decide), a5 1 (by decide)]; exact hC.2.2⟩, ⟨?_, fun t e => ?_⟩, (a2.uc (by decide)).uc (by decide)⟩
    · rw [uc_s, upd_n (by decide), uc_s, upd_n (by decide)]
      exact a7
    · cases e
      rw [uc_s, upd_n (by decide), uc_s, upd_s, upd_s]
      exact ⟨rfl, rfl⟩
theorem X_one_lp {M : Nat → Int32} {n np k0 kind : Nat} {who t : Int32} {O : Nat → Int32} (hM : PW M n np k0) (hw : LO np who) : ∀ (r fu k : Nat) (G : Nat → Nat → Int32) (st : Option (Nat × Nat × Nat)), r < fu → k + r = 25 → 1 ≤ k → XC G M n who kind O → XD G st → D6 st →
    ∃ G', f_X1_denyOne_13 fu (G, RF p q w v ds) 78 75 t (I k) = some (sN (dO (dV n t) (fun x y => nst M kind O who (t ||| (b1 (x - 1) ||| b1 (y - 1))) np) (fun x => x) (fun _ => 1) r k st), (G', RF p q w v ds)) ∧ XC G' M n who kind O ∧ XD G' (dO (dV n t) (fun x y => nst M kind O who (t ||| (b1 (x - 1) ||| b1 (y - 1))) np) (fun x => x) (fun _ => 1) r k st) ∧ Sb GWC G G' := by
  intro r
  induction r with
  | zero =>
    intro fu k G st hf hk h1 hC hD h6
    obtain ⟨fu, rfl⟩ : ∃ k, fu = k + 1 := ⟨fu - 1, by omega⟩
    have c1 : (24 : Int32) < I (k : Int) := (I_lt (a := 24) (by omega) (by omega)).mpr (by omega)
    refine ⟨G, ?_, hC, hD, Sb.rf⟩
    simp only [f_X1_denyOne_13, if_pos c1, hD.1]
    show _ = some (sN st, _)
    cases st with
    | none => rw [if_pos (show mb0 (stm none) = (-4 : Int32) from rfl)]; rfl
    | some t => rw [if_neg (show ¬ mb0 (stm (some t)) = (-4 : Int32) from fun z => I_ne4 (k := t.1) (by have := (h6 t rfl).1; omega) z)]; rfl
  | succ r ih =>
    intro fu k G st hf hk h1 hC hD h6
    obtain ⟨fu, rfl⟩ : ∃ k, fu = k + 1 := ⟨fu - 1, by omega⟩
    have hn := hM.2.1
    have hnp := hM.2.2.2.1
    have c1 : ¬ (24 : Int32) < I (k : Int) := fun z => by have := (I_lt (a := 24) (by omega) (by omega)).mp z; omega
    have hv := dV_x (t := t) hn.2 (show 1 ≤ k ∧ k ≤ 24 by omega) (show 1 ≤ k ∧ k ≤ 24 by omega)
    rw [or_self] at hv
    simp only [f_X1_denyOne_13, if_neg c1, hC.2.2, b1_eq h1, I_s]
    show ∃ G', _ = some (sN (dO _ _ _ _ r (k + 1) (if dV n t k k = true then dst st (nst M kind O who (t ||| (b1 (k - 1) ||| b1 (k - 1))) np) k k else st)), _) ∧ _ ∧ XD G' (dO _ _ _ _ r (k + 1) (if dV n t k k = true then dst st (nst M kind O who (t ||| (b1 (k - 1) ||| b1 (k - 1))) np) k k else st)) ∧ _
    rw [or_self]
    by_cases c : dV n t k k = true
    · obtain ⟨G1, a1, a2, a3, a4⟩ := X_ds (p := p) (q := q) (w := w) (v := v) (ds := ds) (x := k) (y := k) (t := t ||| b1 (k - 1)) (fun h => f_X1_denyOne_13 fu h 78 75 t (I ((k + 1 : Nat) : Int))) hM hw hC hD h6
      rw [if_pos (hv.mp c).1, if_pos (hv.mp c).2, if_pos c, a1]
      obtain ⟨G2, b1', b2, b3, b4⟩ := ih fu (k + 1) G1 _ (by omega) (by omega) (by omega) a2 a3 (D6_dst h6 (nst_6 hnp) (by omega) (by omega))
      exact ⟨G2, b1', b2, b3, Sb.tr a4 b4⟩
    · rw [if_neg c]
      obtain ⟨G2, b1', b2, b3, b4⟩ := ih fu (k + 1) G st (by omega) (by omega) (by omega) hC hD h6
      by_cases d : b1 (k - 1) &&& (allM n ^^^ (-1)) = 0
      · rw [if_pos d, if_neg (fun z => c (hv.mpr ⟨d, z⟩))]
        exact ⟨G2, b1', b2, b3, b4⟩
      · rw [if_neg d]
        exact ⟨G2, b1', b2, b3, b4⟩
theorem X_twi_lp {M : Nat → Int32} {n np k0 kind x : Nat} {who t : Int32} {O : Nat → Int32} (k13 : Hp → Nat → Nat → Int32 → Int32 → Option (Int32 × Hp)) (hM : PW M n np k0) (hw : LO np who) (hx : 1 ≤ x ∧ x ≤ 24) : ∀ (r fu k : Nat) (G : Nat → Nat → Int32) (st : Option (Nat × Nat × Nat)), r < fu → k + r = 25 → 1 ≤ k → XC G M n who kind O → XD G st → D6 st →
    ∃ G', f_X1_denyTwo_24 k13 fu (G, RF p q w v ds) 78 75 t (I x) (I k) = k13 (G', RF p q w v ds) 78 75 t (I ((x + 1 : Nat) : Int)) ∧ XC G' M n who kind O ∧ XD G' (dI (dV n t) (fun x y => nst M kind O who (t ||| (b1 (x - 1) ||| b1 (y - 1))) np) x r k st) ∧ D6 (dI (dV n t) (fun x y => nst M kind O who (t ||| (b1 (x - 1) ||| b1 (y - 1))) np) x r k st) ∧ Sb GWC G G' := by
  intro r
  induction r with
  | zero =>
    intro fu k G st hf hk h1 hC hD h6
    obtain ⟨fu, rfl⟩ : ∃ k, fu = k + 1 := ⟨fu - 1, by omega⟩
    have c1 : (24 : Int32) < I (k : Int) := (I_lt (a := 24) (by omega) (by omega)).mpr (by omega)
    refine ⟨G, ?_, hC, hD, h6, Sb.rf⟩
    simp only [f_X1_denyTwo_24, if_pos c1, I_s]
  | succ r ih =>
    intro fu k G st hf hk h1 hC hD h6
    obtain ⟨fu, rfl⟩ : ∃ k, fu = k + 1 := ⟨fu - 1, by omega⟩
    have hn := hM.2.1
    have hnp := hM.2.2.2.1
    have c1 : ¬ (24 : Int32) < I (k : Int) := fun z => by have := (I_lt (a := 24) (by omega) (by omega)).mp z; omega
    have hv := dV_x (t := t) hn.2 hx (show 1 ≤ k ∧ k ≤ 24 by omega)
    simp only [f_X1_denyTwo_24, if_neg c1, hC.2.2, b1_eq h1, b1_eq hx.1, I_s]
    show ∃ G', _ = _ ∧ _ ∧ XD G' (dI _ _ x r (k + 1) (if dV n t x k = true then dst st (nst M kind O who (t ||| (b1 (x - 1) ||| b1 (k - 1))) np) x k else st)) ∧ D6 (dI _ _ x r (k + 1) (if dV n t x k = true then dst st (nst M kind O who (t ||| (b1 (x - 1) ||| b1 (k - 1))) np) x k else st)) ∧ _
    by_cases c : dV n t x k = true
    · obtain ⟨G1, a1, a2, a3, a4⟩ := X_ds (p := p) (q := q) (w := w) (v := v) (ds := ds) (x := x) (y := k) (t := t ||| (b1 (x - 1) ||| b1 (k - 1))) (fun h => f_X1_denyTwo_24 k13 fu h 78 75 t (I (x : Int)) (I ((k + 1 : Nat) : Int))) hM hw hC hD h6
      rw [if_pos (hv.mp c).1, if_pos (hv.mp c).2, if_pos c, a1]
      obtain ⟨G2, b1', b2, b3, b4, b5⟩ := ih fu (k + 1) G1 _ (by omega) (by omega) (by omega) a2 a3 (D6_dst h6 (nst_6 hnp) (by omega) (by omega))
      exact ⟨G2, b1', b2, b3, b4, Sb.tr a4 b5⟩
    · rw [if_neg c]
      obtain ⟨G2, b1', b2, b3, b4, b5⟩ := ih fu (k + 1) G st (by omega) (by omega) (by omega) hC hD h6
      by_cases d : (b1 (x - 1) ||| b1 (k - 1)) &&& (allM n ^^^ (-1)) = 0
      · rw [if_pos d, if_neg (fun z => c (hv.mpr ⟨d, z⟩))]
        exact ⟨G2, b1', b2, b3, b4, b5⟩
      · rw [if_neg d]
        exact ⟨G2, b1', b2, b3, b4, b5⟩
theorem X_two_lp {M : Nat → Int32} {n np k0 kind : Nat} {who t : Int32} {O : Nat → Int32} (hM : PW M n np k0) (hw : LO np who) : ∀ (r fu k : Nat) (G : Nat → Nat → Int32) (st : Option (Nat × Nat × Nat)), r < fu → k + r = 24 → 1 ≤ k → XC G M n who kind O → XD G st → D6 st →
    ∃ G', f_X1_denyTwo_13 fu (G, RF p q w v ds) 78 75 t (I k) = some (sN (dO (dV n t) (fun x y => nst M kind O who (t ||| (b1 (x - 1) ||| b1 (y - 1))) np) (fun x => x + 1) (fun x => 24 - x) r k st), (G', RF p q w v ds)) ∧ XC G' M n who kind O ∧ XD G' (dO (dV n t) (fun x y => nst M kind O who (t ||| (b1 (x - 1) ||| b1 (y - 1))) np) (fun x => x + 1) (fun x => 24 - x) r k st) ∧ Sb GWC G G' := by
  intro r
  induction r with
  | zero =>
    intro fu k G st hf hk h1 hC hD h6
    obtain ⟨fu, rfl⟩ : ∃ k, fu = k + 1 := ⟨fu - 1, by omega⟩
    have c1 : (24 : Int32) ≤ I (k : Int) := (I_le (a := 24) (by omega) (by omega)).mpr (by omega)
    refine ⟨G, ?_, hC, hD, Sb.rf⟩
    simp only [f_X1_denyTwo_13, if_pos c1, hD.1]
    show _ = some (sN st, _)
    cases st with
    | none => rw [if_pos (show mb0 (stm none) = (-4 : Int32) from rfl)]; rfl
    | some t => rw [if_neg (show ¬ mb0 (stm (some t)) = (-4 : Int32) from fun z => I_ne4 (k := t.1) (by have := (h6 t rfl).1; omega) z)]; rfl
  | succ r ih =>
    intro fu k G st hf hk h1 hC hD h6
    obtain ⟨fu, rfl⟩ : ∃ k, fu = k + 1 := ⟨fu - 1, by omega⟩
    have c1 : ¬ (24 : Int32) ≤ I (k : Int) := fun z => by have := (I_le (a := 24) (by omega) (by omega)).mp z; omega
    obtain ⟨G1, a1, a2, a3, a4, a5⟩ := X_twi_lp (p := p) (q := q) (w := w) (v := v) (ds := ds) (x := k) (t := t) (f_X1_denyTwo_13 fu) hM hw (by omega) (24 - k) FU (k + 1) G st (FU_lt (by omega)) (by omega) (by omega) hC hD h6
    simp only [f_X1_denyTwo_13, if_neg c1, I_s, a1]
    obtain ⟨G2, b1', b2, b3, b4⟩ := ih fu (k + 1) G1 _ (by omega) (by omega) (by omega) a2 a3 a4
    exact ⟨G2, b1', b2, b3, Sb.tr a5 b4⟩
end T
