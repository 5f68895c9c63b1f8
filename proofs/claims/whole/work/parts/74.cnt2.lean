/-! readings of the book: counted forward and by sets -/
def ls (f : Nat → Nat) : List Nat → Nat
  | [] => 0
  | a :: L => f a + ls f L
def sm (n : Nat) (f : Nat → Nat) : Nat := ls f (List.range n)
theorem ls_app (f : Nat → Nat) : ∀ L K : List Nat, ls f (L ++ K) = ls f L + ls f K := by
  intro L K
  induction L with
  | nil => show _ = 0 + _; rw [Nat.zero_add]; rfl
  | cons a L ih => show f a + ls f (L ++ K) = f a + ls f L + _; rw [ih]; omega
theorem sm_0 (f : Nat → Nat) : sm 0 f = 0 := rfl
theorem sm_s (n : Nat) (f : Nat → Nat) : sm (n + 1) f = sm n f + f n := by
  unfold sm
  rw [List.range_succ, ls_app]
  show _ + (f n + 0) = _
  rw [Nat.add_zero]
theorem sm_congr {n : Nat} {f h : Nat → Nat} (e : ∀ i, i < n → f i = h i) : sm n f = sm n h := by
  induction n with
  | zero => rfl
  | succ n ih => rw [sm_s, sm_s, ih (fun i hi => e i (by omega)), e n (by omega)]
theorem sm_z (n : Nat) : sm n (fun _ => 0) = 0 := by
  induction n with
  | zero => rfl
  | succ n ih => rw [sm_s, ih]
theorem sm_add (n : Nat) (f h : Nat → Nat) : sm n (fun i => f i + h i) = sm n f + sm n h := by
  induction n with
  | zero => rfl
  | succ n ih => rw [sm_s, sm_s, sm_s, ih]; omega
theorem sm_mul (n : Nat) (f : Nat → Nat) (c : Nat) : sm n f * c = sm n (fun i => f i * c) := by
  induction n with
  | zero => exact Nat.zero_mul c
  | succ n ih => rw [sm_s, sm_s, Nat.add_mul, ih]
theorem sm_comm (n m : Nat) (f : Nat → Nat → Nat) : sm n (fun i => sm m (fun j => f i j)) = sm m (fun j => sm n (fun i => f i j)) := by
  induction n with
  | zero => rw [sm_0]; exact (sm_z m).symm
  | succ n ih =>
    rw [sm_s, ih, ← sm_add]
    exact sm_congr (fun j _ => (sm_s n _).symm)
theorem sm_le {n b : Nat} {f : Nat → Nat} (h : ∀ i, i < n → f i ≤ b) : sm n f ≤ n * b := by
  induction n with
  | zero => exact Nat.zero_le _
  | succ n ih => rw [sm_s, Nat.succ_mul]; have := ih (fun i hi => h i (by omega)); have := h n (by omega); omega
theorem sm_ge {n : Nat} {f : Nat → Nat} {i : Nat} (hi : i < n) : f i ≤ sm n f := by
  induction n with
  | zero => omega
  | succ n ih =>
    rw [sm_s]
    by_cases c : i = n
    · subst c; omega
    · have := ih (by omega); omega
theorem sm_pos {n : Nat} {f : Nat → Nat} : 0 < sm n f ↔ ∃ i, i < n ∧ 0 < f i := by
  constructor
  · intro h
    induction n with
    | zero => exact absurd (show 0 < 0 from h) (by decide)
    | succ n ih =>
      rw [sm_s] at h
      by_cases c : 0 < f n
      · exact ⟨n, by omega, c⟩
      · obtain ⟨i, h1, h2⟩ := ih (by omega)
        exact ⟨i, by omega, h2⟩
  · rintro ⟨i, h1, h2⟩
    have := sm_ge (f := f) h1
    omega
/-- the i-th alone, where the others are nothing -/
theorem sm_one {n : Nat} {f : Nat → Nat} {i : Nat} (hi : i < n) (h : ∀ j, j < n → j ≠ i → f j = 0) : sm n f = f i := by
  induction n with
  | zero => omega
  | succ n ih =>
    rw [sm_s]
    by_cases c : i = n
    · subst c
      rw [sm_congr (h := fun _ => 0) (fun j hj => h j (by omega) (by omega)), sm_z, Nat.zero_add]
    · rw [ih (by omega) (fun j hj => h j (by omega)), h n (by omega) (by omega), Nat.add_zero]
theorem ls_filter (f : Nat → Nat) (t : Nat → Bool) : ∀ L : List Nat, ls (fun a => if t a then f a else 0) L = ls f (L.filter t) := by
  intro L
  induction L with
  | nil => rfl
  | cons a L ih =>
    show (if t a then f a else 0) + _ = _
    rw [ih, List.filter_cons]
    by_cases c : t a = true
    · rw [if_pos c, if_pos c]; rfl
    · rw [if_neg c, if_neg c, Nat.zero_add]
theorem ls_map (f : Nat → Nat) (t : Nat → Nat) : ∀ L : List Nat, ls f (L.map t) = ls (fun a => f (t a)) L := by
  intro L
  induction L with
  | nil => rfl
  | cons a L ih => show f (t a) + _ = _; rw [ih]; rfl
theorem ls_congr {f h : Nat → Nat} : ∀ {L : List Nat}, (∀ a ∈ L, f a = h a) → ls f L = ls h L := by
  intro L
  induction L with
  | nil => intro _; rfl
  | cons a L ih => intro e; show f a + _ = h a + _; rw [e a (List.mem_cons_self), ih (fun b hb => e b (List.mem_cons_of_mem _ hb))]
def F (C : Nat → Int32) : Nat → Nat → Int32 → Nat
  | 0, _, _ => 1
  | d + 1, k, gv => sm 6 (fun i => if bt (C k) i && !bt gv i then F C d (k + 1) (gv ||| b1 i) else 0)
def CQ (C : Nat → Int32) : Nat → Nat → Nat
  | 0, who => if who = 0 then 1 else 0
  | k + 1, who => sm 6 (fun i => if bt (I (who : Int)) i && bt (C k) i then CQ C k (who - 2 ^ i) else 0)
theorem set_lists : ∀ i, i < 6 → ((List.range 64).filter (fun x : Nat => bt (I (x : Int)) i)).map (fun x : Nat => x - 2 ^ i) = (List.range 64).filter (fun x : Nat => !bt (I (x : Int)) i) := by decide +kernel
theorem set_back : ∀ x : Nat, x < 64 → ∀ i, i < 6 → bt (I (x : Int)) i = true → (x - 2 ^ i < 64 ∧ 2 ^ i ≤ x ∧ I ((x - 2 ^ i : Nat) : Int) ||| b1 i = I (x : Int)) := by decide +kernel
theorem set_clr : ∀ x : Nat, x < 64 → ∀ i, i < 6 → bt (I (x : Int)) i = true → I (x : Int) &&& (b1 i ^^^ (-1)) = I ((x - 2 ^ i : Nat) : Int) := by decide +kernel
theorem sm_flip {i : Nat} (hi : i < 6) (A : Nat → Nat) (B : Int32 → Nat) : sm 64 (fun x : Nat => if bt (I (x : Int)) i then A (x - 2 ^ i) * B (I (x : Int)) else 0) = sm 64 (fun x : Nat => if !bt (I (x : Int)) i then A x * B (I (x : Int) ||| b1 i) else 0) := by
  unfold sm
  rw [ls_filter (fun x => A (x - 2 ^ i) * B (I (x : Int))), ls_filter (fun x => A x * B (I (x : Int) ||| b1 i)), ← set_lists i hi, ls_map]
  apply ls_congr
  intro a ha
  have h := List.mem_filter.mp ha
  have h1 := List.mem_range.mp h.1
  rw [(set_back a h1 i hi h.2).2.2]
theorem F_step (C : Nat → Int32) (d k : Nat) : sm 64 (fun x : Nat => CQ C (k + 1) x * F C d (k + 1) (I (x : Int))) = sm 64 (fun x : Nat => CQ C k x * F C (d + 1) k (I (x : Int))) := by
  have e1 : sm 64 (fun x : Nat => CQ C (k + 1) x * F C d (k + 1) (I (x : Int))) = sm 64 (fun x : Nat => sm 6 (fun i => (if bt (I (x : Int)) i && bt (C k) i then CQ C k (x - 2 ^ i) else 0) * F C d (k + 1) (I (x : Int)))) := sm_congr (fun x _ => by
    show sm 6 _ * _ = _
    rw [sm_mul])
  have e2 : sm 64 (fun x : Nat => CQ C k x * F C (d + 1) k (I (x : Int))) = sm 64 (fun x : Nat => sm 6 (fun i => (if bt (C k) i && !bt (I (x : Int)) i then F C d (k + 1) (I (x : Int) ||| b1 i) else 0) * CQ C k x)) := sm_congr (fun x _ => by
    show _ * sm 6 _ = _
    rw [Nat.mul_comm, sm_mul])
  rw [e1, e2, sm_comm, sm_comm 64 6]
  apply sm_congr
  intro i hi
  by_cases hb : bt (C k) i = true
  · have := sm_flip hi (CQ C k) (F C d (k + 1))
    refine Eq.trans (sm_congr (fun x _ => ?_)) (Eq.trans this (sm_congr (fun x _ => ?_)))
    · rw [hb, Bool.and_true]
      by_cases c : bt (I (x : Int)) i = true
      · rw [if_pos c, if_pos c]
      · rw [if_neg c, if_neg c, Nat.zero_mul]
    · rw [hb, Bool.true_and]
      by_cases c : (!bt (I (x : Int)) i) = true
      · rw [if_pos c, if_pos c, Nat.mul_comm]
      · rw [if_neg c, if_neg c, Nat.zero_mul]
  · have hb : bt (C k) i = false := Bool.eq_false_iff.mpr hb
    refine Eq.trans (sm_congr (h := fun _ => 0) (fun x _ => ?_)) (sm_congr (f := fun _ => 0) (fun x _ => ?_))
    · rw [hb, Bool.and_false]
      exact Nat.zero_mul _
    · rw [hb, Bool.false_and]
      exact (Nat.zero_mul _).symm
theorem F_all (C : Nat → Int32) (m : Nat) : ∀ k d, k + d = m → sm 64 (fun x : Nat => CQ C k x * F C d k (I (x : Int))) = F C m 0 0 := by
  intro k
  induction k with
  | zero =>
    intro d hd
    have : d = m := by omega
    subst this
    rw [sm_one (i := 0) (by decide) (fun j _ hj => by
      show (if j = 0 then 1 else 0) * _ = 0
      rw [if_neg hj, Nat.zero_mul])]
    show 1 * _ = _
    rw [Nat.one_mul]
    rfl
  | succ k ih =>
    intro d hd
    rw [F_step]
    exact ih (d + 1) (by omega)
theorem F_tot (C : Nat → Int32) (m : Nat) : sm 64 (CQ C m) = F C m 0 0 := by
  rw [← F_all C m m 0 rfl]
  exact sm_congr (fun x _ => (Nat.mul_one _).symm)
theorem F_le (C : Nat → Int32) : ∀ d k gv, F C d k gv ≤ 6 ^ d := by
  intro d
  induction d with
  | zero => intro k gv; exact Nat.le_refl _
  | succ d ih =>
    intro k gv
    show sm 6 _ ≤ _
    have := sm_le (n := 6) (b := 6 ^ d) (f := fun i => if bt (C k) i && !bt gv i then F C d (k + 1) (gv ||| b1 i) else 0) (fun i _ => by
      show (if _ then _ else _) ≤ _
      split
      · exact ih _ _
      · exact Nat.zero_le _)
    rw [Nat.pow_succ, Nat.mul_comm]
    exact this
theorem F_cg {C D : Nat → Int32} : ∀ d k gv, (∀ t, k ≤ t → t < k + d → ∀ i, i < 6 → bt (C t) i = bt (D t) i) → F C d k gv = F D d k gv := by
  intro d
  induction d with
  | zero => intro k gv _; rfl
  | succ d ih =>
    intro k gv h
    show sm 6 _ = sm 6 _
    apply sm_congr
    intro i hi
    rw [h k (Nat.le_refl _) (by omega) i hi, ih (k + 1) (gv ||| b1 i) (fun t h1 h2 => h t (by omega) (by omega))]
/-- one row given to one person -/
def Cr (C : Nat → Int32) (r i : Nat) : Nat → Int32 := fun t => if t = r then C t &&& b1 i else C t
theorem Cr_far {C : Nat → Int32} {r i : Nat} (d k : Nat) (gv : Int32) (h : r < k ∨ k + d ≤ r) : F (Cr C r i) d k gv = F C d k gv := F_cg d k gv (fun t h1 h2 j _ => by unfold Cr; rw [if_neg (by omega)])
theorem Cr_at {C : Nat → Int32} {r i j : Nat} (hi : i < 6) (hj : j < 6) : bt (Cr C r i r) j = (bt (C r) j && decide (j = i)) := by
  unfold Cr
  rw [if_pos rfl, bt_and, bt_b1 (by omega) (by omega)]
theorem Cr_now {C : Nat → Int32} {i : Nat} (hi : i < 6) (d k : Nat) (gv : Int32) : F (Cr C k i) (d + 1) k gv = if bt (C k) i && !bt gv i then F C d (k + 1) (gv ||| b1 i) else 0 := by
  show sm 6 _ = _
  rw [sm_one (i := i) hi (fun j hj hne => by rw [Cr_at hi hj, decide_eq_false hne, Bool.and_false, Bool.false_and]; rfl)]
  rw [Cr_at hi hi, decide_eq_true rfl, Bool.and_true, Cr_far d (k + 1) _ (by omega)]
theorem F_split (C : Nat → Int32) : ∀ d k r gv, k ≤ r → r < k + d → F C d k gv = sm 6 (fun i => F (Cr C r i) d k gv) := by
  intro d
  induction d with
  | zero => intro k r gv h1 h2; omega
  | succ d ih =>
    intro k r gv h1 h2
    by_cases c : r = k
    · subst c
      show sm 6 _ = _
      exact sm_congr (fun i hi => (Cr_now hi d r gv).symm)
    · show sm 6 _ = sm 6 (fun i => sm 6 _)
      rw [sm_comm]
      apply sm_congr
      intro j hj
      have e : ∀ i, Cr C r i k = C k := fun i => by unfold Cr; rw [if_neg (by omega)]
      by_cases hb : (bt (C k) j && !bt gv j) = true
      · rw [if_pos hb, ih (k + 1) r _ (by omega) (by omega)]
        exact sm_congr (fun i _ => by rw [e i, if_pos hb])
      · rw [if_neg hb]
        refine Eq.trans (sm_z 6).symm (sm_congr (fun i _ => ?_))
        rw [e i, if_neg hb]
