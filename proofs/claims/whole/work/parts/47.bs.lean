/-! more of the best saying -/
theorem DD_congr {wt wt' : Nat → Nat → Int} {last : Nat} : ∀ (xs : List Nat) (r : Int), (∀ x ∈ xs, ∀ u, wt x u = wt' x u) → DD wt last xs r = DD wt' last xs r := by
  intro xs
  induction xs with
  | nil => intro r _; rfl
  | cons x xs ih =>
    intro r h
    have ih := fun r => ih r (fun y hy => h y (List.mem_cons_of_mem _ hy))
    rw [DD_cons, DD_cons]
    simp only [ih, h x List.mem_cons_self]
theorem PK_congr {wt wt' : Nat → Nat → Int} {last : Nat} : ∀ (xs : List Nat) (r : Int), (∀ x ∈ xs, ∀ u, wt x u = wt' x u) → PK wt last xs r = PK wt' last xs r := by
  intro xs
  induction xs with
  | nil => intro r _; rfl
  | cons x xs ih =>
    intro r h
    have h' : ∀ y ∈ xs, ∀ u, wt y u = wt' y u := fun y hy => h y (List.mem_cons_of_mem _ hy)
    have e : fu1 wt last x xs r = fu1 wt' last x xs r := by
      unfold fu1
      simp only [DD_congr _ _ h, DD_congr _ _ h', h x List.mem_cons_self]
    rw [PK, PK, e]
    cases fu1 wt' last x xs r with
    | none => exact ih r h'
    | some u => show (x, u) :: _ = (x, u) :: _; rw [ih _ h']
theorem BS_congr {wt wt' : Nat → Nat → Int} {kind a n : Nat} {may : Int32} (hm : ∀ i, n ≤ i → i < 32 → bt may i = false) (h : ∀ x, 1 ≤ x → x ≤ n → ∀ u, wt x u = wt' x u) : BS wt kind may a = BS wt' kind may a := by
  have hx : ∀ x ∈ nums (bm kind may a), ∀ u, wt x u = wt' x u := by
    intro x hx u
    obtain ⟨h1, h2, h3⟩ := nums_mem.mp hx
    refine h x h1 ?_ u
    rcases Nat.lt_or_ge n x with q | q
    · rw [bm_bt, hm (x - 1) (by omega) (by omega)] at h3; simp at h3
    · exact q
  unfold BS PKo
  rw [DD_congr _ _ hx, PK_congr _ _ hx]
theorem BS_may {wt : Nat → Nat → Int} {kind a : Nat} {may : Int32} {q : Nat × Nat} (h : q ∈ BS wt kind may a) : bt may (q.1 - 1) = true := by
  have := (nums_mem.mp (BS_mem h).1).2.2
  rw [bm_bt, Bool.and_eq_true] at this
  exact this.1
theorem us_may {wt : Nat → Nat → Int} {kind a i : Nat} {may : Int32} (hi : i < 32) (h : bt (us (BS wt kind may a)) i = true) : bt may i = true := by
  obtain ⟨q, h1, h2⟩ := (us_bt hi).mp h
  have := BS_may h1
  rw [h2] at this
  exact this
theorem us_0 {wt : Nat → Nat → Int} {kind a : Nat} {may : Int32} : us (BS wt kind may a) = 0 ↔ BS wt kind may a = [] := by
  constructor
  · intro h
    cases hL : BS wt kind may a with
    | nil => rfl
    | cons q L =>
      have hq : q ∈ BS wt kind may a := by rw [hL]; exact List.mem_cons_self
      have hr := BS_rng q hq
      have := (us_bt (wt := wt) (kind := kind) (may := may) (a := a) (i := q.1 - 1) (by omega)).mpr ⟨q, hq, by omega⟩
      rw [h, bt_0] at this
      cases this
  · intro h; rw [h]; rfl
/-- fewer numbers: who can not say it then can not say it -/
theorem BS_mono {wt : Nat → Nat → Int} {kind a : Nat} {may m0 : Int32} (hw : ∀ x u, 0 ≤ wt x u) (h : may &&& (m0 ^^^ (-1)) = 0) (h2 : BS wt kind m0 a = []) : BS wt kind may a = [] := by
  rw [← BS_hit hw h, h2]
  rw [h2]
  apply bt_ext
  intro i hi
  rw [bt_and]
  show (bt (us []) i && _) = _
  rw [show us [] = 0 from rfl, bt_0, Bool.false_and]
theorem PK_sub {wt : Nat → Nat → Int} {last : Nat} : ∀ (xs : List Nat) (r : Int), List.Sublist ((PK wt last xs r).map (fun q => q.1)) xs := by
  intro xs
  induction xs with
  | nil => intro r; exact List.Sublist.refl _
  | cons x xs ih =>
    intro r
    rw [PK]
    cases fu1 wt last x xs r with
    | none => exact List.Sublist.cons _ (ih r)
    | some u => exact List.Sublist.cons_cons _ (ih _)
theorem BS_nodup {wt : Nat → Nat → Int} {kind a : Nat} {may : Int32} : ((BS wt kind may a).map (fun q => q.1)).Nodup := by
  unfold BS PKo
  split
  · refine List.Nodup.sublist (PK_sub _ _) ?_
    unfold nums
    exact List.Nodup.sublist List.filter_sublist List.nodup_range'
  · exact List.nodup_nil
theorem pc_ins {y : Int32} {k : Nat} (hk : k < 32) (hb : bt y k = false) : ∀ n, n ≤ 32 → pc n (b1 k ||| y) = pc n y + (if k < n then 1 else 0) := by
  intro n
  induction n with
  | zero => intro _; rfl
  | succ n ih =>
    intro hn
    show pc n (b1 k ||| y) + (if bt (b1 k ||| y) n then 1 else 0) = pc n y + (if bt y n then 1 else 0) + _
    rw [ih (by omega), bt_or, bt_b1 hk (by omega)]
    by_cases e : n = k
    · subst e
      rw [hb]
      simp
    · rw [decide_eq_false e, Bool.false_or]
      by_cases q : k < n
      · rw [if_pos q, if_pos (show k < n + 1 by omega)]; omega
      · rw [if_neg q, if_neg (show ¬ k < n + 1 by omega)]; omega
theorem us_cons {q : Nat × Nat} {L : List (Nat × Nat)} (h1 : 1 ≤ q.2) (h3 : q.2 ≤ 3) : us (q :: L) = b1 (q.1 - 1) ||| us L := by
  apply bt_ext
  intro i hi
  unfold us
  show bt (((if q.2 = 1 then b1 (q.1 - 1) else 0) ||| su 1 L) ||| ((if q.2 = 2 then b1 (q.1 - 1) else 0) ||| su 2 L) ||| ((if q.2 = 3 then b1 (q.1 - 1) else 0) ||| su 3 L)) i = _
  have : q.2 = 1 ∨ q.2 = 2 ∨ q.2 = 3 := by omega
  rcases this with e | e | e <;> simp only [e, bt_or, bt_0, if_true, reduceIte, Nat.reduceEqDiff, Bool.false_or] <;> cases bt (b1 (q.1 - 1)) i <;> simp
theorem pc_us : ∀ (L : List (Nat × Nat)), (∀ q ∈ L, 1 ≤ q.1 ∧ q.1 ≤ 24) → (∀ q ∈ L, 1 ≤ q.2 ∧ q.2 ≤ 3) → (L.map (fun q => q.1)).Nodup → pc 32 (us L) = L.length := by
  intro L
  induction L with
  | nil => intro _ _ _; decide
  | cons q L ih =>
    intro h1 h2 h3
    have hr := h1 q List.mem_cons_self
    have hu := h2 q List.mem_cons_self
    rw [List.map_cons, List.nodup_cons] at h3
    have i1 := ih (fun x hx => h1 x (List.mem_cons_of_mem _ hx)) (fun x hx => h2 x (List.mem_cons_of_mem _ hx)) h3.2
    have hrL : ∀ x ∈ L, 1 ≤ x.1 ∧ x.1 ≤ 24 := fun x hx => h1 x (List.mem_cons_of_mem _ hx)
    have hb : bt (us L) (q.1 - 1) = false := by
      apply Bool.eq_false_iff.mpr
      intro hb
      unfold us at hb
      rw [bt_or, bt_or, Bool.or_eq_true, Bool.or_eq_true, su_bt hrL (by omega), su_bt hrL (by omega), su_bt hrL (by omega)] at hb
      have : ∃ x ∈ L, x.1 = q.1 := by
        rcases hb with (⟨x, a, -, b⟩ | ⟨x, a, -, b⟩) | ⟨x, a, -, b⟩ <;> exact ⟨x, a, by omega⟩
      obtain ⟨x, a, b⟩ := this
      exact h3.1 (List.mem_map.mpr ⟨x, a, b⟩)
    rw [us_cons hu.1 hu.2, pc_ins (by omega) hb 32 (Nat.le_refl _), i1, if_pos (by omega), List.length_cons]
theorem pc_BS {wt : Nat → Nat → Int} {kind a : Nat} {may : Int32} : pc 32 (us (BS wt kind may a)) = (BS wt kind may a).length := pc_us _ BS_rng (fun q h => by have := uses_mem (BS_mem h).2; omega) BS_nodup
theorem wsum_e (wt : Nat → Nat → Int) (L : List (Nat × Nat)) : wsum wt L = 1000 * L.length + spr wt L := by
  induction L with
  | nil => rfl
  | cons q L ih => show wt q.1 q.2 + wsum wt L = 1000 * ((L.length + 1 : Nat) : Int) + ((wt q.1 q.2 - 1000) + spr wt L); omega
theorem BS_len {wt : Nat → Nat → Int} {kind a : Nat} {may : Int32} : (BS wt kind may a).length ≤ 24 := by
  unfold BS PKo
  split
  · have h := (PK_sub (wt := wt) (last := lastU kind) (nums (bm kind may a)) a).length_le
    rw [List.length_map] at h
    exact Nat.le_trans h (nums_len _)
  · exact Nat.zero_le _
theorem spr_BS {wt : Nat → Nat → Int} {kind a : Nat} {may : Int32} (hw : WB wt) : 0 ≤ spr wt (BS wt kind may a) ∧ spr wt (BS wt kind may a) ≤ 432 := by
  unfold BS PKo
  split
  · have h := spr_b (last := lastU kind) hw.2 (nums (bm kind may a)) a (fun x hx => nums_b x hx)
    have := nums_len (bm kind may a)
    omega
  · exact ⟨Int.le_refl _, (by decide : (0 : Int) ≤ 432)⟩
theorem RES_4 {wt : Nat → Nat → Int} {kind a : Nat} {may : Int32} (hw : WB wt) : RES wt (BS wt kind may a) = -4 ↔ BS wt kind may a = [] := by
  unfold RES
  constructor
  · intro h
    by_cases e : BS wt kind may a = []
    · exact e
    · rw [if_neg e, wsum_e] at h
      have h1 := spr_BS (kind := kind) (a := a) (may := may) hw
      have h2 := BS_len (wt := wt) (kind := kind) (a := a) (may := may)
      rw [I_m4, I_inj (by omega) (by omega)] at h
      omega
  · intro h; rw [if_pos h]
theorem RES_n {wt : Nat → Nat → Int} {kind a : Nat} {may : Int32} (hw : WB wt) (h : BS wt kind may a ≠ []) : RES wt (BS wt kind may a) / 1000 = I ((BS wt kind may a).length : Nat) ∧ RES wt (BS wt kind may a) - RES wt (BS wt kind may a) / 1000 * 1000 = I (spr wt (BS wt kind may a)) := by
  have h1 := spr_BS (kind := kind) (a := a) (may := may) hw
  have h2 := BS_len (wt := wt) (kind := kind) (a := a) (may := may)
  unfold RES
  rw [if_neg h, wsum_e]
  have e : I (1000 * ((BS wt kind may a).length : Int) + spr wt (BS wt kind may a)) / 1000 = I ((BS wt kind may a).length : Nat) := by
    show _ / I 1000 = _
    rw [I_divn (by omega) (by omega) (by omega) (by omega)]
    congr 1
    omega
  rw [e]
  refine ⟨rfl, ?_⟩
  show _ - _ * I 1000 = _
  rw [I_mul, I_sub]
  congr 1
  omega
