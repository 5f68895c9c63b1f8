/-! the best saying, as a table over lists of numbers: least weights, and the first choice that keeps them -/
def INF : Int := 1000000
def cn (x u : Nat) : Int := if u = 1 then (x : Int) else if u = 2 then -(x : Int) else ((x / 2 : Nat) : Int)
def cst (x u : Nat) : Bool := decide (u ≠ 3 ∨ x % 2 = 0)
def uses (last x : Nat) : List Nat := [1, 2, 3].filter (fun u => decide (u ≤ last) && cst x u)
def fm (b : Int) (l : List Int) : Int := l.foldl min b
theorem fm_le (b : Int) (l : List Int) : fm b l ≤ b := by
  induction l generalizing b with
  | nil => exact Int.le_refl _
  | cons a l ih => exact Int.le_trans (ih _) (Int.min_le_left _ _)
theorem fm_mem (b : Int) {l : List Int} {a : Int} (h : a ∈ l) : fm b l ≤ a := by
  induction l generalizing b with
  | nil => cases h
  | cons c l ih =>
    rcases List.mem_cons.mp h with e | e
    · subst e; exact Int.le_trans (fm_le (min b a) l) (Int.min_le_right _ _)
    · exact ih _ e
theorem fm_at (b : Int) (l : List Int) : fm b l = b ∨ fm b l ∈ l := by
  induction l generalizing b with
  | nil => exact Or.inl rfl
  | cons c l ih =>
    rcases ih (min b c) with h | h
    · show fm (min b c) l = b ∨ fm (min b c) l ∈ c :: l
      rw [h]
      rcases Int.le_total b c with q | q
      · rw [Int.min_eq_left q]; exact Or.inl rfl
      · rw [Int.min_eq_right q]; exact Or.inr List.mem_cons_self
    · exact Or.inr (List.mem_cons_of_mem _ h)
theorem fm_ge {b m : Int} {l : List Int} (hb : m ≤ b) (hl : ∀ a ∈ l, m ≤ a) : m ≤ fm b l := by
  rcases fm_at b l with h | h
  · rw [h]; exact hb
  · exact hl _ h
def DD (wt : Nat → Nat → Int) (last : Nat) : List Nat → Int → Int
  | [], r => if r = 0 then 0 else INF
  | x :: xs, r => fm (DD wt last xs r) ((uses last x).map (fun u => DD wt last xs (r - cn x u) + wt x u))
def fu1 (wt : Nat → Nat → Int) (last : Nat) (x : Nat) (xs : List Nat) (r : Int) : Option Nat := (uses last x).find? (fun u => decide (DD wt last xs (r - cn x u) + wt x u = DD wt last (x :: xs) r))
def PK (wt : Nat → Nat → Int) (last : Nat) : List Nat → Int → List (Nat × Nat)
  | [], _ => []
  | x :: xs, r => match fu1 wt last x xs r with
    | some u => (x, u) :: PK wt last xs (r - cn x u)
    | none => PK wt last xs r
section DP
variable {wt : Nat → Nat → Int} {last : Nat}
theorem DD_cons (x : Nat) (xs : List Nat) (r : Int) : DD wt last (x :: xs) r = fm (DD wt last xs r) ((uses last x).map (fun u => DD wt last xs (r - cn x u) + wt x u)) := rfl
theorem DD_inf (xs : List Nat) (r : Int) : DD wt last xs r ≤ INF := by
  induction xs generalizing r with
  | nil => unfold DD INF; split <;> decide
  | cons x xs ih => rw [DD_cons]; exact Int.le_trans (fm_le _ _) (ih r)
theorem DD_pos (hw : ∀ x u, 0 ≤ wt x u) (xs : List Nat) (r : Int) : 0 ≤ DD wt last xs r := by
  induction xs generalizing r with
  | nil => unfold DD INF; split <;> decide
  | cons x xs ih =>
    rw [DD_cons]
    refine fm_ge (ih r) (fun a ha => ?_)
    obtain ⟨u, -, e⟩ := List.mem_map.mp ha
    rw [← e]
    have := ih (r - cn x u)
    have := hw x u
    omega
theorem DD_skip (x : Nat) (xs : List Nat) (r : Int) : DD wt last (x :: xs) r ≤ DD wt last xs r := fm_le _ _
theorem DD_use {x u : Nat} (xs : List Nat) (r : Int) (hu : u ∈ uses last x) : DD wt last (x :: xs) r ≤ DD wt last xs (r - cn x u) + wt x u := fm_mem _ (List.mem_map.mpr ⟨u, hu, rfl⟩)
theorem DD_none {x : Nat} {xs : List Nat} {r : Int} (h : fu1 wt last x xs r = none) : DD wt last xs r = DD wt last (x :: xs) r := by
  have h1 := List.find?_eq_none.mp h
  rcases fm_at (DD wt last xs r) ((uses last x).map (fun u => DD wt last xs (r - cn x u) + wt x u)) with e | e
  · exact e.symm
  · obtain ⟨u, hu, e⟩ := List.mem_map.mp e
    have := h1 u hu
    simp only [decide_eq_true_eq] at this
    exact absurd e this
theorem DD_some {x u : Nat} {xs : List Nat} {r : Int} (h : fu1 wt last x xs r = some u) : u ∈ uses last x ∧ DD wt last xs (r - cn x u) + wt x u = DD wt last (x :: xs) r := by
  have h1 := List.find?_some h
  simp only [decide_eq_true_eq] at h1
  exact ⟨List.mem_of_find?_eq_some h, h1⟩
theorem DD_filter (p : Nat → Bool) (xs : List Nat) (r : Int) : DD wt last xs r ≤ DD wt last (xs.filter p) r := by
  induction xs generalizing r with
  | nil => exact Int.le_refl _
  | cons x xs ih =>
    by_cases hp : p x = true
    · rw [List.filter_cons_of_pos hp, DD_cons x (xs.filter p)]
      refine fm_ge (Int.le_trans (DD_skip x xs r) (ih r)) (fun a ha => ?_)
      obtain ⟨u, hu, e⟩ := List.mem_map.mp ha
      rw [← e]
      have h1 := DD_use (wt := wt) xs r hu
      have h2 := ih (r - cn x u)
      omega
    · rw [List.filter_cons_of_neg hp]
      exact Int.le_trans (DD_skip x xs r) (ih r)
/-- whoever does not need the numbers that are left out has the same best saying -/
theorem PK_filter (hw : ∀ x u, 0 ≤ wt x u) (p : Nat → Bool) (xs : List Nat) (r : Int) (hlt : DD wt last xs r < INF) (hp : ∀ q ∈ PK wt last xs r, p q.1 = true) : DD wt last (xs.filter p) r = DD wt last xs r ∧ PK wt last (xs.filter p) r = PK wt last xs r := by
  induction xs generalizing r with
  | nil => exact ⟨rfl, rfl⟩
  | cons x xs ih =>
    rw [PK] at hp
    cases hf : fu1 wt last x xs r with
    | none =>
      rw [hf] at hp
      have e1 := DD_none hf
      obtain ⟨i1, i2⟩ := ih r (by rw [e1]; exact hlt) hp
      by_cases hx : p x = true
      · rw [List.filter_cons_of_pos hx]
        have hnone : ∀ u ∈ uses last x, DD wt last xs r < DD wt last (xs.filter p) (r - cn x u) + wt x u := by
          intro u hu
          have h1 := DD_use (wt := wt) xs r hu
          have h2 := DD_filter (wt := wt) (last := last) p xs (r - cn x u)
          have h3 := List.find?_eq_none.mp hf u hu
          simp only [decide_eq_true_eq] at h3
          omega
        have e2 : DD wt last (x :: xs.filter p) r = DD wt last (x :: xs) r := by
          rw [← e1, DD_cons]
          rcases fm_at (DD wt last (xs.filter p) r) ((uses last x).map (fun u => DD wt last (xs.filter p) (r - cn x u) + wt x u)) with e | e
          · rw [e, i1]
          · obtain ⟨u, hu, e3⟩ := List.mem_map.mp e
            have h1 := hnone u hu
            have h2 := fm_le (DD wt last (xs.filter p) r) ((uses last x).map (fun u => DD wt last (xs.filter p) (r - cn x u) + wt x u))
            omega
        refine ⟨e2, ?_⟩
        have hf2 : fu1 wt last x (xs.filter p) r = none := by
          unfold fu1
          rw [List.find?_eq_none]
          intro u hu
          simp only [decide_eq_true_eq]
          have h1 := hnone u hu
          rw [e2, ← e1]
          omega
        rw [PK, PK, hf2, hf]
        exact i2
      · rw [List.filter_cons_of_neg hx, PK, hf]
        exact ⟨by rw [i1, e1], i2⟩
    | some u =>
      rw [hf] at hp
      obtain ⟨hu, e1⟩ := DD_some hf
      have hx : p x = true := hp (x, u) List.mem_cons_self
      have hwu := hw x u
      obtain ⟨i1, i2⟩ := ih (r - cn x u) (by omega) (fun q hq => hp q (List.mem_cons_of_mem _ hq))
      rw [List.filter_cons_of_pos hx]
      have e2 : DD wt last (x :: xs.filter p) r = DD wt last (x :: xs) r := by
        have h1 := DD_use (wt := wt) (xs.filter p) r hu
        have h2 := DD_filter (wt := wt) (last := last) p (x :: xs) r
        rw [List.filter_cons_of_pos hx] at h2
        omega
      refine ⟨e2, ?_⟩
      have hf2 : fu1 wt last x (xs.filter p) r = some u := by
        unfold fu1 at hf ⊢
        rw [List.find?_eq_some_iff_append] at hf ⊢
        obtain ⟨ha, as, bs', hl, hb⟩ := hf
        refine ⟨?_, as, bs', hl, fun v hv => ?_⟩
        · simp only [decide_eq_true_eq]
          omega
        · have h3 := hb v hv
          simp only [Bool.not_eq_true', decide_eq_false_iff_not] at h3 ⊢
          have hvu : v ∈ uses last x := by rw [hl]; exact List.mem_append_left _ hv
          have h4 := DD_use (wt := wt) xs r hvu
          have h5 := DD_filter (wt := wt) (last := last) p xs (r - cn x v)
          omega
      rw [PK, PK, hf2, hf]
      show (x, u) :: _ = (x, u) :: _
      rw [i2]
def wsum (wt : Nat → Nat → Int) : List (Nat × Nat) → Int
  | [] => 0
  | q :: l => wt q.1 q.2 + wsum wt l
theorem PK_sum (hw : ∀ x u, 0 ≤ wt x u) (xs : List Nat) (r : Int) (hlt : DD wt last xs r < INF) : DD wt last xs r = wsum wt (PK wt last xs r) := by
  induction xs generalizing r with
  | nil =>
    unfold DD at hlt ⊢
    split
    · rfl
    · rename_i h; rw [if_neg h] at hlt; exact absurd hlt (Int.lt_irrefl _)
  | cons x xs ih =>
    rw [PK]
    cases hf : fu1 wt last x xs r with
    | none => rw [← DD_none hf] at hlt ⊢; exact ih r hlt
    | some u =>
      obtain ⟨hu, e1⟩ := DD_some hf
      have hwu := hw x u
      have i := ih (r - cn x u) (by omega)
      show _ = wt x u + wsum wt _
      omega
theorem PK_mem {xs : List Nat} {r : Int} {q : Nat × Nat} (h : q ∈ PK wt last xs r) : q.1 ∈ xs ∧ q.2 ∈ uses last q.1 := by
  induction xs generalizing r with
  | nil => cases h
  | cons x xs ih =>
    rw [PK] at h
    cases hf : fu1 wt last x xs r with
    | none => rw [hf] at h; exact ⟨List.mem_cons_of_mem _ (ih h).1, (ih h).2⟩
    | some u =>
      rw [hf] at h
      rcases List.mem_cons.mp h with e | e
      · subst e; exact ⟨List.mem_cons_self, (DD_some hf).1⟩
      · exact ⟨List.mem_cons_of_mem _ (ih e).1, (ih e).2⟩
def nsum : List Nat → Int
  | [] => 0
  | x :: l => (x : Int) + nsum l
theorem nsum_pos (l : List Nat) : 0 ≤ nsum l := by
  induction l with
  | nil => exact Int.le_refl _
  | cons x l ih => show 0 ≤ (x : Int) + nsum l; omega
theorem uses_mem {last x u : Nat} (h : u ∈ uses last x) : 1 ≤ u ∧ u ≤ 3 ∧ u ≤ last ∧ cst x u = true := by
  unfold uses at h
  obtain ⟨h1, h2⟩ := List.mem_filter.mp h
  simp only [Bool.and_eq_true, decide_eq_true_eq] at h2
  simp at h1
  exact ⟨by omega, by omega, h2.1, h2.2⟩
theorem cn_abs {x u : Nat} (h1 : 1 ≤ u) (h3 : u ≤ 3) : -(x : Int) ≤ cn x u ∧ cn x u ≤ x := by
  unfold cn
  split
  · omega
  · split <;> omega
/-- what can not be reached -/
theorem DD_far {xs : List Nat} {r : Int} (hw : ∀ x u, 0 ≤ wt x u) (h : nsum xs < r ∨ r < -nsum xs) : DD wt last xs r = INF := by
  induction xs generalizing r with
  | nil =>
    unfold DD
    rw [if_neg]
    unfold nsum at h
    omega
  | cons x xs ih =>
    have h0 : nsum (x :: xs) = x + nsum xs := rfl
    have hp := nsum_pos xs
    apply Int.le_antisymm (DD_inf _ _)
    rw [DD_cons]
    refine fm_ge (by rw [ih (by omega)]; exact Int.le_refl _) (fun a ha => ?_)
    obtain ⟨u, hu, e⟩ := List.mem_map.mp ha
    have hm := uses_mem hu
    have hc := cn_abs (x := x) hm.1 hm.2.1
    have hwu := hw x u
    rw [ih (by omega)] at e
    omega
theorem DD_neg {xs : List Nat} {r : Int} (hw : ∀ x u, 0 ≤ wt x u) (hl : last ≤ 1) (h : r < 0) : DD wt last xs r = INF := by
  induction xs generalizing r with
  | nil =>
    unfold DD
    rw [if_neg (by omega)]
  | cons x xs ih =>
    apply Int.le_antisymm (DD_inf _ _)
    rw [DD_cons]
    refine fm_ge (by rw [ih h]; exact Int.le_refl _) (fun a ha => ?_)
    obtain ⟨u, hu, e⟩ := List.mem_map.mp ha
    have hm := uses_mem hu
    have hu1 : u = 1 := by omega
    subst hu1
    have hc : cn x 1 = x := rfl
    have hwu := hw x 1
    rw [ih (by omega)] at e
    omega
end DP
