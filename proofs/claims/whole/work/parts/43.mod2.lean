/-! the reference: its table -/
def numsF (may : Int32) (x m : Nat) : List Nat := (List.range' x m).filter (fun x => bt may (x - 1))
theorem range_sum (x m : Nat) (h : 1 ≤ x) (hm : x + m ≤ 25) : nsum (List.range' x m) ≤ 300 := by
  have e : List.range' 1 24 = List.range' 1 (x - 1) ++ (List.range' x m ++ List.range' (x + m) (25 - (x + m))) := by
    rw [List.range'_append_1]
    rw [show List.range' x (m + (25 - (x + m))) = List.range' (1 + (x - 1)) (m + (25 - (x + m))) by congr 1; omega]
    rw [List.range'_append_1]
    congr 1
    omega
  have h1 : nsum (List.range' 1 24) = 300 := by decide
  rw [e, nsum_app, nsum_app] at h1
  have := nsum_pos (List.range' 1 (x - 1))
  have := nsum_pos (List.range' (x + m) (25 - (x + m)))
  omega
theorem numsF_sum {may : Int32} {x m : Nat} (h : 1 ≤ x) (hm : x + m ≤ 25) : nsum (numsF may x m) ≤ 300 := Int.le_trans (nsum_filter _ _) (range_sum x m h hm)
theorem BY_b {wt : Nat → Nat → Int} (hw : WB wt) {last x u : Nat} {xs : List Nat} {s : Int} (h1 : 1 ≤ x) (h2 : x ≤ 24) (h3 : 1 ≤ u) (h4 : u ≤ 3) : 0 ≤ BY wt last x xs s u ∧ BY wt last x xs s u ≤ 1002000 := by
  have hI : INF = 1000000 := rfl
  have := hw.2 x u h1 h2 h3 h4
  have d0 := DD_pos (last := last) hw.1 xs (s - cn x u)
  unfold BY
  split
  · split <;> omega
  · omega
theorem fm_BY {wt : Nat → Nat → Int} (hw : WB wt) {last x : Nat} {xs : List Nat} {s : Int} (h1 : 1 ≤ x) (h2 : x ≤ 24) : ∀ (l : List Nat) (b : Int), b ≤ INF → (∀ u ∈ l, u ∈ [1, 2, 3]) → fm b ((l.filter (fun u => decide (u ≤ last) && cst x u)).map (fun u => DD wt last xs (s - cn x u) + wt x u)) = l.foldl (fun b u => min b (BY wt last x xs s u)) b := by
  intro l
  induction l with
  | nil => intro b _ _; rfl
  | cons u l ih =>
    intro b hb hl
    have hl' : ∀ u ∈ l, u ∈ [1, 2, 3] := fun u hu => hl u (List.mem_cons_of_mem _ hu)
    have hu := hl u List.mem_cons_self
    have hu3 : u = 1 ∨ u = 2 ∨ u = 3 := by simpa using hu
    have hm : u ∈ uses last x ↔ (decide (u ≤ last) && cst x u) = true := by unfold uses; rw [List.mem_filter]; exact ⟨fun z => z.2, fun z => ⟨hu, z⟩⟩
    have hwb := hw.2 x u h1 h2 (by omega) (by omega)
    have d1 := DD_inf (wt := wt) (last := last) xs (s - cn x u)
    rw [List.foldl_cons]
    by_cases c : (decide (u ≤ last) && cst x u) = true
    · rw [List.filter_cons_of_pos (p := fun u => decide (u ≤ last) && cst x u) c, List.map_cons]
      show fm (min b _) _ = _
      have e : min b (DD wt last xs (s - cn x u) + wt x u) = min b (BY wt last x xs s u) := by
        unfold BY
        rw [if_pos (hm.mpr c)]
        split
        · rfl
        · omega
      rw [e]
      exact ih _ (Int.le_trans (Int.min_le_left _ _) hb) hl'
    · rw [List.filter_cons_of_neg (p := fun u => decide (u ≤ last) && cst x u) c]
      have e : min b (BY wt last x xs s u) = b := by
        unfold BY
        rw [if_neg (fun z => c (hm.mp z))]
        omega
      rw [e]
      exact ih _ hb hl'
section T
variable {p q w v : Nat} {ds : Nat → Nat} {wt : Nat → Nat → Int}
theorem M_use {g : Nat → Nat → Int32} (k54 : Hp → Nat → Int32 → Int32 → Int32 → Option (Unit × Hp)) (k64 : Hp → Nat → Int32 → Int32 → Int32 → Int32 → Option (Unit × Hp)) {may : Int32} {x u kind fu : Nat} {s b : Int} {xs : List Nat} (hk : 1 ≤ kind) (hk3 : kind ≤ 3) (hw : WB wt) (hP : MPr g wt) (h1 : 1 ≤ x) (h2 : x ≤ 24) (h3 : 1 ≤ u) (h4 : u ≤ 3) (hs : -300 ≤ s ∧ s ≤ 300) (hR : RwM g (x + 1) (DD wt (lastU kind) xs)) (hn : nsum xs ≤ 300) (hb : 0 ≤ b ∧ b ≤ INF) (hbt : bt may (x - 1) = true) :
    f_X12_layTable_87 k54 k64 (fu + 1) (g, RF p q w v ds) 83 may (I kind) (I x) (I s) (I b) (I u) = f_X12_layTable_87 k54 k64 fu (g, RF p q w v ds) 83 may (I kind) (I x) (I s) (I (min b (BY wt (lastU kind) x xs s u))) (I ((u + 1 : Nat) : Int)) := by
  have hI : INF = 1000000 := rfl
  have c1 : ¬ (3 : Int32) < I (u : Int) := fun z => by have := (I_lt (a := 3) (by omega) (by omega)).mp z; omega
  have e1 : I (x : Int) - 1 = I ((x - 1 : Nat) : Int) := by show I (x : Int) - I 1 = _; rw [I_sub]; congr 1; omega
  have e2 : I (u : Int) + 1 = I ((u + 1 : Nat) : Int) := by show I (u : Int) + I 1 = _; rw [I_add]; congr 1
  have hB := BY_b (last := lastU kind) (xs := xs) (s := s) hw h1 h2 h3 h4
  rw [f_X12_layTable_87]
  simp only [if_neg c1, e1, e2, M_has _ _ (show x - 1 < 32 by omega), hbt, if_true, bd_s, M_by hk hk3 hw hP h1 h2 h3 h4 hs hR hn]
  rw [if_neg (by decide)]
  by_cases c : b ≤ BY wt (lastU kind) x xs s u
  · rw [if_pos ((I_le (by omega) (by omega)).mpr c), Int.min_eq_left c]
  · rw [if_neg (fun z => c ((I_le (by omega) (by omega)).mp z)), Int.min_eq_right (by omega)]
theorem M_uses {g : Nat → Nat → Int32} (k54 : Hp → Nat → Int32 → Int32 → Int32 → Option (Unit × Hp)) (k64 : Hp → Nat → Int32 → Int32 → Int32 → Int32 → Option (Unit × Hp)) {may : Int32} {x kind : Nat} {s : Int} {xs : List Nat} (hk : 1 ≤ kind) (hk3 : kind ≤ 3) (hw : WB wt) (hP : MPr g wt) (h1 : 1 ≤ x) (h2 : x ≤ 24) (hs : -300 ≤ s ∧ s ≤ 300) (hR : RwM g (x + 1) (DD wt (lastU kind) xs)) (hn : nsum xs ≤ 300) :
    f_X12_layTable_87 k54 k64 FU (g, RF p q w v ds) 83 may (I kind) (I x) (I s) (I (DD wt (lastU kind) xs s)) 1 = f_X12_layTable_139 k54 k64 (g, RF p q w v ds) 83 may (I kind) (I x) (I s) (I (DD wt (lastU kind) (if bt may (x - 1) then x :: xs else xs) s)) := by
  have hI : INF = 1000000 := rfl
  obtain ⟨fu, hFU⟩ : ∃ fu, FU = fu + 4 := ⟨99996, rfl⟩
  have d0 := DD_pos (last := lastU kind) hw.1 xs s
  have d1 := DD_inf (wt := wt) (last := lastU kind) xs s
  rw [hFU]
  cases hb : bt may (x - 1) with
  | false =>
    have e1 : I (x : Int) - 1 = I ((x - 1 : Nat) : Int) := by show I (x : Int) - I 1 = _; rw [I_sub]; congr 1; omega
    simp only [f_X12_layTable_87]
    rw [if_neg (by decide), e1, M_has _ _ (show x - 1 < 32 by omega), hb]
    simp only [bd_s, Bool.false_eq_true, if_false, reduceIte]
  | true =>
    have b1 := BY_b (last := lastU kind) (xs := xs) (s := s) (u := 1) hw h1 h2 (by decide) (by decide)
    have b2 := BY_b (last := lastU kind) (xs := xs) (s := s) (u := 2) hw h1 h2 (by decide) (by decide)
    have b3 := BY_b (last := lastU kind) (xs := xs) (s := s) (u := 3) hw h1 h2 (by decide) (by decide)
    have s1 := M_use (p := p) (q := q) (w := w) (v := v) (ds := ds) (fu := fu + 3) k54 k64 hk hk3 hw hP h1 h2 (u := 1) (by decide) (by decide) hs hR hn ⟨d0, d1⟩ hb
    have s2 := M_use (p := p) (q := q) (w := w) (v := v) (ds := ds) (fu := fu + 2) (b := min (DD wt (lastU kind) xs s) (BY wt (lastU kind) x xs s 1)) k54 k64 hk hk3 hw hP h1 h2 (u := 2) (by decide) (by decide) hs hR hn (by omega) hb
    have s3 := M_use (p := p) (q := q) (w := w) (v := v) (ds := ds) (fu := fu + 1) (b := min (min (DD wt (lastU kind) xs s) (BY wt (lastU kind) x xs s 1)) (BY wt (lastU kind) x xs s 2)) k54 k64 hk hk3 hw hP h1 h2 (u := 3) (by decide) (by decide) hs hR hn (by omega) hb
    have ef : DD wt (lastU kind) (x :: xs) s = min (min (min (DD wt (lastU kind) xs s) (BY wt (lastU kind) x xs s 1)) (BY wt (lastU kind) x xs s 2)) (BY wt (lastU kind) x xs s 3) := fm_BY hw h1 h2 [1, 2, 3] _ d1 (fun u hu => hu)
    show f_X12_layTable_87 k54 k64 (fu + 3 + 1) (g, RF p q w v ds) 83 may (I kind) (I x) (I s) (I (DD wt (lastU kind) xs s)) (I ((1 : Nat) : Int)) = _
    rw [s1]
    show f_X12_layTable_87 k54 k64 (fu + 2 + 1) (g, RF p q w v ds) 83 may (I kind) (I x) (I s) _ (I ((2 : Nat) : Int)) = _
    rw [s2]
    show f_X12_layTable_87 k54 k64 (fu + 1 + 1) (g, RF p q w v ds) 83 may (I kind) (I x) (I s) _ (I ((3 : Nat) : Int)) = _
    rw [s3]; simp only [f_X12_layTable_87]
    rw [if_pos (by decide)]
    rw [← ef]; try rfl
theorem M_row {may : Int32} {x kind : Nat} {xs : List Nat} (k54 : Hp → Nat → Int32 → Int32 → Int32 → Option (Unit × Hp)) (hk : 1 ≤ kind) (hk3 : kind ≤ 3) (hw : WB wt) (h1 : 1 ≤ x) (h2 : x ≤ 24) (hn : nsum xs ≤ 300) :
    ∀ (m fu : Nat) (s : Int) (g : Nat → Nat → Int32), m < fu → s + m = 301 → -300 ≤ s → MPr g wt → RwM g (x + 1) (DD wt (lastU kind) xs) → (∀ t : Int, -300 ≤ t → t < s → g 92 (601 * (x - 1) + (t + 300).toNat) = I (DD wt (lastU kind) (if bt may (x - 1) then x :: xs else xs) t)) →
    ∃ g', f_X12_layTable_64 k54 fu (g, RF p q w v ds) 83 may (I kind) (I x) (I s) = k54 (g', RF p q w v ds) 83 may (I kind) (I ((x - 1 : Nat) : Int)) ∧ Sb [92] g g' ∧ RwM g' x (DD wt (lastU kind) (if bt may (x - 1) then x :: xs else xs)) ∧ ∀ j, 601 * x ≤ j → g' 92 j = g 92 j := by
  intro m
  induction m with
  | zero =>
    intro fu s g hf hm hs hP hR hV
    obtain ⟨fu, rfl⟩ : ∃ k, fu = k + 1 := ⟨fu - 1, by omega⟩
    have c1 : (300 : Int32) < I s := (I_lt (a := 300) (by omega) (by omega)).mpr (by omega)
    have e1 : I (x : Int) + (-1) = I ((x - 1 : Nat) : Int) := by show I (x : Int) + I (-1) = _; rw [I_add]; congr 1; omega
    refine ⟨g, ?_, Sb.rf, fun t a b => hV t a (by omega), fun _ _ => rfl⟩
    simp only [f_X12_layTable_64]; rw [if_pos c1, e1]
  | succ m ih =>
    intro fu s g hf hm hs hP hR hV
    obtain ⟨fu, rfl⟩ : ∃ k, fu = k + 1 := ⟨fu - 1, by omega⟩
    have c1 : ¬ (300 : Int32) < I s := fun z => by have := (I_lt (a := 300) (by omega) (by omega)).mp z; omega
    have e1 : I (x : Int) + 1 = I ((x + 1 : Nat) : Int) := by show I (x : Int) + I 1 = _; rw [I_add]; congr 1
    have e2 : I s + 1 = I (s + 1) := by show I s + I 1 = _; rw [I_add]
    have e3 : (601 : Int32) * (I (x : Int) - 1) + I s + 300 = I ((601 * (x - 1) + (s + 300).toNat : Nat) : Int) := by
      show I 601 * (I (x : Int) - I 1) + I s + I 300 = _
      rw [I_sub, I_mul, I_add, I_add]
      congr 1
      omega
    have i3 : inr (I ((601 * (x - 1) + (s + 300).toNat : Nat) : Int)) 15626 = true := I_inr (by omega) (by omega) (by omega)
    have c3 : (I ((601 * (x - 1) + (s + 300).toNat : Nat) : Int)).toNatClampNeg = 601 * (x - 1) + (s + 300).toNat := by rw [I_cl (by omega) (by omega)]; omega
    simp only [f_X12_layTable_64]; rw [if_neg c1, e1, M_laid (by omega) (by omega) (by omega)]
    rw [if_pos (by omega), hR s hs (by omega)]
    simp only [bd_s]
    rw [M_uses k54 _ hk hk3 hw hP h1 h2 (by omega) hR hn]
    unfold f_X12_layTable_139
    simp only [r_83_15, k_92, n_92, gd, lt, bd_s, if_true, if_false, reduceIte, si_uc, uc_s, uc_n, upd_s, upd_n, Nat.reduceEqDiff, ne_eq, not_false_eq_true, not_true_eq_false, e3, i3, c3, e2]
    obtain ⟨g', a1, a2, a3, a4⟩ := ih fu (s + 1) (uc g 92 (upd (g 92) (601 * (x - 1) + (s + 300).toNat) (I (DD wt (lastU kind) (if bt may (x - 1) then x :: xs else xs) s)))) (by omega) (by omega) (by omega) (fun y b1 b2 => by rw [uc_n (by decide)]; exact hP y b1 b2) (fun t b1 b2 => by rw [uc_s, upd_n (by omega)]; exact hR t b1 b2) (fun t b1 b2 => by
      rw [uc_s]
      by_cases e : t = s
      · subst e; rw [upd_s]
      · rw [upd_n (by omega)]; exact hV t b1 (by omega))
    exact ⟨g', a1, Sb.tr (Sb.rf.uc (by decide)) a2, a3, fun j hj => by rw [a4 j hj, uc_s, upd_n (by omega)]⟩
/-- all rows from x on -/
def TBM (g : Nat → Nat → Int32) (wt : Nat → Nat → Int) (kind : Nat) (may : Int32) (n x : Nat) : Prop := ∀ y, x ≤ y → 1 ≤ y → y ≤ n + 1 → RwM g y (DD wt (lastU kind) (numsF may y (n + 1 - y)))
theorem M_rows {may : Int32} {kind n : Nat} (hk : 1 ≤ kind) (hk3 : kind ≤ 3) (hw : WB wt) (hn : n ≤ 24) :
    ∀ (x fu : Nat) (g : Nat → Nat → Int32), x < fu → x ≤ n → MPr g wt → TBM g wt kind may n (x + 1) →
    ∃ g', f_X12_layTable_54 fu (g, RF p q w v ds) 83 may (I kind) (I x) = some ((), (g', RF p q w v ds)) ∧ Sb [92] g g' ∧ TBM g' wt kind may n 1 := by
  intro x
  induction x with
  | zero =>
    intro fu g hf hx hP hT
    obtain ⟨fu, rfl⟩ : ∃ k, fu = k + 1 := ⟨fu - 1, by omega⟩
    exact ⟨g, by simp only [f_X12_layTable_54]; rw [if_pos (by decide)], Sb.rf, hT⟩
  | succ x ih =>
    intro fu g hf hx hP hT
    obtain ⟨fu, rfl⟩ : ∃ k, fu = k + 1 := ⟨fu - 1, by omega⟩
    have c1 : ¬ I ((x + 1 : Nat) : Int) ≤ 0 := fun z => by have := (I_le (b := 0) (by omega) (by omega)).mp z; omega
    obtain ⟨g1, a1, a2, a3, a4⟩ := M_row (p := p) (q := q) (w := w) (v := v) (ds := ds) (may := may) (x := x + 1) (xs := numsF may (x + 2) (n + 1 - (x + 2))) (f_X12_layTable_54 fu) hk hk3 hw (by omega) (by omega) (numsF_sum (by omega) (by omega)) 601 FU (-300) g (FU_lt (by omega)) (by omega) (by omega) hP (hT (x + 2) (by omega) (by omega) (by omega)) (fun t b1 b2 => by omega)
    have hT1 : TBM g1 wt kind may n (x + 1) := by
      intro y h1 h2 h3
      by_cases e : y = x + 1
      · subst e
        have el : numsF may (x + 1) (n + 1 - (x + 1)) = if bt may (x + 1 - 1) then (x + 1) :: numsF may (x + 2) (n + 1 - (x + 2)) else numsF may (x + 2) (n + 1 - (x + 2)) := by
          unfold numsF
          rw [show n + 1 - (x + 1) = (n + 1 - (x + 2)) + 1 by omega, List.range'_succ]
          cases hb : bt may (x + 1 - 1) with
          | true => rw [List.filter_cons_of_pos (by rw [hb]), if_pos rfl]
          | false => rw [List.filter_cons_of_neg (by rw [hb]; decide), if_neg (by decide)]
        rw [el]
        exact a3
      · intro s b1 b2
        rw [a4 _ (by omega)]
        exact hT y (by omega) h2 h3 s b1 b2
    obtain ⟨g', c1', c2, c3⟩ := ih fu g1 (by omega) (by omega) (fun y b1 b2 => by rw [a2 84 (by decide)]; exact hP y b1 b2) hT1
    refine ⟨g', ?_, Sb.tr a2 c2, c3⟩
    simp only [f_X12_layTable_54]; rw [if_neg c1]
    show f_X12_layTable_64 (f_X12_layTable_54 fu) FU (g, RF p q w v ds) 83 may (I kind) (I ((x + 1 : Nat) : Int)) (I (-300)) = _
    rw [a1]
    exact c1'
theorem M_base {may : Int32} {kind n : Nat} (hk : 1 ≤ kind) (hk3 : kind ≤ 3) (hw : WB wt) (hn : n ≤ 24) :
    ∀ (m fu k : Nat) (g : Nat → Nat → Int32), m < fu → k + m = 601 → MPr g wt → (∀ j, j < k → g 92 (601 * n + j) = if j = 300 then 0 else I INF) →
    ∃ g', f_X12_layTable_10 fu (g, RF p q w v ds) 83 may (I kind) (I n) (I k) = some ((), (g', RF p q w v ds)) ∧ Sb [92] g g' ∧ TBM g' wt kind may n 1 := by
  intro m
  induction m with
  | zero =>
    intro fu k g hf hm hP hV
    obtain ⟨fu, rfl⟩ : ∃ k, fu = k + 1 := ⟨fu - 1, by omega⟩
    have c1 : (601 : Int32) ≤ I (k : Int) := (I_le (a := 601) (by omega) (by omega)).mpr (by omega)
    simp only [f_X12_layTable_10]; rw [if_pos c1]
    refine M_rows hk hk3 hw hn n FU g (FU_lt (by omega)) (Nat.le_refl _) hP ?_
    intro y h1 h2 h3 s b1 b2
    have : y = n + 1 := by omega
    subst this
    rw [Nat.add_sub_cancel, hV _ (by omega), Nat.sub_self]
    show _ = I (if s = 0 then 0 else INF)
    by_cases e : s = 0
    · subst e; rfl
    · rw [if_neg (by omega), if_neg e]
  | succ m ih =>
    intro fu k g hf hm hP hV
    obtain ⟨fu, rfl⟩ : ∃ k, fu = k + 1 := ⟨fu - 1, by omega⟩
    have c1 : ¬ (601 : Int32) ≤ I (k : Int) := fun z => by have := (I_le (a := 601) (by omega) (by omega)).mp z; omega
    have e1 : (601 : Int32) * I (n : Int) + I (k : Int) = I ((601 * n + k : Nat) : Int) := by show I 601 * I (n : Int) + I (k : Int) = _; rw [I_mul, I_add]; congr 1
    have e2 : I (k : Int) + 1 = I ((k + 1 : Nat) : Int) := by show I (k : Int) + I 1 = _; rw [I_add]; congr 1
    have i1 : inr (I ((601 * n + k : Nat) : Int)) 15626 = true := I_inr (by omega) (by omega) (by omega)
    have c2 : (I ((601 * n + k : Nat) : Int)).toNatClampNeg = 601 * n + k := by rw [I_cl (by omega) (by omega)]; omega
    have nx : ∀ vv : Int32, vv = (if k = 300 then 0 else I INF) → ∃ g', f_X12_layTable_10 fu (uc g 92 (upd (g 92) (601 * n + k) vv), RF p q w v ds) 83 may (I kind) (I n) (I ((k + 1 : Nat) : Int)) = some ((), (g', RF p q w v ds)) ∧ Sb [92] g g' ∧ TBM g' wt kind may n 1 := by
      intro vv hvv
      obtain ⟨g', a1, a2, a3⟩ := ih fu (k + 1) (uc g 92 (upd (g 92) (601 * n + k) vv)) (by omega) (by omega) (fun y b1 b2 => by rw [uc_n (by decide)]; exact hP y b1 b2) (fun j hj => by
        rw [uc_s]
        by_cases e : j = k
        · subst e; rw [upd_s]; exact hvv
        · rw [upd_n (by omega)]; exact hV j (by omega))
      exact ⟨g', a1, Sb.tr (Sb.rf.uc (by decide)) a2, a3⟩
    simp only [f_X12_layTable_10]; rw [if_neg c1]
    unfold f_X12_layTable_44
    simp only [r_83_15, k_92, n_92, gd, lt, bd_s, if_true, if_false, reduceIte, si_uc, uc_s, uc_n, upd_s, upd_n, Nat.reduceEqDiff, ne_eq, not_false_eq_true, not_true_eq_false, e1, e2, i1, c2]
    by_cases e : k = 300
    · rw [if_pos (by rw [e]; rfl)]
      exact nx 0 (by rw [if_pos e])
    · rw [if_neg (fun z => e (by have := (I_inj (b := 300) (by omega) (by omega)).mp z; omega))]
      exact nx _ (by rw [if_neg e]; rfl)
theorem M_lay {g : Nat → Nat → Int32} {may : Int32} {kind n : Nat} (hk : 1 ≤ kind) (hk3 : kind ≤ 3) (hw : WB wt) (hn : n ≤ 24) (hP : MPr g wt) (h0 : g 84 0 = I n) :
    ∃ g', f_X12_layTable (g, RF p q w v ds) 83 may (I kind) = some ((), (g', RF p q w v ds)) ∧ Sb [92] g g' ∧ TBM g' wt kind may n 1 := by
  have i0 : inr (0 : Int32) 59 = true := by decide
  have c0 : (0 : Int32).toNatClampNeg = 0 := by decide
  unfold f_X12_layTable
  simp only [r_83_1, k_83, k_84, n_84, gd, lt, bd_s, if_true, if_false, reduceIte, si_uc, uc_s, uc_n, upd_s, upd_n, Nat.reduceEqDiff, ne_eq, not_false_eq_true, not_true_eq_false, i0, c0, h0]
  exact M_base hk hk3 hw hn 601 FU 0 g (FU_lt (by omega)) (by omega) hP (fun j hj => absurd hj (by omega))
end T
