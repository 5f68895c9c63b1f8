/-! the table: the best saying out of it -/
/-- a sum that those ahead can bring to an amount -/
def AR (kind : Nat) (xs : List Nat) (k : Nat) (s : Int) : Prop := if 2 ≤ kind then 1 - ahd xs k ≤ s ∧ s ≤ 99 + ahd xs k else s ≤ 99
theorem AR_0 {kind : Nat} {xs : List Nat} {a : Int} (h1 : 1 ≤ a) (h2 : a ≤ 99) : AR kind xs 0 a := by
  have : ahd xs 0 = 0 := rfl
  unfold AR
  split <;> omega
theorem AR_skip {kind : Nat} {xs : List Nat} {k : Nat} {s : Int} (hk : k < xs.length) (h : AR kind xs k s) : AR kind xs (k + 1) s := by
  have := ahd_succ hk
  unfold AR at h ⊢
  split
  · rename_i h2; rw [if_pos h2] at h; omega
  · rename_i h2; rw [if_neg h2] at h; omega
theorem AR_use {kind : Nat} {xs : List Nat} {k u : Nat} {s : Int} (hk : k < xs.length) (hu : 1 ≤ u ∧ u ≤ lastU kind) (h : AR kind xs k s) : AR kind xs (k + 1) (s - cn (xs.getD k 0) u) := by
  have := ahd_succ hk
  have hl3 := lastU_le kind
  have hc := cn_abs (x := xs.getD k 0) hu.1 (by omega)
  unfold AR at h ⊢
  split
  · rename_i h2; rw [if_pos h2] at h; omega
  · rename_i h2
    rw [if_neg h2] at h
    have hl := lastU_1 h2
    have hu1 : u = 1 := by omega
    subst hu1
    have hc1 : cn (xs.getD k 0) 1 = (xs.getD k 0 : Nat) := rfl
    omega
def su (u : Nat) : List (Nat × Nat) → Int32
  | [] => 0
  | q :: l => (if q.2 = u then b1 (q.1 - 1) else 0) ||| su u l
def spr (wt : Nat → Nat → Int) : List (Nat × Nat) → Int
  | [] => 0
  | q :: l => (wt q.1 q.2 - 1000) + spr wt l
section T
variable {p q w v : Nat} {ds : Nat → Nat} {wt : Nat → Nat → Int}
theorem X_at {g : Nat → Nat → Int32} {may : Int32} {kind k : Nat} {s : Int} (hw : ∀ x u, 0 ≤ wt x u) (hT : TBL g wt may kind) (hk : k ≤ (nums may).length) (hA : AR kind (nums may) k s) (hs : -1000 ≤ s ∧ s ≤ 1000) :
    f_X7_at (g, RF p q w v ds) 62 (I k) (I s) = some (I (DD wt (lastU kind) ((nums may).drop k) s), (g, RF p q w v ds)) := by
  obtain ⟨-, -, hN, hB, hR⟩ := hT
  have hl := nums_len may
  have hsum := nums_sum may
  have blo := bnd_lo (decide (2 ≤ kind)) (nums may) k hsum
  have bhi := bnd_hi (decide (2 ≤ kind)) (nums may) k hsum
  have ek : (I (k : Int)).toNatClampNeg = k := by rw [I_cl (by omega) (by omega)]; omega
  have i1 : inr (I (k : Int)) 25 = true := I_inr (by omega) (by omega) (by omega)
  obtain ⟨e1, e2⟩ := hB k (by omega)
  have far : (s < loB (decide (2 ≤ kind)) (nums may) k ∨ hiB (decide (2 ≤ kind)) (nums may) k < s) → DD wt (lastU kind) ((nums may).drop k) s = INF := by
    intro ho
    unfold AR at hA
    have hb0 := beh_pos (nums may) k
    by_cases hg : 2 ≤ kind
    · simp only [loB, hiB, hg, decide_true, if_true] at hA ho
      have hf : beh (nums may) k < s ∨ s < -(beh (nums may) k) := by omega
      exact DD_far hw hf
    · simp only [loB, hiB, hg, decide_false, if_false, Bool.false_eq_true] at hA ho
      by_cases hneg : s < 0
      · exact DD_neg hw (by rw [lastU_1 hg]; omega) hneg
      · have hf : beh (nums may) k < s ∨ s < -(beh (nums may) k) := by omega
        exact DD_far hw hf
  unfold f_X7_at
  simp only [r_61_0, r_61_1, r_61_2, r_61_3, r_61_4, r_61_5, r_61_6, r_61_7, r_62_4, r_62_5, r_62_6, r_62_7, r_62_8, k_61, n_61, k_62, n_62, k_63, n_63, k_64, n_64, k_65, n_65, k_66, n_66, k_67, n_67, k_68, n_68, k_69, n_69, k_70, n_70, k_71, n_71, k_72, n_72, k_73, n_73, k_74, n_74, gd, lt, bd_s, if_true, if_false, reduceIte, si_uc, uc_s, uc_n, upd_s, upd_n, Nat.reduceEqDiff, ne_eq, not_false_eq_true, not_true_eq_false, i1, ek, e1, e2, I_lit, I_mul, I_add]
  by_cases h1 : s < loB (decide (2 ≤ kind)) (nums may) k
  · rw [if_pos ((I_lt (by omega) (by omega)).mpr h1), far (Or.inl h1)]; rfl
  · rw [if_neg (fun z => h1 ((I_lt (by omega) (by omega)).mp z))]
    by_cases h2 : s ≤ hiB (decide (2 ≤ kind)) (nums may) k
    · rw [if_pos ((I_le (by omega) (by omega)).mpr h2)]
      have i2 : inr (I ((k : Int) * 601 + 300 + s)) 15025 = true := I_inr (by omega) (by omega) (by omega)
      have l2 : (I ((k : Int) * 601 + 300 + s)).toNatClampNeg = tix k s := by rw [I_cl (by omega) (by omega)]; rfl
      rw [i2, l2, if_pos rfl, (hR k (Nat.zero_le _) hk s (by omega) h2).1]
    · rw [if_neg (fun z => h2 ((I_le (by omega) (by omega)).mp z)), far (Or.inr (by omega))]; rfl
theorem X_first_lp {g : Nat → Nat → Int32} {may : Int32} {kind k : Nat} {s : Int} (hw : ∀ x u, 0 ≤ wt x u) (hkind : kind ≤ 3) (hP : PrOK g wt) (hT : TBL g wt may kind) (hk : k < (nums may).length) (hA : AR kind (nums may) k s) (hs : -400 ≤ s ∧ s ≤ 400) (left : Int) (hl1 : 0 ≤ left ∧ left ≤ INF) :
    ∀ (m fu u : Nat), m < fu → u + m = lastU kind + 1 → 1 ≤ u →
    f_X7_firstUse_11 fu (g, RF p q w v ds) 62 (I k) (I s) (I left) (I ((nums may).getD k 0 : Nat)) (I u) = some (match ((List.range' u m).filter (fun u => cst ((nums may).getD k 0) u)).find? (fun u => decide (DD wt (lastU kind) ((nums may).drop (k + 1)) (s - cn ((nums may).getD k 0) u) + wt ((nums may).getD k 0) u = left)) with | some u => I (u : Nat) | none => 0, (g, RF p q w v ds)) := by
  have hl3 := lastU_le kind
  have hmem : (nums may).getD k 0 ∈ nums may := by
    rw [List.getD_eq_getElem?_getD, List.getElem?_eq_getElem hk]
    exact List.getElem_mem hk
  obtain ⟨hx1, hx2⟩ := nums_b _ hmem
  have hI : INF = 1000000 := rfl
  have ek1 : (k : Int) + 1 = ((k + 1 : Nat) : Int) := by omega
  intro m
  induction m with
  | zero =>
    intro fu u hf hu h1
    obtain ⟨fu, rfl⟩ : ∃ k, fu = k + 1 := ⟨fu - 1, by omega⟩
    have c1 : I (lastU kind : Int) < I (u : Int) := (I_lt (by omega) (by omega)).mpr (by omega)
    simp only [f_X7_firstUse_11, hT.2.1, X_lastUse _ hkind, bd_s, if_pos c1]
    rfl
  | succ m ih =>
    intro fu u hf hu h1
    obtain ⟨fu, rfl⟩ : ∃ k, fu = k + 1 := ⟨fu - 1, by omega⟩
    have c1 : ¬ I (lastU kind : Int) < I (u : Int) := fun z => by have := (I_lt (by omega) (by omega)).mp z; omega
    have eu : (u : Int) + 1 = ((u + 1 : Nat) : Int) := by omega
    have hcn := cn_abs (x := (nums may).getD k 0) h1 (show u ≤ 3 by omega)
    obtain ⟨p1, p2, p3⟩ := hP ((nums may).getD k 0) u hx1 hx2 h1 (by omega)
    have hat := X_at (p := p) (q := q) (w := w) (v := v) (ds := ds) hw hT (show k + 1 ≤ (nums may).length by omega) (AR_use hk ⟨h1, by omega⟩ hA) (by omega)
    have dpos := DD_pos hw (last := lastU kind) ((nums may).drop (k + 1)) (s - cn ((nums may).getD k 0) u)
    have dinf := DD_inf (wt := wt) (last := lastU kind) ((nums may).drop (k + 1)) (s - cn ((nums may).getD k 0) u)
    have e0 : f_X7_firstUse_11 (fu + 1) (g, RF p q w v ds) 62 (I k) (I s) (I left) (I ((nums may).getD k 0 : Nat)) (I u) = if cst ((nums may).getD k 0) u = true then (if DD wt (lastU kind) ((nums may).drop (k + 1)) (s - cn ((nums may).getD k 0) u) + wt ((nums may).getD k 0) u = left then some (I u, (g, RF p q w v ds)) else f_X7_firstUse_11 fu (g, RF p q w v ds) 62 (I k) (I s) (I left) (I ((nums may).getD k 0 : Nat)) (I ((u + 1 : Nat) : Int))) else f_X7_firstUse_11 fu (g, RF p q w v ds) 62 (I k) (I s) (I left) (I ((nums may).getD k 0 : Nat)) (I ((u + 1 : Nat) : Int)) := by
      simp only [f_X7_firstUse_11, hT.2.1, X_lastUse _ hkind, bd_s, if_neg c1, X_canStand _ (show (nums may).getD k 0 ≤ 1000 by omega) h1 (show u ≤ 3 by omega), X_countsAs _ (show (nums may).getD k 0 ≤ 1000 by omega) h1 (show u ≤ 3 by omega), X_weight hP hx1 hx2 h1 (show u ≤ 3 by omega), I_lit, I_add, I_sub, eu, ek1, hat]
      cases cst ((nums may).getD k 0) u with
      | false => rfl
      | true =>
        simp only [eq_self, if_true]
        rw [if_neg (by decide)]
        by_cases he : DD wt (lastU kind) ((nums may).drop (k + 1)) (s - cn ((nums may).getD k 0) u) + wt ((nums may).getD k 0) u = left
        · rw [if_pos he, if_pos (by rw [he])]
        · rw [if_neg he, if_neg (fun z => he ((I_inj (by omega) (by omega)).mp z))]
    rw [e0, List.range'_succ]
    cases hc : cst ((nums may).getD k 0) u with
    | false =>
      rw [if_neg (by decide), List.filter_cons_of_neg (by rw [hc]; decide)]
      exact ih fu (u + 1) (by omega) (by omega) (by omega)
    | true =>
      rw [if_pos rfl, List.filter_cons_of_pos (by rw [hc]), List.find?_cons]
      by_cases he : DD wt (lastU kind) ((nums may).drop (k + 1)) (s - cn ((nums may).getD k 0) u) + wt ((nums may).getD k 0) u = left
      · rw [if_pos he, decide_eq_true he]
      · rw [if_neg he, decide_eq_false he]
        exact ih fu (u + 1) (by omega) (by omega) (by omega)
theorem X_first {g : Nat → Nat → Int32} {may : Int32} {kind k : Nat} {s : Int} (hw : ∀ x u, 0 ≤ wt x u) (hkind : kind ≤ 3) (hP : PrOK g wt) (hT : TBL g wt may kind) (hk : k < (nums may).length) (hA : AR kind (nums may) k s) (hs : -400 ≤ s ∧ s ≤ 400) :
    f_X7_firstUse (g, RF p q w v ds) 62 (I k) (I s) (I (DD wt (lastU kind) ((nums may).drop k) s)) = some (match fu1 wt (lastU kind) ((nums may).getD k 0) ((nums may).drop (k + 1)) s with | some u => I (u : Nat) | none => 0, (g, RF p q w v ds)) := by
  have hl := nums_len may
  have ek : (I (k : Int)).toNatClampNeg = k := by rw [I_cl (by omega) (by omega)]; omega
  have i1 : inr (I (k : Int)) 24 = true := I_inr (by omega) (by omega) (by omega)
  have e0 : f_X7_firstUse (g, RF p q w v ds) 62 (I k) (I s) (I (DD wt (lastU kind) ((nums may).drop k) s)) = f_X7_firstUse_11 FU (g, RF p q w v ds) 62 (I k) (I s) (I (DD wt (lastU kind) ((nums may).drop k) s)) (I ((nums may).getD k 0 : Nat)) (I ((1 : Nat) : Int)) := by
    unfold f_X7_firstUse
    simp only [r_61_0, r_61_1, r_61_2, r_61_3, r_61_4, r_61_5, r_61_6, r_61_7, r_62_4, r_62_5, r_62_6, r_62_7, r_62_8, k_61, n_61, k_62, n_62, k_63, n_63, k_64, n_64, k_65, n_65, k_66, n_66, k_67, n_67, k_68, n_68, k_69, n_69, k_70, n_70, k_71, n_71, k_72, n_72, k_73, n_73, k_74, n_74, gd, lt, bd_s, if_true, if_false, reduceIte, si_uc, uc_s, uc_n, upd_s, upd_n, Nat.reduceEqDiff, ne_eq, not_false_eq_true, not_true_eq_false, i1, ek, hT.2.2.1.2 k hk]
    rfl
  rw [e0, X_first_lp hw hkind hP hT hk hA hs _ ⟨DD_pos hw _ _, DD_inf _ _⟩ (lastU kind) FU 1 (FU_lt (by have := lastU_le kind; omega)) (by omega) (by omega)]
  unfold fu1
  rw [uses_range (lastU_le kind).1 (lastU_le kind).2, drop_cons hk]
theorem b1_eq {x : Nat} (h : 1 ≤ x) : (1 : Int32) <<< (((I (x : Int)) - 1) &&& 31) = b1 (x - 1) := by
  unfold b1
  rw [show (I (x : Int)) - 1 = I ((x - 1 : Nat) : Int) by rw [I_lit, I_sub]; congr 1; omega]
theorem X_add {g : Nat → Nat → Int32} (hP : PrOK g wt) {x u : Nat} (hx : 1 ≤ x) (hx2 : x ≤ 24) (h1 : 1 ≤ u) (h3 : u ≤ 3) {pr : Int} (hp : g 62 3 = I pr) :
    ∃ g', f_X7_add (g, RF p q w v ds) 62 (I x) (I u) = some ((), (g', RF p q w v ds)) ∧ Sb [62] g g' ∧ g' 62 0 = g 62 0 ||| (if u = 1 then b1 (x - 1) else 0) ∧ g' 62 1 = g 62 1 ||| (if u = 2 then b1 (x - 1) else 0) ∧ g' 62 2 = g 62 2 ||| (if u = 3 then b1 (x - 1) else 0) ∧ g' 62 3 = I (pr + (wt x u - 1000)) ∧ ∀ j, 4 ≤ j → g' 62 j = g 62 j := by
  obtain ⟨p1, p2, p3⟩ := hP x u hx hx2 h1 h3
  have key : ∀ (t0 t1 t2 : Int32) (hh : f_X7_add (g, RF p q w v ds) 62 (I x) (I u) = bd (f_X7_weight (uc g 62 (upd (upd (upd (g 62) 0 t0) 1 t1) 2 t2), RF p q w v ds) 62 (I x) (I u)) (fun r3 h4 => lt (si h4 62 3 (g 62 3 + (r3 - 1000))) fun h6 => some ((), h6))), ∃ g', f_X7_add (g, RF p q w v ds) 62 (I x) (I u) = some ((), (g', RF p q w v ds)) ∧ Sb [62] g g' ∧ g' 62 0 = t0 ∧ g' 62 1 = t1 ∧ g' 62 2 = t2 ∧ g' 62 3 = I (pr + (wt x u - 1000)) ∧ ∀ j, 4 ≤ j → g' 62 j = g 62 j := by
    intro t0 t1 t2 hh
    rw [hh, X_weight (fun x u a b c d => by rw [uc_n (by decide)]; exact hP x u a b c d) hx hx2 h1 h3, bd_s, hp]
    simp only [lt, si_uc, uc_s, uc_uc, I_lit, I_sub, I_add]
    refine ⟨_, rfl, Sb.rf.uc (by decide), ?_, ?_, ?_, ?_, fun j hj => ?_⟩
    · rw [uc_s, upd_n (by decide), upd_n (by decide), upd_n (by decide), upd_s]
    · rw [uc_s, upd_n (by decide), upd_n (by decide), upd_s]
    · rw [uc_s, upd_n (by decide), upd_s]
    · rw [uc_s, upd_s]
    · rw [uc_s, upd_n (by omega), upd_n (by omega), upd_n (by omega), upd_n (by omega)]
  have e : u = 1 ∨ u = 2 ∨ u = 3 := by omega
  have z : ∀ k : Nat, k < 4 → ∀ j : Nat, j < 4 → (I (k : Int) = I (j : Int) ↔ k = j) := by decide
  rcases e with rfl | rfl | rfl
  · apply key
    have a1 : (I ((1 : Nat) : Int) = (1 : Int32)) = True := eq_true (by decide)
    have a2 : (I ((1 : Nat) : Int) = (2 : Int32)) = False := eq_false (by decide)
    have a3 : (I ((1 : Nat) : Int) = (3 : Int32)) = False := eq_false (by decide)
    simp only [f_X7_add, f_X7_add_21, f_X7_add_40, f_X7_add_59, k_62, b1_eq hx, a1, a2, a3, si_uc, uc_s, uc_uc, gd, lt, bd_s, if_true, if_false, reduceIte, si_uc, uc_s, uc_n, upd_s, upd_n, Nat.reduceEqDiff, ne_eq, not_false_eq_true, not_true_eq_false]
  · apply key
    have a1 : (I ((2 : Nat) : Int) = (1 : Int32)) = False := eq_false (by decide)
    have a2 : (I ((2 : Nat) : Int) = (2 : Int32)) = True := eq_true (by decide)
    have a3 : (I ((2 : Nat) : Int) = (3 : Int32)) = False := eq_false (by decide)
    simp only [f_X7_add, f_X7_add_21, f_X7_add_40, f_X7_add_59, k_62, b1_eq hx, a1, a2, a3, si_uc, uc_s, uc_uc, gd, lt, bd_s, if_true, if_false, reduceIte, si_uc, uc_s, uc_n, upd_s, upd_n, Nat.reduceEqDiff, ne_eq, not_false_eq_true, not_true_eq_false]
  · apply key
    have a1 : (I ((3 : Nat) : Int) = (1 : Int32)) = False := eq_false (by decide)
    have a2 : (I ((3 : Nat) : Int) = (2 : Int32)) = False := eq_false (by decide)
    have a3 : (I ((3 : Nat) : Int) = (3 : Int32)) = True := eq_true (by decide)
    simp only [f_X7_add, f_X7_add_21, f_X7_add_40, f_X7_add_59, k_62, b1_eq hx, a1, a2, a3, si_uc, uc_s, uc_uc, gd, lt, bd_s, if_true, if_false, reduceIte, si_uc, uc_s, uc_n, upd_s, upd_n, Nat.reduceEqDiff, ne_eq, not_false_eq_true, not_true_eq_false]
end T
