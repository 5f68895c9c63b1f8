/-! the reference: bestOf -/
def RES (wt : Nat → Nat → Int) (L : List (Nat × Nat)) : Int32 := if L = [] then -4 else I (wsum wt L)
theorem PK_ne {wt : Nat → Nat → Int} {last : Nat} : ∀ (xs : List Nat) (r : Int), DD wt last xs r < INF → PK wt last xs r = [] → r = 0 := by
  intro xs
  induction xs with
  | nil =>
    intro r h _
    have h : (if r = 0 then (0 : Int) else INF) < INF := h
    by_cases e : r = 0
    · exact e
    · rw [if_neg e] at h; omega
  | cons x xs ih =>
    intro r h hp
    rw [PK] at hp
    cases hf : fu1 wt last x xs r with
    | none =>
      rw [hf] at hp
      exact ih r (by rw [DD_none hf]; exact h) hp
    | some u => rw [hf] at hp; cases hp
theorem nums_F {may : Int32} {n : Nat} (hn : n ≤ 24) (hm : ∀ i, n ≤ i → i < 32 → bt may i = false) : nums may = numsF may 1 n := by
  unfold nums numsF
  rw [show (24 : Nat) = n + (24 - n) by omega, ← List.range'_append_1, List.filter_append]
  have : (List.range' (1 + n) (24 - n)).filter (fun x => bt may (x - 1)) = [] := by
    rw [List.filter_eq_nil_iff]
    intro x hx
    have hx := List.mem_range'_1.mp hx
    rw [hm (x - 1) (by omega) (by omega)]
    decide
  rw [this, List.append_nil]
theorem BS_0 {wt : Nat → Nat → Int} {may : Int32} {a : Nat} (hw : WB wt) (h1 : 1 ≤ a) (h2 : a ≤ 99) : BS wt 0 may a = if a ≤ 24 ∧ bt may (a - 1) = true then [(a, 1)] else [] := by
  have hI : INF = 1000000 := rfl
  have hb : ∀ x, 1 ≤ x → x ≤ 24 → bt (bm 0 may a) (x - 1) = (bt may (x - 1) && decide (x = a)) := by
    intro x h1' h2'
    rw [bm_bt, if_pos rfl]
    unfold one
    split
    · rw [bt_b1 (by omega) (by omega)]
      congr 1
      exact decide_eq_decide.mpr ⟨fun z => by omega, fun z => by omega⟩
    · rw [bt_0]
      congr 1
      symm
      exact decide_eq_false (by omega)
  have hnil : ¬ (a ≤ 24 ∧ bt may (a - 1) = true) → nums (bm 0 may a) = [] := by
    intro hc
    unfold nums
    rw [List.filter_eq_nil_iff]
    intro x hx
    have hx := List.mem_range'_1.mp hx
    rw [hb x hx.1 (by omega)]
    intro z
    rw [Bool.and_eq_true, decide_eq_true_eq] at z
    exact hc ⟨by omega, by rw [← z.2]; exact z.1⟩
  unfold BS
  by_cases hc : a ≤ 24 ∧ bt may (a - 1) = true
  · rw [if_pos hc]
    have hl : nums (bm 0 may a) = [a] := by
      unfold nums
      rw [show (24 : Nat) = (a - 1) + (1 + (24 - a)) by omega, ← List.range'_append_1, ← List.range'_append_1, List.filter_append, List.filter_append]
      have e1 : (List.range' 1 (a - 1)).filter (fun x => bt (bm 0 may a) (x - 1)) = [] := by
        rw [List.filter_eq_nil_iff]
        intro x hx
        have hx := List.mem_range'_1.mp hx
        rw [hb x hx.1 (by omega), Bool.and_eq_true, decide_eq_true_eq]
        omega
      have e2 : (List.range' (1 + (a - 1) + 1) (24 - a)).filter (fun x => bt (bm 0 may a) (x - 1)) = [] := by
        rw [List.filter_eq_nil_iff]
        intro x hx
        have hx := List.mem_range'_1.mp hx
        rw [hb x (by omega) (by omega), Bool.and_eq_true, decide_eq_true_eq]
        omega
      have e3 : List.range' (1 + (a - 1)) 1 = [a] := by rw [show 1 + (a - 1) = a by omega]; rfl
      have e4 : bt (bm 0 may a) (a - 1) = true := by rw [hb a h1 hc.1, hc.2]; simp
      have e5 : [a].filter (fun x => bt (bm 0 may a) (x - 1)) = [a] := by rw [List.filter_cons_of_pos (p := fun x => bt (bm 0 may a) (x - 1)) e4]; rfl
      rw [e1, e2, e3, e5]
      rfl
    have hwb := hw.2 a 1 h1 hc.1 (by decide) (by decide)
    have hu : uses (lastU 0) a = [1] := by
      unfold uses
      rfl
    have hd0 : DD wt (lastU 0) [] ((a : Int) - cn a 1) = 0 := by
      show (if (a : Int) - cn a 1 = 0 then (0 : Int) else INF) = 0
      rw [if_pos]
      show (a : Int) - (a : Int) = 0
      omega
    have hda : DD wt (lastU 0) [] (a : Int) = INF := by
      show (if (a : Int) = 0 then (0 : Int) else INF) = INF
      rw [if_neg (by omega)]
    have hd : DD wt (lastU 0) [a] a = wt a 1 := by
      rw [DD_cons, hu, hda]
      show min INF (DD wt (lastU 0) [] ((a : Int) - cn a 1) + wt a 1) = _
      rw [hd0]
      omega
    have hf : fu1 wt (lastU 0) a [] a = some 1 := by
      unfold fu1
      rw [hu, List.find?_cons_of_pos]
      rw [decide_eq_true_eq, hd0, hd]
      omega
    rw [hl]
    unfold PKo
    rw [if_pos (by rw [hd]; omega), PK, hf]
    rfl
  · rw [if_neg hc, hnil hc]
    unfold PKo
    have hda : DD wt (lastU 0) [] (a : Int) = INF := by
      show (if (a : Int) = 0 then (0 : Int) else INF) = INF
      rw [if_neg (by omega)]
    rw [if_neg (by rw [hda]; omega)]
def OUT (g g' : Nat → Nat → Int32) (L : List (Nat × Nat)) : Prop := g' 83 16 = su 1 L ∧ g' 83 17 = su 2 L ∧ g' 83 18 = su 3 L ∧ (∀ j, j < 16 ∨ 18 < j → g' 83 j = g 83 j) ∧ Sb [83, 92] g g'
section T
variable {p q w v : Nat} {ds : Nat → Nat} {wt : Nat → Nat → Int}
theorem z_or (x : Int32) : 0 ||| x = x := by apply bt_ext; intro i hi; rw [bt_or, bt_0, Bool.false_or]
theorem M_best {g : Nat → Nat → Int32} (may : Int32) {kind a n : Nat} (hk3 : kind ≤ 3) (hw : WB wt) (hn : n ≤ 24) (hP : MPr g wt) (h0 : g 84 0 = I n) (hm : ∀ i, n ≤ i → i < 32 → bt may i = false) (ha : 1 ≤ a ∧ a ≤ 99) :
    ∃ g', f_X12_bestOf (g, RF p q w v ds) 83 may (I a) (I kind) = some (RES wt (BS wt kind may a), (g', RF p q w v ds)) ∧ OUT g g' (BS wt kind may a) := by
  have hI : INF = 1000000 := rfl
  have i0 : inr (0 : Int32) 59 = true := by decide
  have c0 : (0 : Int32).toNatClampNeg = 0 := by decide
  obtain ⟨g5, hg5⟩ : ∃ g5, g5 = uc g 83 (upd (upd (upd (g 83) 16 0) 17 0) 18 0) := ⟨_, rfl⟩
  have z5 : g5 83 16 = 0 ∧ g5 83 17 = 0 ∧ g5 83 18 = 0 := by rw [hg5]; exact ⟨rfl, rfl, rfl⟩
  have n5 : ∀ j, j < 16 ∨ 18 < j → g5 83 j = g 83 j := fun j hj => by rw [hg5, uc_s, upd_n (by omega), upd_n (by omega), upd_n (by omega)]
  have s5 : Sb [83] g g5 := by rw [hg5]; exact Sb.rf.uc (by decide)
  have hP5 : MPr g5 wt := fun y b1 b2 => by rw [s5 84 (by decide)]; exact hP y b1 b2
  have h05 : g5 84 0 = I n := by rw [s5 84 (by decide)]; exact h0
  have e0 : f_X12_bestOf (g, RF p q w v ds) 83 may (I a) (I kind) = if I (kind : Int) = 0 then (if I (n : Int) < I (a : Int) then f_X12_bestOf_43 (g5, RF p q w v ds) 83 (I a) else bd (f_X12_has (g5, RF p q w v ds) may (I (a : Int) - 1)) fun r15 h16 => if r15 = 0 then f_X12_bestOf_43 h16 83 (I a) else f_X12_bestOf_44 h16 83 (I a) 1) else bd (f_X12_layTable (g5, RF p q w v ds) 83 may (I kind)) fun _ h8 => bd (f_X12_laid h8 83 1 (I a)) fun r10 h11 => if r10 < 1000000 then f_X12_bestOf_121 FU h11 83 may (I kind) r10 (I a) r10 1 else some (-4, h11) := by
    unfold f_X12_bestOf
    simp only [k_83, lt, si_uc, uc_s, uc_uc, gd, if_true, reduceIte, r_83_1, k_84, n_84, i0, c0]
    rw [← hg5, h05]
  rw [e0]
  by_cases hk : kind = 0
  · subst hk
    rw [if_pos (show I ((0 : Nat) : Int) = 0 from rfl), BS_0 hw ha.1 ha.2]
    have no : ¬ (a ≤ 24 ∧ bt may (a - 1) = true) → ∃ g', f_X12_bestOf_43 (g5, RF p q w v ds) 83 (I a) = some (RES wt (if a ≤ 24 ∧ bt may (a - 1) = true then [(a, 1)] else []), (g', RF p q w v ds)) ∧ OUT g g' (if a ≤ 24 ∧ bt may (a - 1) = true then [(a, 1)] else []) := by
      intro hc
      rw [if_neg hc]
      unfold f_X12_bestOf_43 f_X12_bestOf_44 f_X12_bestOf_61
      simp only [lt, si_uc, if_true, reduceIte]
      refine ⟨_, rfl, ?_, ?_, ?_, ?_, ?_⟩
      · rw [uc_s, upd_s]; rfl
      · rw [uc_s, upd_n (by decide)]; exact z5.2.1
      · rw [uc_s, upd_n (by decide)]; exact z5.2.2
      · intro j hj; rw [uc_s, upd_n (by omega)]; exact n5 j hj
      · exact (s5.mono (by decide)).uc (by decide)
    by_cases hna : n < a
    · rw [if_pos ((I_lt (by omega) (by omega)).mpr (by omega))]
      exact no (fun z => by have := hm (a - 1) (by omega) (by omega); rw [this] at z; exact absurd z.2 (by decide))
    · rw [if_neg (fun z => hna (by have := (I_lt (by omega) (by omega)).mp z; omega))]
      have e1 : I (a : Int) - 1 = I ((a - 1 : Nat) : Int) := by show I (a : Int) - I 1 = _; rw [I_sub]; congr 1; omega
      rw [e1, M_has _ _ (by omega)]
      simp only [bd_s]
      cases hb : bt may (a - 1) with
      | false =>
        simp only [Bool.false_eq_true, if_false, if_true, reduceIte, and_false]
        have := no (fun z => by rw [hb] at z; exact absurd z.2 (by decide))
        rw [hb] at this
        simpa using this
      | true =>
        simp only [if_true]
        rw [if_neg (by decide)]
        have hc : a ≤ 24 ∧ True := ⟨by omega, trivial⟩
        rw [if_pos hc]
        obtain ⟨q1, q2, q3⟩ := hP5 a ha.1 hc.1
        have es : (4 : Int32) + I (a : Int) = I ((4 + a : Nat) : Int) := by show I 4 + I (a : Int) = _; rw [I_add]; congr 1
        have i4 : inr (I ((4 + a : Nat) : Int)) 59 = true := I_inr (by omega) (by omega) (by omega)
        have c4 : (I ((4 + a : Nat) : Int)).toNatClampNeg = 4 + a := by rw [I_cl (by omega) (by omega)]; omega
        unfold f_X12_bestOf_44 f_X12_bestOf_61
        rw [if_neg (by decide)]
        have z10 : ((1 : Int32) = 0) = False := eq_false (by decide)
        simp only [z10, if_false, lt, si_uc, r_83_1, k_84, n_84, gd, if_true, reduceIte, es, i4, c4, uc_n (show 84 ≠ 83 by decide), q1]
        refine ⟨uc g5 83 (upd (g5 83) 16 (1 <<< (I (a : Int) - 1 &&& 31))), ?_, ?_, ?_, ?_, ?_, ?_⟩
        rotate_left
        · rw [uc_s, upd_s, b1_eq ha.1]
          show _ = (if 1 = 1 then b1 (a - 1) else 0) ||| 0
          rw [if_pos rfl, or_z]
        · rw [uc_s, upd_n (by decide), z5.2.1]
          show _ = (if 1 = 2 then b1 (a - 1) else 0) ||| 0
          rw [if_neg (by decide)]; rfl
        · rw [uc_s, upd_n (by decide), z5.2.2]
          show _ = (if 1 = 3 then b1 (a - 1) else 0) ||| 0
          rw [if_neg (by decide)]; rfl
        · intro j hj; rw [uc_s, upd_n (by omega)]; exact n5 j hj
        · exact (s5.mono (by decide)).uc (by decide)
        · show some ((1000 : Int32) + I (wt a 1 - 1000), _) = _
          unfold RES
          rw [if_neg (by simp)]
          show some (I 1000 + I (wt a 1 - 1000), _) = some (I (wt a 1 + 0), _)
          rw [I_add]
          congr 3
          omega
  · have hk1 : 1 ≤ kind := by omega
    have ebs : BS wt kind may a = PKo wt (lastU kind) (numsF may 1 n) a := by
      unfold BS bm
      rw [if_neg hk, nums_F hn hm]
    rw [if_neg (fun z => hk (by have := (I_inj (b := 0) (by omega) (by omega)).mp z; omega)), ebs]
    obtain ⟨g8, a1, a2, a3⟩ := M_lay (p := p) (q := q) (w := w) (v := v) (ds := ds) (may := may) hk1 hk3 hw hn hP5 h05
    have s8 : Sb [83, 92] g g8 := Sb.tr (s5.mono (by decide)) (a2.mono (by decide))
    have hP8 : MPr g8 wt := fun y b1 b2 => by rw [a2 84 (by decide)]; exact hP5 y b1 b2
    have h08 : g8 84 0 = I n := by rw [a2 84 (by decide)]; exact h05
    rw [a1]
    simp only [bd_s]
    show ∃ g', (bd (f_X12_laid (g8, RF p q w v ds) 83 (I ((1 : Nat) : Int)) (I (a : Int))) _) = _ ∧ _
    rw [M_laid (by decide) (by decide) (by omega), if_pos (by omega), a3 1 (by decide) (by decide) (by omega) a (by omega) (by omega)]
    simp only [bd_s]
    rw [show n + 1 - 1 = n by omega]
    have d0 := DD_pos (last := lastU kind) hw.1 (numsF may 1 n) a
    have d1 := DD_inf (wt := wt) (last := lastU kind) (numsF may 1 n) a
    unfold PKo
    by_cases hlt : DD wt (lastU kind) (numsF may 1 n) a < INF
    · rw [if_pos hlt, if_pos (show I (DD wt (lastU kind) (numsF may 1 n) a) < (1000000 : Int32) from (I_lt (b := 1000000) (by omega) (by omega)).mpr hlt)]
      obtain ⟨g', b1', b2, b3, b4, b5, b6⟩ := M_pick (p := p) (q := q) (w := w) (v := v) (ds := ds) (may := may) (bb := I (DD wt (lastU kind) (numsF may 1 n) a)) hk1 hk3 hw hn n FU 1 a g8 (FU_lt (by omega)) (by omega) (by decide) hP8 h08 a3 hlt
      refine ⟨g', ?_, ?_, ?_, ?_, ?_, ?_⟩
      · have hne : ¬ PK wt (lastU kind) (numsF may 1 n) a = [] := fun z => by have := PK_ne _ _ hlt z; omega
        unfold RES
        rw [if_neg hne, ← PK_sum hw.1 _ _ hlt]
        exact b1'
      · rw [b3, a2 83 (by decide), z5.1, z_or]
      · rw [b4, a2 83 (by decide), z5.2.1, z_or]
      · rw [b5, a2 83 (by decide), z5.2.2, z_or]
      · intro j hj; rw [b6 j hj, a2 83 (by decide)]; exact n5 j hj
      · exact Sb.tr s8 (b2.mono (by decide))
    · rw [if_neg hlt, if_neg (show ¬ I (DD wt (lastU kind) (numsF may 1 n) a) < (1000000 : Int32) from fun z => hlt ((I_lt (b := 1000000) (by omega) (by omega)).mp z))]
      refine ⟨g8, rfl, ?_, ?_, ?_, ?_, s8⟩
      · rw [a2 83 (by decide), z5.1]; rfl
      · rw [a2 83 (by decide), z5.2.1]; rfl
      · rw [a2 83 (by decide), z5.2.2]; rfl
      · intro j hj; rw [a2 83 (by decide)]; exact n5 j hj
end T
