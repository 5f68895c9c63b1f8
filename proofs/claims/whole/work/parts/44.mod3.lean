/-! the reference: its best saying -/
theorem fu1_BY {wt : Nat → Nat → Int} (hw : WB wt) {last x : Nat} {xs : List Nat} {s : Int} (h1 : 1 ≤ x) (h2 : x ≤ 24) (hlt : DD wt last (x :: xs) s < INF) : fu1 wt last x xs s = [1, 2, 3].find? (fun u => decide (BY wt last x xs s u = DD wt last (x :: xs) s)) := by
  unfold fu1 uses
  rw [List.find?_filter]
  have key : ∀ u, u ∈ [1, 2, 3] → ((decide (u ≤ last) && cst x u) && decide (DD wt last xs (s - cn x u) + wt x u = DD wt last (x :: xs) s)) = decide (BY wt last x xs s u = DD wt last (x :: xs) s) := by
    intro u hu
    have hu3 : u = 1 ∨ u = 2 ∨ u = 3 := by simpa using hu
    have hwb := hw.2 x u h1 h2 (by omega) (by omega)
    have hm : u ∈ uses last x ↔ (decide (u ≤ last) && cst x u) = true := by unfold uses; rw [List.mem_filter]; exact ⟨fun z => z.2, fun z => ⟨hu, z⟩⟩
    have d1 := DD_inf (wt := wt) (last := last) xs (s - cn x u)
    unfold BY
    cases c : (decide (u ≤ last) && cst x u) with
    | true =>
      rw [if_pos (hm.mpr c), Bool.true_and]
      apply decide_eq_decide.mpr
      split
      · exact Iff.rfl
      · exact ⟨fun z => by omega, fun z => by omega⟩
    | false =>
      rw [if_neg (fun z => by rw [hm, c] at z; cases z), Bool.false_and]
      symm
      exact decide_eq_false (by omega)
  have e1 := key 1 (by decide)
  have e2 := key 2 (by decide)
  have e3 := key 3 (by decide)
  simp only [List.find?_cons, List.find?_nil, Bool.decide_and, Bool.decide_eq_true, e1, e2, e3]
section T
variable {p q w v : Nat} {ds : Nat → Nat} {wt : Nat → Nat → Int}
def setU (g : Nat → Nat → Int32) (x u : Nat) : Nat → Nat → Int32 := uc g 83 (upd (upd (upd (g 83) 16 (g 83 16 ||| if u = 1 then b1 (x - 1) else 0)) 17 (g 83 17 ||| if u = 2 then b1 (x - 1) else 0)) 18 (g 83 18 ||| if u = 3 then b1 (x - 1) else 0))
theorem M_set {g : Nat → Nat → Int32} (k121 : Hp → Nat → Int32 → Int32 → Int32 → Int32 → Int32 → Int32 → Option (Int32 × Hp)) {may kk bb : Int32} {x u : Nat} {s l : Int} (hP : MPr g wt) (h1 : 1 ≤ x) (h2 : x ≤ 24) (h3 : 1 ≤ u) (h4 : u ≤ 4) :
    f_X12_bestOf_174 k121 (g, RF p q w v ds) 83 may kk bb (I s) (I l) (I x) (I u) = k121 (setU g x u, RF p q w v ds) 83 may kk bb (I (if u ≤ 3 then s - cn x u else s)) (I (if u ≤ 3 then l - wt x u else l)) (I ((x + 1 : Nat) : Int)) := by
  have e2 : I (x : Int) + 1 = I ((x + 1 : Nat) : Int) := by show I (x : Int) + I 1 = _; rw [I_add]; congr 1
  have hP1 : MPr (setU g x u) wt := fun y a b => by unfold setU; rw [uc_n (by decide)]; exact hP y a b
  have eb := b1_eq h1
  have hu : u = 1 ∨ u = 2 ∨ u = 3 ∨ u = 4 := by omega
  rcases hu with rfl | rfl | rfl | rfl
  · have a1 : I (((1 : Nat)) : Int) = (1 : Int32) := by decide
    have a2 : ¬ I (((1 : Nat)) : Int) = (2 : Int32) := by decide
    have a3 : ¬ I (((1 : Nat)) : Int) = (3 : Int32) := by decide
    have a4 : ¬ (3 : Int32) < I (((1 : Nat)) : Int) := by decide
    unfold f_X12_bestOf_174
    rw [if_pos a1, eb]
    unfold f_X12_bestOf_195
    simp only [lt, si_uc]
    rw [if_neg a2]
    unfold f_X12_bestOf_220
    simp only [lt, si_uc, uc_s, uc_uc]
    rw [if_neg a3]
    unfold f_X12_bestOf_245
    simp only [lt, si_uc, uc_s, uc_uc]
    rw [if_neg a4]
    have e : (uc g 83 (upd (upd (upd (g 83) 16 (g 83 16 ||| b1 (x - 1))) 17 (g 83 17 ||| 0)) 18 (g 83 18 ||| 0))) = setU g x 1 := rfl
    simp only [upd_n (show 17 ≠ 16 by decide), upd_n (show 18 ≠ 16 by decide), upd_n (show 18 ≠ 17 by decide), e]
    rw [M_price hP1 h1 h2 (by decide) (by decide)]
    simp only [bd_s]
    unfold f_X12_bestOf_273
    rw [if_neg a4, M_counts _ (by omega) (by decide) (by decide)]
    simp only [bd_s]
    rw [e2]
    show k121 _ 83 may kk bb (I s - I (cn x 1)) (I l - (I 1000 + I (wt x 1 - 1000))) _ = _
    rw [I_sub, I_add, I_sub, if_pos (by decide), if_pos (by decide), show (1000 : Int) + (wt x 1 - 1000) = wt x 1 by omega]
  · have a1 : ¬ I (((2 : Nat)) : Int) = (1 : Int32) := by decide
    have a2 : I (((2 : Nat)) : Int) = (2 : Int32) := by decide
    have a3 : ¬ I (((2 : Nat)) : Int) = (3 : Int32) := by decide
    have a4 : ¬ (3 : Int32) < I (((2 : Nat)) : Int) := by decide
    unfold f_X12_bestOf_174
    rw [if_neg a1]
    unfold f_X12_bestOf_195
    simp only [lt, si_uc]
    rw [if_pos a2, eb]
    unfold f_X12_bestOf_220
    simp only [lt, si_uc, uc_s, uc_uc]
    rw [if_neg a3]
    unfold f_X12_bestOf_245
    simp only [lt, si_uc, uc_s, uc_uc]
    rw [if_neg a4]
    have e : (uc g 83 (upd (upd (upd (g 83) 16 (g 83 16 ||| 0)) 17 (g 83 17 ||| b1 (x - 1))) 18 (g 83 18 ||| 0))) = setU g x 2 := rfl
    simp only [upd_n (show 17 ≠ 16 by decide), upd_n (show 18 ≠ 16 by decide), upd_n (show 18 ≠ 17 by decide), e]
    rw [M_price hP1 h1 h2 (by decide) (by decide)]
    simp only [bd_s]
    unfold f_X12_bestOf_273
    rw [if_neg a4, M_counts _ (by omega) (by decide) (by decide)]
    simp only [bd_s]
    rw [e2]
    show k121 _ 83 may kk bb (I s - I (cn x 2)) (I l - (I 1000 + I (wt x 2 - 1000))) _ = _
    rw [I_sub, I_add, I_sub, if_pos (by decide), if_pos (by decide), show (1000 : Int) + (wt x 2 - 1000) = wt x 2 by omega]
  · have a1 : ¬ I (((3 : Nat)) : Int) = (1 : Int32) := by decide
    have a2 : ¬ I (((3 : Nat)) : Int) = (2 : Int32) := by decide
    have a3 : I (((3 : Nat)) : Int) = (3 : Int32) := by decide
    have a4 : ¬ (3 : Int32) < I (((3 : Nat)) : Int) := by decide
    unfold f_X12_bestOf_174
    rw [if_neg a1]
    unfold f_X12_bestOf_195
    simp only [lt, si_uc]
    rw [if_neg a2]
    unfold f_X12_bestOf_220
    simp only [lt, si_uc, uc_s, uc_uc]
    rw [if_pos a3, eb]
    unfold f_X12_bestOf_245
    simp only [lt, si_uc, uc_s, uc_uc]
    rw [if_neg a4]
    have e : (uc g 83 (upd (upd (upd (g 83) 16 (g 83 16 ||| 0)) 17 (g 83 17 ||| 0)) 18 (g 83 18 ||| b1 (x - 1)))) = setU g x 3 := rfl
    simp only [upd_n (show 17 ≠ 16 by decide), upd_n (show 18 ≠ 16 by decide), upd_n (show 18 ≠ 17 by decide), e]
    rw [M_price hP1 h1 h2 (by decide) (by decide)]
    simp only [bd_s]
    unfold f_X12_bestOf_273
    rw [if_neg a4, M_counts _ (by omega) (by decide) (by decide)]
    simp only [bd_s]
    rw [e2]
    show k121 _ 83 may kk bb (I s - I (cn x 3)) (I l - (I 1000 + I (wt x 3 - 1000))) _ = _
    rw [I_sub, I_add, I_sub, if_pos (by decide), if_pos (by decide), show (1000 : Int) + (wt x 3 - 1000) = wt x 3 by omega]
  · have a1 : ¬ I (((4 : Nat)) : Int) = (1 : Int32) := by decide
    have a2 : ¬ I (((4 : Nat)) : Int) = (2 : Int32) := by decide
    have a3 : ¬ I (((4 : Nat)) : Int) = (3 : Int32) := by decide
    have a4 : (3 : Int32) < I (((4 : Nat)) : Int) := by decide
    unfold f_X12_bestOf_174
    rw [if_neg a1]
    unfold f_X12_bestOf_195
    simp only [lt, si_uc]
    rw [if_neg a2]
    unfold f_X12_bestOf_220
    simp only [lt, si_uc, uc_s, uc_uc]
    rw [if_neg a3]
    unfold f_X12_bestOf_245
    simp only [lt, si_uc, uc_s, uc_uc]
    rw [if_pos a4]
    have e : (uc g 83 (upd (upd (upd (g 83) 16 (g 83 16 ||| 0)) 17 (g 83 17 ||| 0)) 18 (g 83 18 ||| 0))) = setU g x 4 := rfl
    simp only [upd_n (show 17 ≠ 16 by decide), upd_n (show 18 ≠ 16 by decide), upd_n (show 18 ≠ 17 by decide), e]
    unfold f_X12_bestOf_273
    rw [if_pos a4, e2]
    show k121 _ 83 may kk bb (I s - I 0) (I l - I 0) _ = _
    rw [I_sub, I_sub, if_neg (by decide), if_neg (by decide), Int.sub_zero, Int.sub_zero]
theorem M_srch {g : Nat → Nat → Int32} (k121 : Hp → Nat → Int32 → Int32 → Int32 → Int32 → Int32 → Int32 → Option (Int32 × Hp)) {may bb : Int32} {x kind : Nat} {s : Int} {xs : List Nat} (hk : 1 ≤ kind) (hk3 : kind ≤ 3) (hw : WB wt) (hP : MPr g wt) (h1 : 1 ≤ x) (h2 : x ≤ 24) (hs : -300 ≤ s ∧ s ≤ 300) (hR : RwM g (x + 1) (DD wt (lastU kind) xs)) (hn : nsum xs ≤ 300) (hlt : DD wt (lastU kind) (if bt may (x - 1) then x :: xs else xs) s < INF) :
    f_X12_bestOf_135 k121 FU (g, RF p q w v ds) 83 may (I kind) bb (I s) (I (DD wt (lastU kind) (if bt may (x - 1) then x :: xs else xs) s)) (I x) 1 = f_X12_bestOf_174 k121 (g, RF p q w v ds) 83 may (I kind) bb (I s) (I (DD wt (lastU kind) (if bt may (x - 1) then x :: xs else xs) s)) (I x) (I (((if bt may (x - 1) then (fu1 wt (lastU kind) x xs s).getD 4 else 4 : Nat)) : Int)) := by
  have hI : INF = 1000000 := rfl
  have e1 : I (x : Int) - 1 = I ((x - 1 : Nat) : Int) := by show I (x : Int) - I 1 = _; rw [I_sub]; congr 1; omega
  obtain ⟨fu, hFU⟩ : ∃ fu, FU = fu + 4 := ⟨99996, rfl⟩
  rw [hFU]
  cases hb : bt may (x - 1) with
  | false =>
    have nx : ∀ (fu u : Nat) (l : Int32), u ≤ 3 → f_X12_bestOf_135 k121 (fu + 1) (g, RF p q w v ds) 83 may (I kind) bb (I s) l (I x) (I u) = f_X12_bestOf_135 k121 fu (g, RF p q w v ds) 83 may (I kind) bb (I s) l (I x) (I ((u + 1 : Nat) : Int)) := by
      intro fu u l hu
      have c1 : ¬ (3 : Int32) < I (u : Int) := fun z => by have := (I_lt (a := 3) (by omega) (by omega)).mp z; omega
      have e2 : I (u : Int) + 1 = I ((u + 1 : Nat) : Int) := by show I (u : Int) + I 1 = _; rw [I_add]; congr 1
      simp only [f_X12_bestOf_135, if_neg c1, e1, e2, M_has _ _ (show x - 1 < 32 by omega), hb, bd_s, Bool.false_eq_true, if_false, reduceIte]
    have n1 := nx (fu + 3) 1
    have n2 := nx (fu + 2) 2
    have n3 := nx (fu + 1) 3
    refine (n1 _ (by decide)).trans ((n2 _ (by decide)).trans ((n3 _ (by decide)).trans ?_))
    have c4 : (3 : Int32) < I (((3 + 1 : Nat)) : Int) := by decide
    simp only [f_X12_bestOf_135, if_pos c4, Bool.false_eq_true, if_false, reduceIte]
  | true =>
    rw [hb] at hlt
    simp only [if_true] at hlt ⊢
    have d0 := DD_pos (last := lastU kind) hw.1 (x :: xs) s
    rw [fu1_BY hw h1 h2 hlt]
    have nx : ∀ (fu u : Nat), 1 ≤ u → u ≤ 3 → f_X12_bestOf_135 k121 (fu + 1) (g, RF p q w v ds) 83 may (I kind) bb (I s) (I (DD wt (lastU kind) (x :: xs) s)) (I x) (I u) = if BY wt (lastU kind) x xs s u = DD wt (lastU kind) (x :: xs) s then f_X12_bestOf_174 k121 (g, RF p q w v ds) 83 may (I kind) bb (I s) (I (DD wt (lastU kind) (x :: xs) s)) (I x) (I u) else f_X12_bestOf_135 k121 fu (g, RF p q w v ds) 83 may (I kind) bb (I s) (I (DD wt (lastU kind) (x :: xs) s)) (I x) (I ((u + 1 : Nat) : Int)) := by
      intro fu u h3 h4
      have c1 : ¬ (3 : Int32) < I (u : Int) := fun z => by have := (I_lt (a := 3) (by omega) (by omega)).mp z; omega
      have e2 : I (u : Int) + 1 = I ((u + 1 : Nat) : Int) := by show I (u : Int) + I 1 = _; rw [I_add]; congr 1
      have hB := BY_b (last := lastU kind) (xs := xs) (s := s) hw h1 h2 h3 h4
      simp only [f_X12_bestOf_135, if_neg c1, e1, e2, M_has _ _ (show x - 1 < 32 by omega), hb, bd_s, if_true, M_by hk hk3 hw hP h1 h2 h3 h4 hs hR hn]
      rw [if_neg (by decide)]
      by_cases c : BY wt (lastU kind) x xs s u = DD wt (lastU kind) (x :: xs) s
      · rw [if_pos c, if_pos (by rw [c])]
      · rw [if_neg c, if_neg (fun z => c ((I_inj (by omega) (by omega)).mp z))]
    refine (nx (fu + 3) 1 (by decide) (by decide)).trans ?_
    by_cases c1 : BY wt (lastU kind) x xs s 1 = DD wt (lastU kind) (x :: xs) s
    · rw [if_pos c1, List.find?_cons_of_pos (by exact decide_eq_true c1)]; rfl
    · rw [if_neg c1, List.find?_cons_of_neg (by simpa using c1)]
      refine (nx (fu + 2) 2 (by decide) (by decide)).trans ?_
      by_cases c2 : BY wt (lastU kind) x xs s 2 = DD wt (lastU kind) (x :: xs) s
      · rw [if_pos c2, List.find?_cons_of_pos (by exact decide_eq_true c2)]; rfl
      · rw [if_neg c2, List.find?_cons_of_neg (by simpa using c2)]
        refine (nx (fu + 1) 3 (by decide) (by decide)).trans ?_
        by_cases c3 : BY wt (lastU kind) x xs s 3 = DD wt (lastU kind) (x :: xs) s
        · rw [if_pos c3, List.find?_cons_of_pos (by exact decide_eq_true c3)]; rfl
        · rw [if_neg c3, List.find?_cons_of_neg (by simpa using c3)]
          have c4 : (3 : Int32) < I (((3 + 1 : Nat)) : Int) := by decide
          simp only [f_X12_bestOf_135, if_pos c4]
          rfl
def OU (g g' : Nat → Nat → Int32) (L : List (Nat × Nat)) : Prop := g' 83 16 = g 83 16 ||| su 1 L ∧ g' 83 17 = g 83 17 ||| su 2 L ∧ g' 83 18 = g 83 18 ||| su 3 L ∧ ∀ j, j < 16 ∨ 18 < j → g' 83 j = g 83 j
theorem OU_set {g g' : Nat → Nat → Int32} {x u : Nat} {L : List (Nat × Nat)} (h : OU (setU g x u) g' L) : OU g g' ((x, u) :: L) := by
  obtain ⟨h1, h2, h3, h4⟩ := h
  refine ⟨?_, ?_, ?_, fun j hj => ?_⟩
  · rw [h1, show setU g x u 83 16 = g 83 16 ||| (if u = 1 then b1 (x - 1) else 0) from rfl, or_as]; rfl
  · rw [h2, show setU g x u 83 17 = g 83 17 ||| (if u = 2 then b1 (x - 1) else 0) from rfl, or_as]; rfl
  · rw [h3, show setU g x u 83 18 = g 83 18 ||| (if u = 3 then b1 (x - 1) else 0) from rfl, or_as]; rfl
  · rw [h4 j hj]; unfold setU; rw [uc_s, upd_n (by omega), upd_n (by omega), upd_n (by omega)]
theorem OU_no {g g' : Nat → Nat → Int32} {x : Nat} {L : List (Nat × Nat)} (h : OU (setU g x 4) g' L) : OU g g' L := by
  obtain ⟨h1, h2, h3, h4⟩ := h
  refine ⟨?_, ?_, ?_, fun j hj => ?_⟩
  · rw [h1, show setU g x 4 83 16 = g 83 16 ||| 0 from rfl, or_z]
  · rw [h2, show setU g x 4 83 17 = g 83 17 ||| 0 from rfl, or_z]
  · rw [h3, show setU g x 4 83 18 = g 83 18 ||| 0 from rfl, or_z]
  · rw [h4 j hj]; unfold setU; rw [uc_s, upd_n (by omega), upd_n (by omega), upd_n (by omega)]
theorem numsF_cons {may : Int32} {x m : Nat} : numsF may x (m + 1) = if bt may (x - 1) then x :: numsF may (x + 1) m else numsF may (x + 1) m := by
  unfold numsF
  rw [List.range'_succ]
  cases hb : bt may (x - 1) with
  | true => rw [List.filter_cons_of_pos (by rw [hb]), if_pos rfl]
  | false => rw [List.filter_cons_of_neg (by rw [hb]; decide), if_neg (by decide)]
theorem M_pick {may bb : Int32} {kind n : Nat} (hk : 1 ≤ kind) (hk3 : kind ≤ 3) (hw : WB wt) (hn : n ≤ 24) :
    ∀ (m fu x : Nat) (s : Int) (g : Nat → Nat → Int32), m < fu → x + m = n + 1 → 1 ≤ x → MPr g wt → g 84 0 = I n → TBM g wt kind may n 1 → DD wt (lastU kind) (numsF may x m) s < INF →
    ∃ g', f_X12_bestOf_121 fu (g, RF p q w v ds) 83 may (I kind) bb (I s) (I (DD wt (lastU kind) (numsF may x m) s)) (I x) = some (bb, (g', RF p q w v ds)) ∧ Sb [83] g g' ∧ OU g g' (PK wt (lastU kind) (numsF may x m) s) := by
  have hI : INF = 1000000 := rfl
  have i0 : inr (0 : Int32) 59 = true := by decide
  have c0 : (0 : Int32).toNatClampNeg = 0 := by decide
  intro m
  induction m with
  | zero =>
    intro fu x s g hf hx h1 hP h0 hT hlt
    obtain ⟨fu, rfl⟩ : ∃ k, fu = k + 1 := ⟨fu - 1, by omega⟩
    have c1 : I (n : Int) < I (x : Int) := (I_lt (by omega) (by omega)).mpr (by omega)
    refine ⟨g, ?_, Sb.rf, ?_⟩
    · simp only [f_X12_bestOf_121, r_83_1, k_84, n_84, gd, if_true, reduceIte, i0, c0, h0, if_pos c1]
    · exact ⟨(or_z _).symm, (or_z _).symm, (or_z _).symm, fun _ _ => rfl⟩
  | succ m ih =>
    intro fu x s g hf hx h1 hP h0 hT hlt
    obtain ⟨fu, rfl⟩ : ∃ k, fu = k + 1 := ⟨fu - 1, by omega⟩
    have c1 : ¬ I (n : Int) < I (x : Int) := fun z => by have := (I_lt (by omega) (by omega)).mp z; omega
    have hsm := numsF_sum (may := may) (x := x) (m := m + 1) h1 (by omega)
    have hs : -300 ≤ s ∧ s ≤ 300 := by
      by_cases ho : nsum (numsF may x (m + 1)) < s ∨ s < -nsum (numsF may x (m + 1))
      · have := DD_far (wt := wt) (last := lastU kind) hw.1 ho; omega
      · omega
    have hR : RwM g (x + 1) (DD wt (lastU kind) (numsF may (x + 1) m)) := by
      have := hT (x + 1) (by omega) (by omega) (by omega)
      rwa [show n + 1 - (x + 1) = m by omega] at this
    have e0 : f_X12_bestOf_121 (fu + 1) (g, RF p q w v ds) 83 may (I kind) bb (I s) (I (DD wt (lastU kind) (numsF may x (m + 1)) s)) (I x) = f_X12_bestOf_135 (f_X12_bestOf_121 fu) FU (g, RF p q w v ds) 83 may (I kind) bb (I s) (I (DD wt (lastU kind) (numsF may x (m + 1)) s)) (I x) 1 := by
      simp only [f_X12_bestOf_121, r_83_1, k_84, n_84, gd, if_true, reduceIte, i0, c0, h0, if_neg c1]
    rw [numsF_cons] at hlt e0 ⊢
    rw [e0, M_srch _ hk hk3 hw hP h1 (by omega) hs hR (numsF_sum (by omega) (by omega)) hlt]
    have hP1 : ∀ u, MPr (setU g x u) wt := fun u y a b => by unfold setU; rw [uc_n (by decide)]; exact hP y a b
    have hT1 : ∀ u, TBM (setU g x u) wt kind may n 1 := fun u y a b c s d e => by unfold setU; rw [uc_n (by decide)]; exact hT y a b c s d e
    have h01 : ∀ u, setU g x u 84 0 = I n := fun u => by unfold setU; rw [uc_n (by decide)]; exact h0
    have hS1 : ∀ u, Sb [83] g (setU g x u) := fun u => by unfold setU; exact Sb.rf.uc (by decide)
    have none4 : ∀ l : Int, l = DD wt (lastU kind) (numsF may (x + 1) m) s → l < INF → ∃ g', f_X12_bestOf_174 (f_X12_bestOf_121 fu) (g, RF p q w v ds) 83 may (I kind) bb (I s) (I l) (I x) (I ((4 : Nat) : Int)) = some (bb, (g', RF p q w v ds)) ∧ Sb [83] g g' ∧ OU g g' (PK wt (lastU kind) (numsF may (x + 1) m) s) := by
      intro l hl hlt'
      rw [M_set _ hP h1 (by omega) (by decide) (by decide), if_neg (by decide), if_neg (by decide), hl]
      obtain ⟨g', a1, a2, a3⟩ := ih fu (x + 1) s (setU g x 4) (by omega) (by omega) (by omega) (hP1 4) (h01 4) (hT1 4) (by omega)
      exact ⟨g', a1, Sb.tr (hS1 4) a2, OU_no a3⟩
    cases hb : bt may (x - 1) with
    | false =>
      rw [hb] at hlt
      exact none4 _ rfl hlt
    | true =>
      rw [hb] at hlt
      simp only [if_true] at hlt ⊢
      cases hf1 : fu1 wt (lastU kind) x (numsF may (x + 1) m) s with
      | none =>
        have eD := DD_none hf1
        obtain ⟨g', a1, a2, a3⟩ := none4 _ eD.symm hlt
        refine ⟨g', a1, a2, ?_⟩
        rw [PK, hf1]
        exact a3
      | some u =>
        obtain ⟨hu, eD⟩ := DD_some hf1
        have hm := uses_mem hu
        have hwu := hw.1 x u
        show ∃ g', f_X12_bestOf_174 (f_X12_bestOf_121 fu) (g, RF p q w v ds) 83 may (I kind) bb (I s) (I (DD wt (lastU kind) (x :: numsF may (x + 1) m) s)) (I x) (I (u : Int)) = _ ∧ _
        rw [M_set _ hP h1 (by omega) hm.1 (by omega), if_pos hm.2.1, if_pos hm.2.1]
        have el : DD wt (lastU kind) (x :: numsF may (x + 1) m) s - wt x u = DD wt (lastU kind) (numsF may (x + 1) m) (s - cn x u) := by omega
        rw [el]
        obtain ⟨g', a1, a2, a3⟩ := ih fu (x + 1) (s - cn x u) (setU g x u) (by omega) (by omega) (by omega) (hP1 u) (h01 u) (hT1 u) (by omega)
        refine ⟨g', a1, Sb.tr (hS1 u) a2, ?_⟩
        rw [PK, hf1]
        exact OU_set a3
end T
