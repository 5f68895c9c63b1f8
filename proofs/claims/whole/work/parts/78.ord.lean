/-! in which order most can speak: all rows, the first of the best -/
def VV (u : Nat → Int32 → Int32) : Nat → Int32 → Int32 → Nat → List Nat → Int × List Nat → Int × List Nat
  | 0, _, _, can, pre, st => if st.1 < (can : Int) then ((can : Int), pre) else st
  | d + 1, left, T, can, pre, st => (List.range' 0 6).foldl (fun st i => if bt left i then VV u d (left &&& (b1 i ^^^ (-1))) (T ||| u i T) (can + (if u i T = 0 then 0 else 1)) (pre ++ [i]) st else st) st
def vf (u : Nat → Int32 → Int32) (d : Nat) (left T : Int32) (can : Nat) (pre : List Nat) (st : Int × List Nat) (i : Nat) : Int × List Nat := if bt left i then VV u d (left &&& (b1 i ^^^ (-1))) (T ||| u i T) (can + (if u i T = 0 then 0 else 1)) (pre ++ [i]) st else st
theorem VV_s (u : Nat → Int32 → Int32) (d : Nat) (left T : Int32) (can : Nat) (pre : List Nat) (st : Int × List Nat) : VV u (d + 1) left T can pre st = (List.range' 0 6).foldl (vf u d left T can pre) st := rfl
def abl (u : Nat → Int32 → Int32) (left T : Int32) : Nat → Bool := fun i => bt left i && decide (u i T ≠ 0)
def ac (u : Nat → Int32 → Int32) (left T : Int32) : Nat := sm 6 (fun i => if abl u left T i then 1 else 0)
theorem sm_mono {n : Nat} {f h : Nat → Nat} (e : ∀ i, i < n → f i ≤ h i) : sm n f ≤ sm n h := by
  induction n with
  | zero => exact Nat.le_refl _
  | succ n ih => rw [sm_s, sm_s]; have := ih (fun i hi => e i (by omega)); have := e n (by omega); omega
theorem bt_clr {x : Int32} {i j : Nat} (hi : i < 32) (hj : j < 32) : bt (x &&& (b1 i ^^^ (-1))) j = (bt x j && !decide (j = i)) := by rw [bt_and, bt_not hj, bt_b1 hi hj]
theorem ac_step {u : Nat → Int32 → Int32} (hu : ∀ i T x, u i T = 0 → u i (T ||| x) = 0) {left T : Int32} {i : Nat} (hi : i < 6) (hb : bt left i = true) : (if u i T = 0 then 0 else 1) + ac u (left &&& (b1 i ^^^ (-1))) (T ||| u i T) ≤ ac u left T := by
  have e : (if u i T = 0 then 0 else 1) = sm 6 (fun j => if j = i then (if u i T = 0 then 0 else 1) else 0) := by rw [sm_one (i := i) hi (fun j _ hj => if_neg hj), if_pos rfl]
  unfold ac
  rw [e, ← sm_add]
  apply sm_mono
  intro j hj
  unfold abl
  rw [bt_clr (by omega) (by omega)]
  by_cases c : j = i
  · subst c
    rw [if_pos rfl, decide_eq_true rfl, Bool.not_true, Bool.and_false, Bool.false_and, hb, Bool.true_and]
    by_cases z : u j T = 0
    · rw [if_pos z, decide_eq_false (fun k => k z)]; exact Nat.zero_le _
    · rw [if_neg z, decide_eq_true z]; exact Nat.le_refl _
  · rw [if_neg c, decide_eq_false c, Bool.not_false, Bool.and_true, Nat.zero_add]
    by_cases z : u j T = 0
    · rw [hu j T _ z, decide_eq_false (fun k => k rfl), Bool.and_false]; exact Nat.zero_le _
    · rw [decide_eq_true z, Bool.and_true]
      by_cases y : bt left j = true
      · rw [if_pos y]; split <;> omega
      · rw [Bool.eq_false_iff.mpr y, Bool.false_and]; exact Nat.le_refl _
theorem fold_fix {f : Int × List Nat → Nat → Int × List Nat} {st : Int × List Nat} : ∀ L : List Nat, (∀ i ∈ L, f st i = st) → L.foldl f st = st := by
  intro L
  induction L with
  | nil => intro _; rfl
  | cons a L ih => intro h; rw [List.foldl_cons, h a List.mem_cons_self]; exact ih (fun i hi => h i (List.mem_cons_of_mem _ hi))
theorem VV_bd {u : Nat → Int32 → Int32} (hu : ∀ i T x, u i T = 0 → u i (T ||| x) = 0) : ∀ (d : Nat) (left T : Int32) (can : Nat) (pre : List Nat) (st : Int × List Nat), ((can + ac u left T : Nat) : Int) ≤ st.1 → VV u d left T can pre st = st := by
  intro d
  induction d with
  | zero => intro left T can pre st h; exact if_neg (by omega)
  | succ d ih =>
    intro left T can pre st h
    rw [VV_s]
    apply fold_fix
    intro i hi
    have hi := List.mem_range'_1.mp hi
    unfold vf
    by_cases hb : bt left i = true
    · rw [if_pos hb]
      apply ih
      have := ac_step hu (T := T) (show i < 6 by omega) hb
      omega
    · rw [if_neg hb]
theorem vf_fix {u : Nat → Int32 → Int32} (hu : ∀ i T x, u i T = 0 → u i (T ||| x) = 0) {d : Nat} {left T : Int32} {can : Nat} {pre : List Nat} {st : Int × List Nat} (h : ((can + ac u left T : Nat) : Int) ≤ st.1) {i : Nat} (hi : i < 6) : vf u d left T can pre st i = st := by
  unfold vf
  by_cases hb : bt left i = true
  · rw [if_pos hb]
    apply VV_bd hu
    have := ac_step hu (T := T) hi hb
    omega
  · rw [if_neg hb]
theorem pc_cl {x : Int32} {i : Nat} (hi : i < 32) (hb : bt x i = true) : ∀ n, n ≤ 32 → pc n (x &&& (b1 i ^^^ (-1))) + (if i < n then 1 else 0) = pc n x := by
  intro n
  induction n with
  | zero => intro _; rfl
  | succ n ih =>
    intro hn
    have := ih (by omega)
    unfold pc
    rw [bt_clr hi (by omega)]
    by_cases c : n = i
    · subst c
      rw [if_neg (by omega)] at this
      rw [if_pos (show n < n + 1 by omega), decide_eq_true rfl, Bool.not_true, Bool.and_false, hb, if_neg (by decide), if_pos rfl]
      omega
    · rw [decide_eq_false c, Bool.not_false, Bool.and_true]
      by_cases y : i < n
      · rw [if_pos y] at this; rw [if_pos (show i < n + 1 by omega)]; omega
      · rw [if_neg y] at this; rw [if_neg (show ¬ i < n + 1 by omega)]; omega
theorem whl_len (x : Int32) : ∀ (r i : Nat), (whl x i r).length + pc i x = pc (i + r) x := by
  intro r
  induction r with
  | zero => intro i; show 0 + _ = _; rw [Nat.zero_add]; rfl
  | succ r ih =>
    intro i
    rw [whl_s]
    have := ih (i + 1)
    rw [show i + (r + 1) = i + 1 + r by omega]
    have e : pc (i + 1) x = pc i x + (if bt x i then 1 else 0) := rfl
    by_cases hb : bt x i = true
    · rw [if_pos hb, List.length_cons]; rw [if_pos hb] at e; omega
    · rw [if_neg hb]; rw [if_neg hb] at e; omega
theorem whl_6l (x : Int32) : (whl x 0 6).length = pc 6 x := whl_len x 6 0
theorem whl_app (x : Int32) (i a b : Nat) : whl x i (a + b) = whl x i a ++ whl x (i + a) b := by
  unfold whl
  rw [← List.range'_append_1, List.filter_append]
theorem whl_nil {x : Int32} {i r : Nat} (h : ∀ j, i ≤ j → j < i + r → bt x j = false) : whl x i r = [] := by
  unfold whl
  rw [List.filter_eq_nil_iff]
  intro j hj
  have hj := List.mem_range'_1.mp hj
  rw [h j (by omega) (by omega)]
  decide
theorem whl_cg {x y : Int32} {i r : Nat} (h : ∀ j, i ≤ j → j < i + r → bt x j = bt y j) : whl x i r = whl y i r := by
  unfold whl
  apply List.filter_congr
  intro j hj
  have hj := List.mem_range'_1.mp hj
  rw [h j (by omega) (by omega)]
theorem VV_0 {u : Nat → Int32 → Int32} (hu : ∀ i T x, u i T = 0 → u i (T ||| x) = 0) : ∀ (d : Nat) (left T : Int32) (can : Nat) (pre : List Nat) (st : Int × List Nat), ac u left T = 0 → pc 6 left = d → VV u d left T can pre st = if st.1 < (can : Int) then ((can : Int), pre ++ whl left 0 6) else st := by
  intro d
  induction d with
  | zero =>
    intro left T can pre st h hp
    have : whl left 0 6 = [] := List.length_eq_zero_iff.mp (by rw [whl_6l]; exact hp)
    rw [this, List.append_nil]
    rfl
  | succ d ih =>
    intro left T can pre st h hp
    by_cases hs : st.1 < (can : Int)
    · rw [if_pos hs, VV_s]
      have key : ∀ (r i : Nat), i + r = 6 → (∀ j, j < i → bt left j = false) → (List.range' i r).foldl (vf u d left T can pre) st = ((can : Int), pre ++ whl left i r) := by
        intro r
        induction r with
        | zero =>
          intro i hi hz
          exfalso
          have h1 := whl_6l left
          rw [whl_nil (fun j _ hj => hz j (by omega)), hp] at h1
          exact absurd h1 (by simp)
        | succ r ihr =>
          intro i hi hz
          rw [List.range'_succ, List.foldl_cons, whl_s]
          by_cases hb : bt left i = true
          · have hst := ac_step hu (T := T) (show i < 6 by omega) hb
            have hui : u i T = 0 := by
              rcases Classical.em (u i T = 0) with z | z
              · exact z
              · rw [if_neg z] at hst; omega
            rw [hui, if_pos rfl] at hst
            have e1 : vf u d left T can pre st i = ((can : Int), pre ++ (i :: whl left (i + 1) r)) := by
              unfold vf
              have hpc := pc_cl (x := left) (show i < 32 by omega) hb 6 (by decide)
              rw [if_pos (show i < 6 by omega)] at hpc
              rw [if_pos hb, ih _ _ _ _ _ (by rw [hui]; omega) (by omega), hui, if_pos rfl, Nat.add_zero, if_pos hs, List.append_assoc]
              congr 3
              rw [show (6 : Nat) = (i + 1) + r by omega, whl_app, Nat.zero_add, whl_nil (fun j _ hj => by
                rw [bt_clr (by omega) (by omega)]
                by_cases c : j = i
                · rw [decide_eq_true c]; simp
                · rw [hz j (by omega)]; rfl)]
              show i :: whl _ (i + 1) r = i :: whl left (i + 1) r
              congr 1
              exact whl_cg (fun j h1 h2 => by rw [bt_clr (by omega) (by omega), decide_eq_false (by omega)]; simp)
            rw [e1, if_pos hb]
            apply fold_fix
            intro j hj
            have hj := List.mem_range'_1.mp hj
            exact vf_fix hu (by rw [h]; exact Int.le_refl _) (by omega)
          · rw [if_neg hb, show vf u d left T can pre st i = st from if_neg hb]
            exact ihr (i + 1) (by omega) (fun j hj => by
              by_cases c : j = i
              · rw [c]; exact Bool.eq_false_iff.mpr hb
              · exact hz j (by omega))
      exact key 6 0 rfl (fun j hj => absurd hj (by omega))
    · rw [if_neg hs]
      exact VV_bd hu _ _ _ _ _ _ (by rw [h]; omega)
/-- a row is whole, and at least as good as before -/
theorem VV_len {u : Nat → Int32 → Int32} : ∀ (d : Nat) (left T : Int32) (can : Nat) (pre : List Nat) (st : Int × List Nat), pc 6 left = d → (VV u d left T can pre st = st ∨ (VV u d left T can pre st).2.length = pre.length + d) ∧ st.1 ≤ (VV u d left T can pre st).1 ∧ (can : Int) ≤ (VV u d left T can pre st).1 ∧ ((VV u d left T can pre st).1 ≤ st.1 ∨ (VV u d left T can pre st).1 ≤ ((can + d : Nat) : Int)) := by
  intro d
  induction d with
  | zero =>
    intro left T can pre st hp
    by_cases hs : st.1 < (can : Int)
    · have e : VV u 0 left T can pre st = ((can : Int), pre) := if_pos hs
      rw [e]
      exact ⟨Or.inr rfl, by show st.1 ≤ (can : Int); omega, Int.le_refl _, Or.inr (by show (can : Int) ≤ _; omega)⟩
    · have e : VV u 0 left T can pre st = st := if_neg hs
      rw [e]
      exact ⟨Or.inl rfl, Int.le_refl _, by omega, Or.inl (Int.le_refl _)⟩
  | succ d ih =>
    intro left T can pre st hp
    rw [VV_s]
    have key : ∀ (r i : Nat) (st : Int × List Nat), i + r = 6 → ((List.range' i r).foldl (vf u d left T can pre) st = st ∨ ((List.range' i r).foldl (vf u d left T can pre) st).2.length = pre.length + (d + 1)) ∧ st.1 ≤ ((List.range' i r).foldl (vf u d left T can pre) st).1 ∧ (whl left i r ≠ [] → (can : Int) ≤ ((List.range' i r).foldl (vf u d left T can pre) st).1) ∧ (((List.range' i r).foldl (vf u d left T can pre) st).1 ≤ st.1 ∨ ((List.range' i r).foldl (vf u d left T can pre) st).1 ≤ ((can + (d + 1) : Nat) : Int)) := by
      intro r
      induction r with
      | zero => intro i st hi; exact ⟨Or.inl rfl, Int.le_refl _, fun h => absurd rfl h, Or.inl (Int.le_refl _)⟩
      | succ r ihr =>
        intro i st hi
        rw [List.range'_succ, List.foldl_cons, whl_s]
        obtain ⟨a1, a2, a3, a4⟩ := ihr (i + 1) (vf u d left T can pre st i) (by omega)
        by_cases hb : bt left i = true
        · have hpc := pc_cl (x := left) (show i < 32 by omega) hb 6 (by decide)
          rw [if_pos (show i < 6 by omega)] at hpc
          obtain ⟨b1', b2, b3, b4⟩ := ih (left &&& (b1 i ^^^ (-1))) (T ||| u i T) (can + (if u i T = 0 then 0 else 1)) (pre ++ [i]) st (by omega)
          have e : vf u d left T can pre st i = VV u d (left &&& (b1 i ^^^ (-1))) (T ||| u i T) (can + (if u i T = 0 then 0 else 1)) (pre ++ [i]) st := if_pos hb
          rw [← e] at b1' b2 b3 b4
          have h01 : (if u i T = 0 then 0 else 1) ≤ 1 := by split <;> omega
          rw [List.length_append] at b1'
          refine ⟨?_, by omega, fun _ => by omega, by omega⟩
          rcases a1 with a1 | a1
          · rw [a1]
            rcases b1' with b1' | b1'
            · exact Or.inl b1'
            · exact Or.inr (by rw [b1']; show pre.length + 1 + d = _; omega)
          · exact Or.inr a1
        · have e : vf u d left T can pre st i = st := if_neg hb
          rw [e] at a1 a2 a3 a4 ⊢
          rw [if_neg hb]
          exact ⟨a1, a2, a3, a4⟩
    obtain ⟨k1, k2, k3, k4⟩ := key 6 0 st rfl
    exact ⟨k1, k2, k3 (fun z => by have := whl_6l left; rw [z, hp] at this; exact absurd this (by simp)), k4⟩
theorem pc_mk {f : Nat → Bool} {k : Nat} (hk : k ≤ 32) : ∀ n, n ≤ k → pc n (mk k f) = sm n (fun i => if f i then 1 else 0) := by
  intro n
  induction n with
  | zero => intro _; rfl
  | succ n ih =>
    intro hn
    rw [sm_s, ← ih (by omega)]
    show _ + (if bt (mk k f) n then 1 else 0) = _
    rw [bt_mk hk _ (by omega), decide_eq_true (show n < k by omega), Bool.true_and]
theorem pc_abl (u : Nat → Int32 → Int32) (left T : Int32) : pc 32 (mk 6 (abl u left T)) = ac u left T := by
  have := pc_more (n := 6) (x := mk 6 (abl u left T)) 26 (fun i hi => by
    rcases Nat.lt_or_ge i 32 with z | z
    · rw [bt_mk (by decide) _ z, decide_eq_false (by omega), Bool.false_and]
    · exact bt_big z)
  rw [this, pc_mk (by decide) 6 (Nat.le_refl _)]
  rfl
theorem ac_0 (u : Nat → Int32 → Int32) (left T : Int32) : ac u left T = 0 ↔ mk 6 (abl u left T) = 0 := by
  constructor
  · intro h
    apply bt_ext
    intro j hj
    rw [bt_0, bt_mk (by decide) _ hj]
    by_cases c : j < 6
    · have := sm_ge (f := fun i => if abl u left T i then 1 else 0) c
      unfold ac at h
      rw [h] at this
      by_cases z : abl u left T j = true
      · simp only [if_pos z] at this; omega
      · rw [Bool.eq_false_iff.mpr z, Bool.and_false]
    · rw [decide_eq_false c, Bool.false_and]
  · intro h
    rw [← pc_abl, h]
    decide
theorem ac_le {u : Nat → Int32 → Int32} {left T : Int32} : ac u left T ≤ pc 6 left := by
  have e : pc 6 left = sm 6 (fun i => if bt left i then 1 else 0) := by
    have : ∀ n, pc n left = sm n (fun i => if bt left i then 1 else 0) := by
      intro n
      induction n with
      | zero => rfl
      | succ n ih => rw [sm_s, ← ih]; rfl
    exact this 6
  rw [e]
  apply sm_mono
  intro i _
  unfold abl
  by_cases c : bt left i = true
  · rw [if_pos c]; split <;> omega
  · rw [Bool.eq_false_iff.mpr c, Bool.false_and]; exact Nat.zero_le _
