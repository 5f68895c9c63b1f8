/-! the table: pick -/
theorem TBL.keep {g g' : Nat → Nat → Int32} {wt : Nat → Nat → Int} {may : Int32} {kind : Nat} (h : TBL g wt may kind) (hS : Sb [62] g g') (h4 : ∀ j, 4 ≤ j → g' 62 j = g 62 j) : TBL g' wt may kind := by
  obtain ⟨h1, h2, h3, h5, h6⟩ := h
  refine ⟨by rw [h4 10 (by decide)]; exact h1, by rw [h4 11 (by decide)]; exact h2, ⟨by rw [h4 9 (by decide)]; exact h3.1, fun k hk => by rw [hS 66 (by decide)]; exact h3.2 k hk⟩, fun k hk => by rw [hS 64 (by decide), hS 65 (by decide)]; exact h5 k hk, fun k a b => (h6 k a b).kept (fun s _ _ => by rw [hS 63 (by decide)])⟩
theorem or_z (x : Int32) : x ||| 0 = x := by apply bt_ext; intro i hi; rw [bt_or, bt_0, Bool.or_false]
theorem or_as (x y z : Int32) : x ||| y ||| z = x ||| (y ||| z) := by apply bt_ext; intro i hi; simp only [bt_or, Bool.or_assoc]
theorem spr_b {wt : Nat → Nat → Int} {last : Nat} (hb : ∀ x u : Nat, 1 ≤ x → x ≤ 24 → 1 ≤ u → u ≤ 3 → 1000 ≤ wt x u ∧ wt x u ≤ 1018) : ∀ (xs : List Nat) (r : Int), (∀ x ∈ xs, 1 ≤ x ∧ x ≤ 24) → 0 ≤ spr wt (PK wt last xs r) ∧ spr wt (PK wt last xs r) ≤ 18 * xs.length := by
  intro xs
  induction xs with
  | nil => intro r _; exact ⟨Int.le_refl _, Int.le_refl _⟩
  | cons x xs ih =>
    intro r hx
    have ihx := fun r => ih r (fun y hy => hx y (List.mem_cons_of_mem _ hy))
    have hl : ((x :: xs).length : Int) = xs.length + 1 := by simp
    rw [PK]
    cases hf : fu1 wt last x xs r with
    | none => have := ihx r; show 0 ≤ spr wt (PK wt last xs r) ∧ spr wt (PK wt last xs r) ≤ _; omega
    | some u =>
      have hm := uses_mem (DD_some hf).1
      have h0 := hx x List.mem_cons_self
      have h1 := hb x u h0.1 h0.2 hm.1 hm.2.1
      have := ihx (r - cn x u)
      show 0 ≤ (wt x u - 1000) + spr wt _ ∧ (wt x u - 1000) + spr wt _ ≤ _
      omega
section T
variable {p q w v : Nat} {ds : Nat → Nat} {wt : Nat → Nat → Int}
theorem X_pick_lp {may : Int32} {kind : Nat} (hw : ∀ x u, 0 ≤ wt x u) (hkind : kind ≤ 3) :
    ∀ (m fu k : Nat) (g : Nat → Nat → Int32) (s pr : Int), m < fu → k + m = (nums may).length → PrOK g wt → TBL g wt may kind → AR kind (nums may) k s → DD wt (lastU kind) ((nums may).drop k) s < INF → g 62 3 = I pr → 0 ≤ pr → pr ≤ 18 * k →
    ∃ g', f_X7_pick_32 fu (g, RF p q w v ds) 62 (I s) (I (DD wt (lastU kind) ((nums may).drop k) s)) (I k) = some ((), (g', RF p q w v ds)) ∧ Sb [62] g g' ∧ g' 62 0 = g 62 0 ||| su 1 (PK wt (lastU kind) ((nums may).drop k) s) ∧ g' 62 1 = g 62 1 ||| su 2 (PK wt (lastU kind) ((nums may).drop k) s) ∧ g' 62 2 = g 62 2 ||| su 3 (PK wt (lastU kind) ((nums may).drop k) s) ∧ g' 62 3 = I (pr + spr wt (PK wt (lastU kind) ((nums may).drop k) s)) ∧ ∀ j, 4 ≤ j → g' 62 j = g 62 j := by
  have hl := nums_len may
  have hI : INF = 1000000 := rfl
  intro m
  induction m with
  | zero =>
    intro fu k g s pr hf hk hP hT hA hlt hpr hp0 hp1
    obtain ⟨fu, rfl⟩ : ∃ k, fu = k + 1 := ⟨fu - 1, by omega⟩
    have c1 : I ((nums may).length : Int) ≤ I (k : Int) := (I_le (by omega) (by omega)).mpr (by omega)
    have hd : (nums may).drop k = [] := by rw [show k = (nums may).length by omega, List.drop_length]
    refine ⟨g, by simp only [f_X7_pick_32, hT.2.2.1.1, if_pos c1], Sb.rf, ?_, ?_, ?_, ?_, fun _ _ => rfl⟩
    · rw [hd]; exact (or_z _).symm
    · rw [hd]; exact (or_z _).symm
    · rw [hd]; exact (or_z _).symm
    · rw [hd, hpr]; show I pr = I (pr + 0); rw [Int.add_zero]
  | succ m ih =>
    intro fu k g s pr hf hk hP hT hA hlt hpr hp0 hp1
    obtain ⟨fu, rfl⟩ : ∃ k, fu = k + 1 := ⟨fu - 1, by omega⟩
    have hkx : k < (nums may).length := by omega
    have c1 : ¬ I ((nums may).length : Int) ≤ I (k : Int) := fun z => by have := (I_le (by omega) (by omega)).mp z; omega
    have dpos := DD_pos hw (last := lastU kind) ((nums may).drop k) s
    have c2 : ¬ I 1000000 ≤ I (DD wt (lastU kind) ((nums may).drop k) s) := fun z => by have := (I_le (by omega) (by omega)).mp z; omega
    have hsb : -300 ≤ s ∧ s ≤ 300 := by
      have h1 := nums_sum may
      have h2 := beh_ahd (nums may) k
      have h3 := ahd_pos (nums may) k
      by_cases ho : beh (nums may) k < s ∨ s < -(beh (nums may) k)
      · have := DD_far (wt := wt) (last := lastU kind) hw ho; omega
      · omega
    have hmem : (nums may).getD k 0 ∈ nums may := by
      rw [List.getD_eq_getElem?_getD, List.getElem?_eq_getElem hkx]
      exact List.getElem_mem hkx
    obtain ⟨hx1, hx2⟩ := nums_b _ hmem
    have ek : (I (k : Int)).toNatClampNeg = k := by rw [I_cl (by omega) (by omega)]; omega
    have i1 : inr (I (k : Int)) 24 = true := I_inr (by omega) (by omega) (by omega)
    have ek1 : (k : Int) + 1 = ((k + 1 : Nat) : Int) := by omega
    have hfst := X_first (p := p) (q := q) (w := w) (v := v) (ds := ds) hw hkind hP hT hkx hA (by omega)
    have hdc := drop_cons hkx
    have e0 : f_X7_pick_32 (fu + 1) (g, RF p q w v ds) 62 (I s) (I (DD wt (lastU kind) ((nums may).drop k) s)) (I k) = bd (f_X7_firstUse (g, RF p q w v ds) 62 (I k) (I s) (I (DD wt (lastU kind) ((nums may).drop k) s))) (fun r1 h2 => if r1 = 0 then f_X7_pick_90 (f_X7_pick_32 fu) h2 62 (I s) (I k) else gd (kd (h2.2 62 7) = 13) <| gd (inr (I k) (ln (h2.2 62 7)) = true) <| bd (f_X7_add h2 62 (h2.1 (h2.2 62 7) (I (k : Int)).toNatClampNeg) r1) <| fun r6 h7 => gd (kd (h7.2 62 7) = 13) <| gd (inr (I k) (ln (h7.2 62 7)) = true) <| bd (f_X11_countsAs h7 (h7.1 (h7.2 62 7) (I (k : Int)).toNatClampNeg) r1) <| fun r11 h12 => f_X7_pick_90 (f_X7_pick_32 fu) h12 62 (I s - r11) (I k)) := by
      simp only [f_X7_pick_32, hT.2.2.1.1, if_neg c1, I_lit, if_neg c2]
    rw [e0, hfst, bd_s, hdc, PK]
    cases hfu : fu1 wt (lastU kind) ((nums may).getD k 0) ((nums may).drop (k + 1)) s with
    | none =>
      have eD := DD_none hfu
      rw [← hdc] at eD
      dsimp only
      rw [if_pos rfl]
      have hA2 := AR_skip hkx hA
      have hat := X_at (p := p) (q := q) (w := w) (v := v) (ds := ds) hw hT (show k + 1 ≤ (nums may).length by omega) hA2 (by omega)
      simp only [f_X7_pick_90, I_lit, I_add, ek1, hat, bd_s]
      obtain ⟨g', a1, a2, a3, a4, a5, a6, a7⟩ := ih fu (k + 1) g s pr (by omega) (by omega) hP hT hA2 (by rw [eD]; exact hlt) hpr hp0 (by omega)
      exact ⟨g', a1, a2, a3, a4, a5, a6, a7⟩
    | some u =>
      obtain ⟨hu, eD⟩ := DD_some hfu
      rw [← hdc] at eD
      have hm := uses_mem hu
      have hwu := hw ((nums may).getD k 0) u
      have hn0 : ¬ I (u : Int) = 0 := fun z => by have := (I_inj (b := 0) (by omega) (by omega)).mp z; omega
      dsimp only
      rw [if_neg hn0]
      simp only [r_61_0, r_61_1, r_61_2, r_61_3, r_61_4, r_61_5, r_61_6, r_61_7, r_62_4, r_62_5, r_62_6, r_62_7, r_62_8, k_61, n_61, k_62, n_62, k_63, n_63, k_64, n_64, k_65, n_65, k_66, n_66, k_67, n_67, k_68, n_68, k_69, n_69, k_70, n_70, k_71, n_71, k_72, n_72, k_73, n_73, k_74, n_74, gd, if_true, reduceIte, i1, ek, hT.2.2.1.2 k hkx]
      obtain ⟨g1, b1', b2, b3, b4, b5, b6, b7⟩ := X_add (p := p) (q := q) (w := w) (v := v) (ds := ds) hP hx1 hx2 hm.1 hm.2.1 hpr
      rw [b1', bd_s]
      have hT1 := hT.keep b2 b7
      have hP1 : PrOK g1 wt := fun x u a b c d => by rw [b2 67 (by decide)]; exact hP x u a b c d
      simp only [r_61_0, r_61_1, r_61_2, r_61_3, r_61_4, r_61_5, r_61_6, r_61_7, r_62_4, r_62_5, r_62_6, r_62_7, r_62_8, k_61, n_61, k_62, n_62, k_63, n_63, k_64, n_64, k_65, n_65, k_66, n_66, k_67, n_67, k_68, n_68, k_69, n_69, k_70, n_70, k_71, n_71, k_72, n_72, k_73, n_73, k_74, n_74, gd, if_true, reduceIte, i1, ek, hT1.2.2.1.2 k hkx, X_countsAs _ (show (nums may).getD k 0 ≤ 1000 by omega) hm.1 hm.2.1, bd_s, I_sub]
      have hA2 := AR_use hkx ⟨hm.1, hm.2.2.1⟩ hA
      have hcn := cn_abs (x := (nums may).getD k 0) hm.1 hm.2.1
      have hat := X_at (p := p) (q := q) (w := w) (v := v) (ds := ds) hw hT1 (show k + 1 ≤ (nums may).length by omega) hA2 (by omega)
      simp only [f_X7_pick_90, I_lit, I_add, ek1, hat, bd_s]
      obtain ⟨p1, p2, p3⟩ := hP ((nums may).getD k 0) u hx1 hx2 hm.1 hm.2.1
      obtain ⟨g', a1, a2, a3, a4, a5, a6, a7⟩ := ih fu (k + 1) g1 (s - cn ((nums may).getD k 0) u) (pr + (wt ((nums may).getD k 0) u - 1000)) (by omega) (by omega) hP1 hT1 hA2 (by omega) b6 (by omega) (by omega)
      refine ⟨g', a1, Sb.tr b2 a2, ?_, ?_, ?_, ?_, fun j hj => by rw [a7 j hj, b7 j hj]⟩
      · rw [a3, b3, or_as]; rfl
      · rw [a4, b4, or_as]; rfl
      · rw [a5, b5, or_as]; rfl
      · rw [a6]; congr 1; show pr + (wt ((nums may).getD k 0) u - 1000) + spr wt _ = pr + ((wt ((nums may).getD k 0) u - 1000) + spr wt _); omega
/-- the best saying: numbers in their uses; none is [] -/
def PKo (wt : Nat → Nat → Int) (last : Nat) (xs : List Nat) (r : Int) : List (Nat × Nat) := if DD wt last xs r < INF then PK wt last xs r else []
theorem X_pick {g : Nat → Nat → Int32} {may : Int32} {kind : Nat} {a : Int} (hw : ∀ x u, 0 ≤ wt x u) (hkind : kind ≤ 3) (hP : PrOK g wt) (hT : TBL g wt may kind) (ha : 1 ≤ a ∧ a ≤ 99) :
    ∃ g', f_X7_pick (g, RF p q w v ds) 62 (I a) = some ((), (g', RF p q w v ds)) ∧ Sb [62] g g' ∧ TBL g' wt may kind ∧ g' 62 0 = su 1 (PKo wt (lastU kind) (nums may) a) ∧ g' 62 1 = su 2 (PKo wt (lastU kind) (nums may) a) ∧ g' 62 2 = su 3 (PKo wt (lastU kind) (nums may) a) ∧ g' 62 3 = I (spr wt (PKo wt (lastU kind) (nums may) a)) := by
  have hI : INF = 1000000 := rfl
  obtain ⟨g0, hg0⟩ : ∃ g0, g0 = uc g 62 (upd (upd (upd (upd (g 62) 0 0) 1 0) 2 0) 3 0) := ⟨_, rfl⟩
  have f0 : g0 62 0 = 0 ∧ g0 62 1 = 0 ∧ g0 62 2 = 0 ∧ g0 62 3 = 0 := by rw [hg0]; exact ⟨rfl, rfl, rfl, rfl⟩
  have f4 : ∀ j, 4 ≤ j → g0 62 j = g 62 j := fun j hj => by rw [hg0, uc_s, upd_n (by omega), upd_n (by omega), upd_n (by omega), upd_n (by omega)]
  have fS : Sb [62] g g0 := by rw [hg0]; exact Sb.rf.uc (by decide)
  have hT0 := hT.keep fS f4
  have hP0 : PrOK g0 wt := fun x u a b c d => by rw [fS 67 (by decide)]; exact hP x u a b c d
  have e0 : f_X7_pick (g, RF p q w v ds) 62 (I a) = bd (f_X7_at (g0, RF p q w v ds) 62 (I ((0 : Nat) : Int)) (I a)) (fun r9 h10 => f_X7_pick_32 FU h10 62 (I a) r9 (I ((0 : Nat) : Int))) := by
    unfold f_X7_pick
    rw [hg0]
    simp only [k_62, gd, lt, bd_s, if_true, if_false, reduceIte, si_uc, uc_s, uc_n, upd_s, upd_n, Nat.reduceEqDiff, ne_eq, not_false_eq_true, not_true_eq_false, uc_uc]
    rfl
  rw [e0, X_at hw hT0 (Nat.zero_le _) (AR_0 ha.1 ha.2) (by omega), bd_s]
  have hd0 : (nums may).drop 0 = nums may := rfl
  by_cases hlt : DD wt (lastU kind) (nums may) a < INF
  · obtain ⟨g', a1, a2, a3, a4, a5, a6, a7⟩ := X_pick_lp (p := p) (q := q) (w := w) (v := v) (ds := ds) (may := may) (kind := kind) hw hkind (nums may).length FU 0 g0 a 0 (FU_lt (by have := nums_len may; omega)) (by omega) hP0 hT0 (AR_0 ha.1 ha.2) hlt f0.2.2.2 (Int.le_refl _) (Int.le_refl _)
    refine ⟨g', a1, Sb.tr fS a2, hT0.keep a2 a7, ?_, ?_, ?_, ?_⟩
    · rw [a3, f0.1, PKo, if_pos hlt, hd0]; apply bt_ext; intro i hi; rw [bt_or, bt_0, Bool.false_or]
    · rw [a4, f0.2.1, PKo, if_pos hlt, hd0]; apply bt_ext; intro i hi; rw [bt_or, bt_0, Bool.false_or]
    · rw [a5, f0.2.2.1, PKo, if_pos hlt, hd0]; apply bt_ext; intro i hi; rw [bt_or, bt_0, Bool.false_or]
    · rw [a6, PKo, if_pos hlt, hd0, Int.zero_add]
  · have he : DD wt (lastU kind) (nums may) a = INF := Int.le_antisymm (DD_inf _ _) (by omega)
    refine ⟨g0, ?_, fS, hT0, ?_, ?_, ?_, ?_⟩
    · rw [hd0, he]
      obtain ⟨fu, hFU⟩ : ∃ fu, FU = fu + 1 := ⟨99999, rfl⟩
      rw [hFU]
      simp only [f_X7_pick_32, hT0.2.2.1.1]
      split
      · rfl
      · rw [if_pos (by decide)]
    · rw [f0.1, PKo, if_neg hlt]; rfl
    · rw [f0.2.1, PKo, if_neg hlt]; rfl
    · rw [f0.2.2.1, PKo, if_neg hlt]; rfl
    · rw [f0.2.2.2, PKo, if_neg hlt]; rfl
end T
