/-! the table: its rows -/
def tix (k : Nat) (s : Int) : Nat := ((k : Int) * 601 + 300 + s).toNat
theorem tix_inj {k k' : Nat} {s s' : Int} (h : -300 ≤ s ∧ s ≤ 300) (h' : -300 ≤ s' ∧ s' ≤ 300) (e : tix k s = tix k' s') : k = k' ∧ s = s' := by
  unfold tix at e
  have e2 : (k : Int) * 601 + 300 + s = (k' : Int) * 601 + 300 + s' := by omega
  have : (k : Int) = k' := by omega
  exact ⟨by omega, by omega⟩
/-- row k holds F between lo and hi -/
def Rw (g : Nat → Nat → Int32) (k : Nat) (lo hi : Int) (F : Int → Int) : Prop := ∀ s, lo ≤ s → s ≤ hi → g 63 (tix k s) = I (F s) ∧ 0 ≤ F s ∧ F s ≤ INF
theorem Rw.congr {g : Nat → Nat → Int32} {k : Nat} {lo hi : Int} {F F' : Int → Int} (h : Rw g k lo hi F) (e : ∀ s, lo ≤ s → s ≤ hi → F' s = F s) : Rw g k lo hi F' := fun s h1 h2 => by rw [e s h1 h2]; exact h s h1 h2
theorem Rw.kept {g g' : Nat → Nat → Int32} {k : Nat} {lo hi : Int} {F : Int → Int} (h : Rw g k lo hi F) (e : ∀ s, lo ≤ s → s ≤ hi → g' 63 (tix k s) = g 63 (tix k s)) : Rw g' k lo hi F := fun s h1 h2 => by rw [e s h1 h2]; exact h s h1 h2
section T
variable {p q w v : Nat} {ds : Nat → Nat}
theorem X_spr_lp (k : Nat) (c wgt b lo hi lo' hi' : Int) (F' : Int → Int) (hk : k + 1 ≤ 24) (hlo : -300 ≤ lo) (hhi : hi ≤ 300) (hlo' : -300 ≤ lo') (hhi' : hi' ≤ 300) (hb1 : b ≤ hi) (hb2 : b ≤ hi' + c) (hb3 : -1000 ≤ b) (hc : -24 ≤ c ∧ c ≤ 24) (hw0 : 0 ≤ wgt) (hw1 : wgt ≤ 2000) :
    ∀ (m fu : Nat) (a : Int) (g : Nat → Nat → Int32) (F : Int → Int), m < fu → b + 1 - a ≤ m → lo ≤ a → lo' + c ≤ a → a ≤ 1000 → Rw g k lo hi F → Rw g (k + 1) lo' hi' F' →
    ∃ g', f_X7_spread_63 fu (g, RF p q w v ds) 62 (I wgt) (I b) (I ((k : Int) * 601 + 300)) (I ((k : Int) * 601 + 300 + 601 - c)) (I a) = some ((), (g', RF p q w v ds)) ∧ Sb [63] g g' ∧
      Rw g' k lo hi (fun s => if a ≤ s ∧ s ≤ b then min (F s) (F' (s - c) + wgt) else F s) ∧ (∀ j, (∀ s, lo ≤ s → s ≤ hi → j ≠ tix k s) → g' 63 j = g 63 j) := by
  have fin : ∀ (fu : Nat) (a : Int) (g : Nat → Nat → Int32) (F : Int → Int), b < a → a ≤ 1000 → Rw g k lo hi F →
      ∃ g', f_X7_spread_63 (fu + 1) (g, RF p q w v ds) 62 (I wgt) (I b) (I ((k : Int) * 601 + 300)) (I ((k : Int) * 601 + 300 + 601 - c)) (I a) = some ((), (g', RF p q w v ds)) ∧ Sb [63] g g' ∧
      Rw g' k lo hi (fun s => if a ≤ s ∧ s ≤ b then min (F s) (F' (s - c) + wgt) else F s) ∧ (∀ j, (∀ s, lo ≤ s → s ≤ hi → j ≠ tix k s) → g' 63 j = g 63 j) := by
    intro fu a g F hba ha hR
    have c1 : I b < I a := (I_lt (by omega) (by omega)).mpr hba
    refine ⟨g, by simp only [f_X7_spread_63, if_pos c1], Sb.rf, hR.congr (fun s h1 h2 => ?_), fun _ _ => rfl⟩
    rw [if_neg (by omega)]
  intro m
  induction m with
  | zero =>
    intro fu a g F hf hm ha ha' ha2 hR hR'
    obtain ⟨fu, rfl⟩ : ∃ k, fu = k + 1 := ⟨fu - 1, by omega⟩
    exact fin fu a g F (by omega) ha2 hR
  | succ m ih =>
    intro fu a g F hf hm ha ha' ha2 hR hR'
    obtain ⟨fu, rfl⟩ : ∃ k, fu = k + 1 := ⟨fu - 1, by omega⟩
    by_cases hab : b < a
    · exact fin fu a g F hab ha2 hR
    · have c1 : ¬ I b < I a := fun z => hab ((I_lt (by omega) (by omega)).mp z)
      obtain ⟨y1, y2, y3⟩ := hR a ha (by omega)
      obtain ⟨z1, z2, z3⟩ := hR' (a - c) (by omega) (by omega)
      have hI : INF = 1000000 := rfl
      have e1 : ((k : Int) * 601 + 300 + 601 - c + a).toNat = tix (k + 1) (a - c) := by unfold tix; omega
      have e2 : ((k : Int) * 601 + 300 + a).toNat = tix k a := rfl
      have i1 : inr (I ((k : Int) * 601 + 300 + 601 - c + a)) 15025 = true := I_inr (by omega) (by omega) (by omega)
      have i2 : inr (I ((k : Int) * 601 + 300 + a)) 15025 = true := I_inr (by omega) (by omega) (by omega)
      have l1 : (I ((k : Int) * 601 + 300 + 601 - c + a)).toNatClampNeg = tix (k + 1) (a - c) := by rw [I_cl (by omega) (by omega), e1]
      have l2 : (I ((k : Int) * 601 + 300 + a)).toNatClampNeg = tix k a := by rw [I_cl (by omega) (by omega), e2]
      have step : f_X7_spread_63 (fu + 1) (g, RF p q w v ds) 62 (I wgt) (I b) (I ((k : Int) * 601 + 300)) (I ((k : Int) * 601 + 300 + 601 - c)) (I a) = if I (F a) ≤ I (F' (a - c) + wgt) then f_X7_spread_63 fu (g, RF p q w v ds) 62 (I wgt) (I b) (I ((k : Int) * 601 + 300)) (I ((k : Int) * 601 + 300 + 601 - c)) (I (a + 1)) else f_X7_spread_63 fu (uc g 63 (upd (g 63) (tix k a) (I (F' (a - c) + wgt))), RF p q w v ds) 62 (I wgt) (I b) (I ((k : Int) * 601 + 300)) (I ((k : Int) * 601 + 300 + 601 - c)) (I (a + 1)) := by
        simp only [f_X7_spread_63, if_neg c1, r_61_0, r_61_1, r_61_2, r_61_3, r_61_4, r_61_5, r_61_6, r_61_7, r_62_4, r_62_5, r_62_6, r_62_7, r_62_8, k_61, n_61, k_62, n_62, k_63, n_63, k_64, n_64, k_65, n_65, k_66, n_66, k_67, n_67, k_68, n_68, k_69, n_69, k_70, n_70, k_71, n_71, k_72, n_72, k_73, n_73, k_74, n_74, gd, lt, bd_s, if_true, if_false, reduceIte, si_uc, uc_s, uc_n, upd_s, upd_n, Nat.reduceEqDiff, ne_eq, not_false_eq_true, not_true_eq_false, I_add, i1, i2, l1, l2, y1, z1, I_lit]
      rw [step]
      by_cases hle : F a ≤ F' (a - c) + wgt
      · rw [if_pos ((I_le (by omega) (by omega)).mpr hle)]
        obtain ⟨g', q1, q2, q3, q4⟩ := ih fu (a + 1) g F (by omega) (by omega) (by omega) (by omega) (by omega) hR hR'
        refine ⟨g', q1, q2, q3.congr (fun s h1 h2 => ?_), q4⟩
        by_cases hs : s = a
        · subst hs
          rw [if_pos (by omega), if_neg (by omega), Int.min_eq_left hle]
        · by_cases h3 : a ≤ s ∧ s ≤ b
          · rw [if_pos h3, if_pos (by omega)]
          · rw [if_neg h3, if_neg (by omega)]
      · rw [if_neg (fun z => hle ((I_le (by omega) (by omega)).mp z))]
        have hR2 : Rw (uc g 63 (upd (g 63) (tix k a) (I (F' (a - c) + wgt)))) k lo hi (fun s => if s = a then F' (a - c) + wgt else F s) := by
          intro s h1 h2
          rw [uc_s]
          by_cases hs : s = a
          · subst hs
            dsimp only
            rw [upd_s, if_pos rfl]
            exact ⟨rfl, by omega, by omega⟩
          · dsimp only
            rw [if_neg hs, upd_n (fun z => hs (tix_inj (by omega) (by omega) z).2)]
            exact hR s h1 h2
        have hR3 : Rw (uc g 63 (upd (g 63) (tix k a) (I (F' (a - c) + wgt)))) (k + 1) lo' hi' F' := hR'.kept (fun s h1 h2 => by
          rw [uc_s, upd_n (fun z => by have := (tix_inj (by omega) (by omega) z).1; omega)])
        obtain ⟨g', q1, q2, q3, q4⟩ := ih fu (a + 1) _ _ (by omega) (by omega) (by omega) (by omega) (by omega) hR2 hR3
        refine ⟨g', q1, Sb.tr (Sb.rf.uc (by decide)) q2, q3.congr (fun s h1 h2 => ?_), fun j hj => ?_⟩
        · by_cases hs : s = a
          · subst hs
            rw [if_pos (by omega), if_neg (by omega), if_pos rfl, Int.min_eq_right (by omega)]
          · rw [if_neg hs]
            by_cases h3 : a ≤ s ∧ s ≤ b
            · rw [if_pos h3, if_pos (by omega)]
            · rw [if_neg h3, if_neg (by omega)]
        · rw [q4 j hj, uc_s, upd_n (hj a ha (by omega))]
theorem X_spread {g : Nat → Nat → Int32} {k : Nat} {c wgt lo hi lo' hi' : Int} {F F' : Int → Int} (hk : k + 1 ≤ 24) (hlo : -300 ≤ lo) (hhi : hi ≤ 300) (hh0 : 0 ≤ hi) (hlo2 : lo ≤ 300) (hlo' : -300 ≤ lo') (hhi' : hi' ≤ 300) (hh0' : 0 ≤ hi') (hlo2' : lo' ≤ 300) (hc : -24 ≤ c ∧ c ≤ 24) (hw0 : 0 ≤ wgt) (hw1 : wgt ≤ 2000)
    (b1 : g 64 k = I lo) (b2 : g 65 k = I hi) (b3 : g 64 (k + 1) = I lo') (b4 : g 65 (k + 1) = I hi') (hR : Rw g k lo hi F) (hR' : Rw g (k + 1) lo' hi' F') :
    ∃ g', f_X7_spread (g, RF p q w v ds) 62 (I k) (I c) (I wgt) = some ((), (g', RF p q w v ds)) ∧ Sb [63] g g' ∧ Rw g' k lo hi (fun s => if lo' ≤ s - c ∧ s - c ≤ hi' then min (F s) (F' (s - c) + wgt) else F s) ∧ (∀ j, (∀ s, lo ≤ s → s ≤ hi → j ≠ tix k s) → g' 63 j = g 63 j) := by
  have ek : (I (k : Int)).toNatClampNeg = k := by rw [I_cl (by omega) (by omega)]; omega
  have ek1 : (I ((k : Int) + 1)).toNatClampNeg = k + 1 := by rw [I_cl (by omega) (by omega)]; omega
  have i1 : inr (I (k : Int)) 25 = true := I_inr (by omega) (by omega) (by omega)
  have i2 : inr (I ((k : Int) + 1)) 25 = true := I_inr (by omega) (by omega) (by omega)
  have step : f_X7_spread (g, RF p q w v ds) 62 (I k) (I c) (I wgt) = f_X7_spread_63 FU (g, RF p q w v ds) 62 (I wgt) (I (min hi (hi' + c))) (I ((k : Int) * 601 + 300)) (I ((k : Int) * 601 + 300 + 601 - c)) (I (max lo (lo' + c))) := by
    unfold f_X7_spread
    simp only [r_61_0, r_61_1, r_61_2, r_61_3, r_61_4, r_61_5, r_61_6, r_61_7, r_62_4, r_62_5, r_62_6, r_62_7, r_62_8, k_61, n_61, k_62, n_62, k_63, n_63, k_64, n_64, k_65, n_65, k_66, n_66, k_67, n_67, k_68, n_68, k_69, n_69, k_70, n_70, k_71, n_71, k_72, n_72, k_73, n_73, k_74, n_74, gd, lt, bd_s, if_true, if_false, reduceIte, si_uc, uc_s, uc_n, upd_s, upd_n, Nat.reduceEqDiff, ne_eq, not_false_eq_true, not_true_eq_false, I_lit, I_add, I_mul, I_sub, i1, i2, ek, ek1, b1, b2, b3, b4]
    rw [I_min (by omega) (by omega), I_max (by omega) (by omega)]
  rw [step]
  obtain ⟨g', q1, q2, q3, q4⟩ := X_spr_lp (p := p) (q := q) (w := w) (v := v) (ds := ds) k c wgt (min hi (hi' + c)) lo hi lo' hi' F' hk hlo hhi hlo' hhi' (by omega) (by omega) (by omega) hc hw0 hw1 2000 FU (max lo (lo' + c)) g F (FU_lt (by omega)) (by omega) (by omega) (by omega) (by omega) hR hR'
  refine ⟨g', q1, q2, q3.congr (fun s h1 h2 => ?_), q4⟩
  by_cases h3 : lo' ≤ s - c ∧ s - c ≤ hi'
  · rw [if_pos h3, if_pos (by omega)]
  · rw [if_neg h3, if_neg (by omega)]
end T
