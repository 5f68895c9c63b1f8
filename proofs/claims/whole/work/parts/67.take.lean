/-! who says something has taken its numbers -/
def tkT (T : Nat → Int32) (set : Int32) (i k : Nat) : Int32 := if k = 2 then T 2 ||| b1 i else if 3 ≤ k ∧ k < 27 ∧ bt set (k - 3) = true then I (i : Int) else T k
theorem tkT_3 {T : Nat → Int32} {set : Int32} {i j : Nat} (hj : j < 24) : tkT T set i (3 + j) = if bt set j = true then I (i : Int) else T (3 + j) := by
  unfold tkT
  rw [if_neg (by omega), show 3 + j - 3 = j by omega]
  by_cases c : bt set j = true
  · rw [if_pos ⟨by omega, by omega, c⟩, if_pos c]
  · rw [if_neg (fun z => c z.2.2), if_neg c]
theorem tkT_o {T : Nat → Int32} {set : Int32} {i k : Nat} (h2 : k ≠ 2) (h : k < 3 ∨ 27 ≤ k) : tkT T set i k = T k := by
  unfold tkT
  rw [if_neg h2, if_neg (by omega)]
theorem DR_take {d0 d1 d2 T : Nat → Int32} {set : Int32} {n i : Nat} (hD : DR d0 d1 d2 T) (hn : n ≤ 24) (hl : LO n set) (hfree : ∀ j, j < 24 → bt set j = true → T (3 + j) = I (-4)) (hi : i < 6) : DR (upd d0 2 (d0 2 ||| b1 i)) (upd d1 i (d1 i ||| set)) d2 (tkT T set i) := by
  obtain ⟨a, b, c⟩ := hD
  refine ⟨⟨by rw [upd_s, a.1]; rfl, by rw [upd_n (by decide), a.2.1, tkT_o (by decide) (by omega)], by rw [upd_n (by decide), a.2.2, tkT_o (by decide) (by omega)]⟩, fun k hk j hj => ?_, fun k hk j hj => ?_⟩
  · by_cases q : j < 24
    · rw [tkT_3 q, decide_eq_true q, Bool.true_and]
      have hb := b k hk j hj
      rw [decide_eq_true q, Bool.true_and] at hb
      by_cases e : k = i
      · subst e
        rw [upd_s, bt_or, hb]
        by_cases s : bt set j = true
        · rw [s, if_pos rfl, decide_eq_true rfl, Bool.or_true]
        · rw [if_neg s, show bt set j = false by simpa using s, Bool.or_false]
      · rw [upd_n e, hb]
        by_cases s : bt set j = true
        · rw [if_pos s, hfree j q s]
          have h1 : ¬ I (-4) = I (k : Int) := fun z => I_ne4 (k := k) (by omega) z.symm
          have h2 : ¬ I (i : Int) = I (k : Int) := fun z => e ((I_eqn (a := i) (b := k) (by omega) (by omega)).mp z).symm
          rw [decide_eq_false h1, decide_eq_false h2]
        · rw [if_neg s]
    · have hb := b k hk j hj
      rw [decide_eq_false q, Bool.false_and] at hb ⊢
      by_cases e : k = i
      · subst e; rw [upd_s, bt_or, hb, hl j (by omega) hj]; rfl
      · rw [upd_n e]; exact hb
  · rw [c k hk j hj]
    by_cases q : j < 24
    · rw [tkT_o (k := 27 + j) (by omega) (by omega)]
    · rw [decide_eq_false q, Bool.false_and, Bool.false_and]
theorem DW_take {T : Nat → Int32} {set : Int32} {n np i : Nat} (hW : DW T n np) (hn : n ≤ 24) (hl : LO n set) (hi : i < np) (hnp : np ≤ 6) : DW (tkT T set i) n np := by
  obtain ⟨a, b, c, d, e⟩ := hW
  refine ⟨fun j h1 h2 => ?_, by rw [tkT_o (by decide) (by omega)]; exact b, by rw [tkT_o (by decide) (by omega)]; exact c, fun j hj => ?_, fun j hj => by rw [tkT_o (k := 27 + j) (by omega) (by omega)]; exact e j hj⟩
  · show bt (T 2 ||| b1 i) j = false
    rw [bt_or, a j h1 h2, bt_b1 (by omega) h2, decide_eq_false (by omega)]
    rfl
  · rw [tkT_3 hj]
    by_cases s : bt set j = true
    · rw [if_pos s]
      refine Or.inr ⟨?_, i, by omega, rfl⟩
      rcases Nat.lt_or_ge j n with q | q
      · exact q
      · rw [hl j q (by omega)] at s; cases s
    · rw [if_neg s]; exact d j hj
section T
variable {p q w v : Nat} {ds : Nat → Nat}
theorem X_take {g : Nat → Nat → Int32} {i : Nat} (hi : i < 6) (set : Int32) : f_X2_take (g, RF p q w v ds) 13 (I i) set = some ((), (uc (uc g 14 (upd (g 14) i (g 14 i ||| set))) 13 (upd (g 13) 2 (g 13 2 ||| b1 i)), RF p q w v ds)) := by
  have c1 : ¬ I (i : Int) < 0 := fun z => by have := (I_lt (b := 0) (by omega) (by omega)).mp z; omega
  have c2 : ¬ (6 : Int32) ≤ I (i : Int) := fun z => by have := (I_le (a := 6) (by omega) (by omega)).mp z; omega
  unfold f_X2_take
  simp only [r_13_0, r_13_1, k_13, n_13, k_14, n_14, k_15, n_15, gd, if_true, reduceIte, if_neg c1, if_neg c2, I_in (show i < 8 by omega) (show 8 < 1000000 by decide), I_ix (show i < 1000000 by omega), lt_w, uc_n (show 13 ≠ 14 by decide), b1_I (show i < 1000 by omega)]
theorem M_take_lp {n i : Nat} {set : Int32} {T : Nat → Int32} (hn : n ≤ 24) (hl : LO n set) : ∀ (r fu k : Nat) (G : Nat → Nat → Int32), r < fu → k + r = n + 1 → 1 ≤ k → G 84 0 = I n → G 86 2 = T 2 → (∀ j, j < 51 → j ≠ 2 → G 86 j = if 3 ≤ j ∧ j < k + 2 ∧ bt set (j - 3) = true then I (i : Int) else T j) →
    ∃ G', f_X12_take_2 fu (G, RF p q w v ds) 83 (I i) set (I k) = some ((), (G', RF p q w v ds)) ∧ Sb [86] G G' ∧ ∀ j, j < 51 → G' 86 j = tkT T set i j := by
  intro r
  induction r with
  | zero =>
    intro fu k G hf hk h1 h0 h2 hT
    obtain ⟨fu, rfl⟩ : ∃ k, fu = k + 1 := ⟨fu - 1, by omega⟩
    have c1 : I (n : Int) < I (k : Int) := by rw [I_ltn (by omega) (by omega)]; omega
    refine ⟨uc G 86 (upd (G 86) 2 (G 86 2 ||| ((1 : Int32) <<< (I (i : Int) &&& 31)))), ?_, Sb.rf.uc (by decide), fun j hj => ?_⟩
    · simp only [f_X12_take_2, r_83_1, r_83_2, r_83_3, r_83_4, r_83_6, r_83_8, r_83_11, r_83_13, r_83_15, r_83_19, r_83_20, r_83_21, r_83_22, r_83_24, r_83_25, r_83_26, r_83_28, r_83_29, k_83, n_83, k_84, n_84, k_85, n_85, k_86, n_86, k_87, n_87, k_88, n_88, k_89, n_89, k_90, n_90, k_91, n_91, k_92, n_92, k_93, n_93, k_94, n_94, k_95, n_95, k_96, n_96, k_97, n_97, k_98, n_98, k_99, n_99, k_100, n_100, k_101, n_101, ci_0, ci_1, ci_2, ci_3, ci_4, ii_0, ii_1, ii_2, ii_3, ii_4, id_0, id_1, id_2, gd, if_true, reduceIte, h0, if_pos c1, lt_w]
    · rw [uc_s]
      by_cases e : j = 2
      · subst e; rw [upd_s, h2]; rfl
      · rw [upd_n e, hT j hj e]
        unfold tkT
        rw [if_neg e]
        by_cases c : 3 ≤ j ∧ j < 27 ∧ bt set (j - 3) = true
        · have : j - 3 < n := by
            rcases Nat.lt_or_ge (j - 3) n with q | q
            · exact q
            · rw [hl (j - 3) q (by omega)] at c; exact absurd c.2.2 (by decide)
          rw [if_pos c, if_pos ⟨c.1, by omega, c.2.2⟩]
        · rw [if_neg c, if_neg (fun z => c ⟨z.1, by omega, z.2.2⟩)]
  | succ r ih =>
    intro fu k G hf hk h1 h0 h2 hT
    obtain ⟨fu, rfl⟩ : ∃ k, fu = k + 1 := ⟨fu - 1, by omega⟩
    have c1 : ¬ I (n : Int) < I (k : Int) := by rw [I_ltn (by omega) (by omega)]; omega
    have e1 : (2 : Int32) + I (k : Int) = I ((2 + k : Nat) : Int) := by show I ((2 : Nat) : Int) + _ = _; rw [I_k]
    simp only [f_X12_take_2, r_83_1, r_83_2, r_83_3, r_83_4, r_83_6, r_83_8, r_83_11, r_83_13, r_83_15, r_83_19, r_83_20, r_83_21, r_83_22, r_83_24, r_83_25, r_83_26, r_83_28, r_83_29, k_83, n_83, k_84, n_84, k_85, n_85, k_86, n_86, k_87, n_87, k_88, n_88, k_89, n_89, k_90, n_90, k_91, n_91, k_92, n_92, k_93, n_93, k_94, n_94, k_95, n_95, k_96, n_96, k_97, n_97, k_98, n_98, k_99, n_99, k_100, n_100, k_101, n_101, ci_0, ci_1, ci_2, ci_3, ci_4, ii_0, ii_1, ii_2, ii_3, ii_4, id_0, id_1, id_2, gd, if_true, reduceIte, h0, if_neg c1, I_p h1, M_has _ _ (show k - 1 < 32 by omega), bd_s, e1, I_in (show 2 + k < 51 by omega) (show 51 < 1000000 by decide), I_ix (show 2 + k < 1000000 by omega), I_s]
    cases hb : bt set (k - 1) with
    | false =>
      rw [if_pos (show (if false = true then (1 : Int32) else 0) = 0 by decide)]
      refine ih fu (k + 1) G (by omega) (by omega) (by omega) h0 h2 (fun j hj e => ?_)
      rw [hT j hj e]
      by_cases c : 3 ≤ j ∧ j < k + 2 ∧ bt set (j - 3) = true
      · rw [if_pos c, if_pos ⟨c.1, by omega, c.2.2⟩]
      · rw [if_neg c, if_neg (fun z => c ⟨z.1, by
          rcases Nat.lt_or_ge j (k + 2) with q | q
          · exact q
          · have : j - 3 = k - 1 := by omega
            rw [this, hb] at z; exact absurd z.2.2 (by decide), z.2.2⟩)]
    | true =>
      rw [if_neg (show ¬ (if true = true then (1 : Int32) else 0) = 0 by decide), lt_w]
      obtain ⟨G', a1, a2, a3⟩ := ih fu (k + 1) (uc G 86 (upd (G 86) (2 + k) (I i))) (by omega) (by omega) (by omega) (by rw [uc_n (by decide)]; exact h0) (by rw [uc_s, upd_n (by omega)]; exact h2) (fun j hj e => by
        rw [uc_s]
        by_cases c : j = 2 + k
        · subst c
          rw [upd_s, if_pos ⟨by omega, by omega, by rw [show 2 + k - 3 = k - 1 by omega]; exact hb⟩]
        · rw [upd_n c, hT j hj e]
          by_cases d : 3 ≤ j ∧ j < k + 2 ∧ bt set (j - 3) = true
          · rw [if_pos d, if_pos ⟨d.1, by omega, d.2.2⟩]
          · rw [if_neg d, if_neg (fun z => d ⟨z.1, by omega, z.2.2⟩)])
      exact ⟨G', a1, Sb.tr (Sb.rf.uc (by decide)) a2, a3⟩
theorem M_take {n i : Nat} {set : Int32} {G : Nat → Nat → Int32} (hn : n ≤ 24) (hl : LO n set) (h0 : G 84 0 = I n) : ∃ G', f_X12_take (G, RF p q w v ds) 83 (I i) set = some ((), (G', RF p q w v ds)) ∧ Sb [86] G G' ∧ ∀ j, j < 51 → G' 86 j = tkT (G 86) set i j := by
  obtain ⟨G', a1, a2⟩ := M_take_lp (p := p) (q := q) (w := w) (v := v) (ds := ds) (i := i) (T := G 86) hn hl n FU 1 G (FU_lt (by omega)) (by omega) (by omega) h0 rfl (fun j hj e => by rw [if_neg (by omega)])
  have a1 : f_X12_take_2 FU (G, RF p q w v ds) 83 (I i) set 1 = _ := a1
  refine ⟨G', ?_, a2⟩
  unfold f_X12_take
  revert a1
  generalize f_X12_take_2 FU = lf
  intro a1
  rw [gd_t (show kd 83 = 12 from rfl), a1]
/-- the class keeps the day, then the day changes -/
theorem X_pk {g g1 : Nat → Nat → Int32} {n np kind m : Nat} (hV : IV g p q w v ds n np kind) (s1 : Sb QC g g1) (hm : m ≤ 8) (h16 : g 16 0 = I m) (hW : ∀ k, k < m → DR (g (ds k)) (g (ds k + 1)) (g (ds k + 2)) (fun j => g 87 (51 * k + j))) :
    ∃ g2 ds', f_X3_push (g1, RF p q w v ds) 16 13 = some ((), (g2, RF p q w v ds')) ∧ DSP ds' ∧ Sb DX g g2 ∧ Sb DAYS g1 g2 ∧ g2 16 0 = I (mn m : Nat) ∧ (∀ k, k < mn m → DR (g2 (ds' k)) (g2 (ds' k + 1)) (g2 (ds' k + 2)) (Wn m (fun k j => g 87 (51 * k + j)) (g 86) k)) ∧ DR (g2 13) (g2 14) (g2 15) (g 86) := by
  have hds := hV.2.2.2.2.2.1
  obtain ⟨g2, ds', a1, a2, a3, a4, a5⟩ := X_push (p := p) (q := q) (w := w) (v := v) (g := g1) (W := fun k j => g 87 (51 * k + j)) (T := g 86) hds hm (by rw [s1 16 (by decide)]; exact h16) (fun k hk => by
    obtain ⟨t, ht, et⟩ := hds.1 k (by omega)
    have e : ∀ j, j < 3 → g1 (ds k + j) = g (ds k + j) := fun j hj => s1 _ (by unfold QC; simp only [List.mem_cons, List.not_mem_nil, or_false]; omega)
    rw [e 1 (by decide), e 2 (by decide), show g1 (ds k) = g (ds k) from e 0 (by decide)]
    exact hW k hk) (by rw [s1 13 (by decide), s1 14 (by decide), s1 15 (by decide)]; exact hV.dr) hV.dw.2.2.1
  refine ⟨g2, ds', a1, a2, Sb.tr (s1.mono (by decide)) (a3.mono (by decide)), a3, a4, a5, ?_⟩
  rw [a3 13 (by decide), a3 14 (by decide), a3 15 (by decide), s1 13 (by decide), s1 14 (by decide), s1 15 (by decide)]
  exact hV.dr
end T
theorem DRs_keep {g g' : Nat → Nat → Int32} {ds : Nat → Nat} {m : Nat} {W : Nat → Nat → Int32} {A : List Nat} (hds : DSP ds) (hS : Sb A g g') (hA : A.all (fun a => decide (¬ (18 ≤ a ∧ a ≤ 41))) = true) (h : ∀ k, k < mn m → DR (g (ds k)) (g (ds k + 1)) (g (ds k + 2)) (W k)) : ∀ k, k < mn m → DR (g' (ds k)) (g' (ds k + 1)) (g' (ds k + 2)) (W k) := by
  intro k hk
  have hk8 : k < 8 := by unfold mn at hk; split at hk <;> omega
  obtain ⟨t, ht, et⟩ := hds.1 k hk8
  have e : ∀ j, j < 3 → g' (ds k + j) = g (ds k + j) := fun j hj => hS.no hA (decide_eq_false (by omega))
  rw [e 1 (by decide), e 2 (by decide), show g' (ds k) = g (ds k) from e 0 (by decide)]
  exact h k hk
theorem my_free {n i j : Nat} {M T : Nat → Int32} (hn : n ≤ 24) (hj : j < 32) (h : bt (myM n M T i) j = true) : j < n ∧ T (3 + j) = I (-4) := by
  unfold myM at h
  rw [bt_and, Bool.and_eq_true, bt_not hj, owM_bt hn hj, tkM_bt hn hj] at h
  simp only [Bool.and_eq_true, decide_eq_true_eq, Bool.not_eq_true', Bool.and_eq_false_iff, decide_eq_false_iff_not] at h
  refine ⟨h.1.1, ?_⟩
  rcases h.2 with q | q
  · exact absurd h.1.1 q
  · exact Classical.byContradiction (fun z => q z)
