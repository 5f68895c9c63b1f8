/-! days kept and brought back -/
theorem DR.cg {d0 d1 d2 e0 e1 e2 T T' : Nat → Int32} (h : DR d0 d1 d2 T) (h0 : e0 2 = d0 2 ∧ e0 3 = d0 3 ∧ e0 4 = d0 4) (h1 : ∀ i, i < 8 → e1 i = d1 i) (h2 : ∀ i, i < 6 → e2 i = d2 i) (hT : ∀ j, j < 51 → T' j = T j) : DR e0 e1 e2 T' := by
  obtain ⟨a, b, c⟩ := h
  refine ⟨⟨by rw [h0.1, hT 2 (by decide)]; exact a.1, by rw [h0.2.1, hT 0 (by decide)]; exact a.2.1, by rw [h0.2.2, hT 1 (by decide)]; exact a.2.2⟩, fun i hi j hj => ?_, fun i hi j hj => ?_⟩
  · rw [h1 i hi, b i hi j hj]
    by_cases q : j < 24
    · rw [hT (3 + j) (by omega)]
    · rw [decide_eq_false q, Bool.false_and, Bool.false_and]
  · rw [h2 i hi, c i hi j hj]
    by_cases q : j < 24
    · rw [hT (27 + j) (by omega)]
    · rw [decide_eq_false q, Bool.false_and, Bool.false_and]
theorem DW.cg {T T' : Nat → Int32} {n np : Nat} (h : DW T n np) (hT : ∀ j, j < 51 → T' j = T j) : DW T' n np := by
  obtain ⟨a, b, c, d, e⟩ := h
  refine ⟨fun j h1 h2 => by rw [hT 2 (by decide)]; exact a j h1 h2, by rw [hT 0 (by decide)]; exact b, by rw [hT 1 (by decide)]; exact c, fun j hj => by rw [hT (3 + j) (by omega)]; exact d j hj, fun j hj => by rw [hT (27 + j) (by omega)]; exact e j hj⟩
/-- the places of days -/
def DA (a : Nat) : Prop := a = 13 ∨ (∃ t, t < 8 ∧ a = 18 + 3 * t) ∨ ∃ t, t < 2 ∧ a = 44 + 3 * t
theorem DA_b {a : Nat} (h : DA a) : a = 13 ∨ a = 18 ∨ a = 21 ∨ a = 24 ∨ a = 27 ∨ a = 30 ∨ a = 33 ∨ a = 36 ∨ a = 39 ∨ a = 44 ∨ a = 47 := by
  rcases h with h | ⟨t, h1, h2⟩ | ⟨t, h1, h2⟩ <;> omega
theorem DA_k {a : Nat} (h : DA a) (p q w v : Nat) (ds : Nat → Nat) : kd a = 2 ∧ RF p q w v ds a 0 = a + 1 ∧ RF p q w v ds a 1 = a + 2 ∧ kd (a + 1) = 13 ∧ kd (a + 2) = 13 ∧ ln (a + 1) = 8 ∧ ln (a + 2) = 6 := by
  rcases DA_b h with e | e | e | e | e | e | e | e | e | e | e <;> subst e <;> exact ⟨rfl, rfl, rfl, rfl, rfl, rfl, rfl⟩
theorem lt_c {α : Type} (g : Nat → Nat → Int32) (r : Nat → Nat → Nat) (a : Nat) (f : Nat → Int32) (K : Hp → Option α) : lt (sc (g, r) a f) K = K (uc g a f, r) := rfl
theorem ci_8 : (8 : Int32).toNatClampNeg = 8 := by decide
theorem ci_6 : (6 : Int32).toNatClampNeg = 6 := by decide
theorem cpy_in {f g : Nat → Int32} {n j : Nat} (h : j < n) : va_cpy f g 0 0 n j = f j := by
  unfold va_cpy
  rw [if_pos (by omega)]
  congr 1
  omega
theorem sr_RF (g : Nat → Nat → Int32) (p q w v : Nat) (ds : Nat → Nat) (k a : Nat) : sr (g, RF p q w v ds) 17 k a = (g, RF p q w v (fun j => if j = k then a else ds j)) := by
  unfold sr
  congr 1
  funext b j
  by_cases h : b = 17
  · subst h; rfl
  · show (if b = 17 then _ else RF p q w v ds b) j = _
    rw [if_neg h]
    unfold RF
    simp only [if_neg h]
section T
variable {p q w v : Nat} {ds : Nat → Nat}
theorem X_copy {g : Nat → Nat → Int32} {a b : Nat} (ha : DA a) (hb : DA b) (hab : a ≠ b) (hf : g b 4 = 0 ∨ g b 4 = 1) :
    ∃ g', f_X2_copy (g, RF p q w v ds) a b = some ((), (g', RF p q w v ds)) ∧ Sb [a, a + 1, a + 2] g g' ∧ (g' a 2 = g b 2 ∧ g' a 3 = g b 3 ∧ g' a 4 = g b 4) ∧ (∀ i, i < 8 → g' (a + 1) i = g (b + 1) i) ∧ (∀ i, i < 6 → g' (a + 2) i = g (b + 2) i) ∧ ∀ j, j ≠ 2 → j ≠ 3 → j ≠ 4 → g' a j = g a j := by
  obtain ⟨a1, a2, a3, a4, a5, a6, a7⟩ := DA_k ha p q w v ds
  obtain ⟨b1', b2, b3, b4, b5, b6, b7⟩ := DA_k hb p q w v ds
  have ea := DA_b ha
  have eb := DA_b hb
  obtain ⟨g1, hg1⟩ : ∃ g1, g1 = uc g (a + 1) (va_cpy (g (b + 1)) (g (a + 1)) 0 0 8) := ⟨_, rfl⟩
  have s1 : Sb [a, a + 1, a + 2] g g1 := by rw [hg1]; exact Sb.rf.uc (by simp)
  obtain ⟨g2, hg2⟩ : ∃ g2, g2 = uc g1 (a + 2) (va_cpy (g1 (b + 2)) (g1 (a + 2)) 0 0 6) := ⟨_, rfl⟩
  have s2 : Sb [a, a + 1, a + 2] g g2 := by rw [hg2]; exact s1.uc (by simp)
  have eb0 : g2 b = g b := s2 b (by simp; omega)
  have eb1 : g1 (b + 2) = g (b + 2) := s1 (b + 2) (by simp; omega)
  have ea0 : g2 a = g a := by rw [hg2, uc_n (by omega), hg1, uc_n (by omega)]
  obtain ⟨g3, hg3⟩ : ∃ g3, g3 = uc g2 a (upd (upd (upd (g a) 2 (g b 2)) 3 (g b 3)) 4 (g b 4)) := ⟨_, rfl⟩
  refine ⟨g3, ?_, by rw [hg3]; exact s2.uc (by simp), ?_, fun i hi => ?_, fun i hi => ?_, fun j h2 h3 h4 => ?_⟩
  · unfold f_X2_copy
    simp only [a1, b1', a2, b2, a4, b4, a6, b6, ci_8, Nat.le_refl, gd, if_true, reduceIte, lt_c]
    rw [← hg1]
    simp only [a3, b3, a5, b5, a7, b7, ci_6, Nat.le_refl, if_true, reduceIte]
    rw [← hg2]
    simp only [lt_w, eb0, ea0, uc_n (show b ≠ a from fun e => hab e.symm), uc_s, uc_uc, if_pos hf]
    rw [hg3]
  · rw [hg3, uc_s]
    exact ⟨by rw [upd_n (by decide), upd_n (by decide), upd_s], by rw [upd_n (by decide), upd_s], upd_s _ _ _⟩
  · rw [hg3, uc_n (by omega), hg2, uc_n (by omega), hg1, uc_s, cpy_in hi]
  · rw [hg3, uc_n (by omega), hg2, uc_s, cpy_in hi, eb1]
  · rw [hg3, uc_s, upd_n h4, upd_n h3, upd_n h2]
/-- the oldest day goes to the end -/
def rot (ds : Nat → Nat) (j : Nat) : Nat := if j < 7 then ds (j + 1) else if j = 7 then ds 0 else ds j
theorem rot_dsp {ds : Nat → Nat} (h : DSP ds) : DSP (rot ds) := by
  have key : ∀ j, j < 8 → rot ds j = ds ((j + 1) % 8) := by
    intro j hj
    unfold rot
    by_cases c : j < 7
    · rw [if_pos c, Nat.mod_eq_of_lt (by omega)]
    · rw [if_neg c, if_pos (by omega), show j = 7 by omega]
  refine ⟨fun k hk => by rw [key k hk]; exact h.1 _ (Nat.mod_lt _ (by decide)), fun j k hj hk e => ?_⟩
  rw [key j hj, key k hk] at e
  have := h.2 _ _ (Nat.mod_lt _ (by decide)) (Nat.mod_lt _ (by decide)) e
  omega
theorem X_drop_lp {d0 : Nat → Nat} (hd : ∀ k, k < 8 → kd (d0 k) = 2) : ∀ (r fu k : Nat) (g : Nat → Nat → Int32) (ds : Nat → Nat), r < fu → k + r = 8 → 1 ≤ k → (∀ j, ds j = if j + 1 < k then d0 (j + 1) else d0 j) →
    f_X3_dropOldest_9 fu (g, RF p q w v ds) 16 (d0 0) (I k) = some ((), (uc g 16 (upd (g 16) 0 (I ((7 : Nat) : Int))), RF p q w v (rot d0))) := by
  intro r
  induction r with
  | zero =>
    intro fu k g ds hf hk h1 hds
    obtain ⟨fu, rfl⟩ : ∃ k, fu = k + 1 := ⟨fu - 1, by omega⟩
    have hk8 : k = 8 := by omega
    subst hk8
    have e : (fun j => if j = 7 then d0 0 else ds j) = rot d0 := by
      funext j
      unfold rot
      rw [hds j]
      by_cases c : j = 7
      · rw [if_pos c, if_neg (by omega), if_pos c]
      · rw [if_neg c]
        by_cases c2 : j < 7
        · rw [if_pos c2, if_pos (by omega)]
        · rw [if_neg c2, if_neg c, if_neg (by omega)]
    simp only [f_X3_dropOldest_9, r_16_1, k_17, n_17, gd, if_true, reduceIte, if_pos (show nI 8 ≤ I ((8 : Nat) : Int) by decide), if_pos (show inr (nI 8 - 1) 8 = true by decide), show (nI 8 - (1 : Int32)).toNatClampNeg = 7 by decide, lt, sr_RF, e]
    rfl
  | succ r ih =>
    intro fu k g ds hf hk h1 hds
    obtain ⟨fu, rfl⟩ : ∃ k, fu = k + 1 := ⟨fu - 1, by omega⟩
    have c1 : ¬ nI 8 ≤ I (k : Int) := by rw [I_nI]; rw [I_len (by omega) (by omega)]; omega
    have nx := ih fu (k + 1) g (fun j => if j = k - 1 then ds k else ds j) (by omega) (by omega) (by omega) (fun j => by
      have hk' : ds k = d0 k := by rw [hds k, if_neg (by omega)]
      by_cases c : j = k - 1
      · rw [if_pos c, hk', if_pos (by omega)]
        congr 1; omega
      · rw [if_neg c, hds j]
        by_cases c2 : j + 1 < k
        · rw [if_pos c2, if_pos (by omega)]
        · rw [if_neg c2, if_neg (by omega)])
    have hkd : kd (ds k) = 2 := by rw [hds k, if_neg (by omega)]; exact hd k (by omega)
    rw [← nx]
    clear nx
    simp only [f_X3_dropOldest_9, r_16_1, r_17, k_17, n_17, gd, if_true, reduceIte, if_neg c1, I_in (show k < 8 by omega) (show 8 < 1000000 by decide), I_ix (show k < 1000000 by omega), hkd, I_p h1, I_in (show k - 1 < 8 by omega) (show 8 < 1000000 by decide), I_ix (show k - 1 < 1000000 by omega), lt, sr_RF, I_s]
end T
