/-! the scene as it is now -/
theorem lt_w {α : Type} (g : Nat → Nat → Int32) (r : Nat → Nat → Nat) (a k : Nat) (v : Int32) (K : Hp → Option α) : lt (si (g, r) a k v) K = K (uc g a (upd (g a) k v), r) := rfl
section T
variable {p q w v : Nat} {ds : Nat → Nat}
theorem X_own_lp {a : Nat} (hp : p = 5 ∨ p = 9) : ∀ (m fu i : Nat) (g : Nat → Nat → Int32), m < fu → i + m = 6 → (∀ j, j < i → g 77 j = g (p + 2) j) →
    ∃ g', f_X6_setFree_53 fu (g, RF p q w v ds) 75 p (I i) = some ((), (g', RF p q w v ds)) ∧ Sb [77] g g' ∧ ∀ j, j < 6 → g' 77 j = g (p + 2) j := by
  intro m
  induction m with
  | zero =>
    intro fu i g hf hi hE
    obtain ⟨fu, rfl⟩ : ∃ k, fu = k + 1 := ⟨fu - 1, by omega⟩
    have c1 : (6 : Int32) ≤ I (i : Int) := (I_le (a := 6) (by omega) (by omega)).mpr (by omega)
    refine ⟨g, ?_, Sb.rf, fun j hj => hE j (by omega)⟩
    simp only [f_X6_setFree_53, if_pos c1]
  | succ m ih =>
    intro fu i g hf hi hE
    obtain ⟨fu, rfl⟩ : ∃ k, fu = k + 1 := ⟨fu - 1, by omega⟩
    have c1 : ¬ (6 : Int32) ≤ I (i : Int) := fun z => by have := (I_le (a := 6) (by omega) (by omega)).mp z; omega
    have hne : p + 2 ≠ 77 := by omega
    obtain ⟨g', h1, h2, h3⟩ := ih fu (i + 1) (uc g 77 (upd (g 77) i (g (p + 2) i))) (by omega) (by omega) (fun j hj => by
      rw [uc_s, uc_n hne]
      by_cases e : j = i
      · subst e; rw [upd_s]
      · rw [upd_n e]; exact hE j (by omega))
    refine ⟨g', ?_, Sb.tr (Sb.rf.uc (by decide)) h2, fun j hj => by rw [h3 j hj, uc_n hne]⟩
    rw [← h1]
    rcases hp with rfl | rfl <;> simp only [f_X6_setFree_53, if_neg c1, r_75_5, r_75_6, r_78_5, r_78_6, r_78_7, r_78_8, r_78_9, k_75, n_75, k_76, n_76, k_77, n_77, k_78, n_78, k_79, n_79, k_80, n_80, k_81, n_81, k_82, n_82, r_5_5, r_5_6, r_5_7, r_9_5, r_9_6, r_9_7, k_5, n_5, k_6, n_6, k_7, n_7, k_8, n_8, k_9, n_9, k_10, n_10, k_11, n_11, k_12, n_12, gd, lt, bd_s, if_true, if_false, reduceIte, si_uc, uc_s, uc_n, upd_s, upd_n, Nat.reduceEqDiff, ne_eq, not_false_eq_true, not_true_eq_false, I_in (show i < 6 by omega) (show 6 < 1000000 by omega), I_ix (show i < 1000000 by omega), I_s]
theorem X_free {g : Nat → Nat → Int32} {M : Nat → Int32} {n np kind : Nat} (hp : p = 5 ∨ p = 9) (hM : PW M n np kind) (hR : PR (g p) (g (p + 1)) (g (p + 2)) (g (p + 3)) M) :
    ∃ g', f_X6_setFree (g, RF p q w v ds) 75 p = some ((), (g', RF p q w v ds)) ∧ Sb [75, 77] g g' ∧ g' 75 0 = allM np ∧ g' 75 1 = allM n ∧ g' 75 2 = 0 ∧ g' 75 3 = allM n &&& (orr 6 (g (p + 2)) ^^^ (-1)) ∧ g' 75 4 = I kind ∧ ∀ i, i < 6 → g' 77 i = g (p + 2) i := by
  obtain ⟨m0, m1, m2, m3, m4, m5, -⟩ := hM
  have e0 : g p 0 = I n := by rw [hR.1 0 (by decide)]; exact m0
  have e1 : g p 1 = I np := by rw [hR.1 1 (by decide)]; exact m2
  have e2 : g p 2 = I kind := by rw [hR.1 2 (by decide)]; exact m4
  obtain ⟨g1, hg1⟩ : ∃ g1, g1 = uc g 75 (upd (upd (upd (upd (upd (g 75) 0 (allM np)) 1 (allM n)) 2 0) 3 (allM n &&& (orr 6 (g (p + 2)) ^^^ (-1)))) 4 (I kind)) := ⟨_, rfl⟩
  have s1 : Sb [75] g g1 := by rw [hg1]; exact Sb.rf.uc (by decide)
  have np2 : p + 2 ∉ [75] := by simp only [List.mem_singleton]; omega
  obtain ⟨g', h1, h2, h3⟩ := X_own_lp (a := 0) (q := q) (w := w) (v := v) (ds := ds) hp 6 FU 0 g1 (FU_lt (by omega)) (by omega) (fun j hj => absurd hj (by omega))
  have k5 : ∀ j, g' 75 j = g1 75 j := fun j => by rw [h2 75 (by decide)]
  refine ⟨g', ?_, Sb.tr (s1.mono (by decide)) (h2.mono (by decide)), ?_, ?_, ?_, ?_, ?_, fun i hi => by rw [h3 i hi, s1 _ np2]⟩
  · have tg : ∀ G : Nat → Nat → Int32, f_X11_together (G, RF p q w v ds) (p + 2) = some (orr 6 (G (p + 2)), (G, RF p q w v ds)) := fun G => by
      rcases hp with rfl | rfl
      · exact X_together (a := 7) rfl rfl (by decide)
      · exact X_together (a := 11) rfl rfl (by decide)
    rw [show I ((0 : Nat) : Int) = (0 : Int32) from rfl] at h1
    unfold f_X6_setFree f_X4_all
    revert h1 tg
    generalize f_X11_together = tgf
    generalize f_X6_setFree_53 FU = lpf
    intro h1 tg
    rw [← h1, hg1]
    unfold allM
    rcases hp with rfl | rfl
    · simp only [Nat.reduceAdd] at tg e0 e1 e2 ⊢
      simp only [r_75_5, r_75_6, r_78_5, r_78_6, r_78_7, r_78_8, r_78_9, k_75, n_75, k_76, n_76, k_77, n_77, k_78, n_78, k_79, n_79, k_80, n_80, k_81, n_81, k_82, n_82, r_5_5, r_5_6, r_5_7, r_9_5, r_9_6, r_9_7, k_5, n_5, k_6, n_6, k_7, n_7, k_8, n_8, k_9, n_9, k_10, n_10, k_11, n_11, k_12, n_12, gd, if_true, reduceIte, e1]
      generalize ((1 : Int32) <<< (I (np : Int) &&& 31)) - 1 = A
      rw [lt_w]
      simp only [uc_n (show 5 ≠ 75 by decide), e0]
      generalize ((1 : Int32) <<< (I (n : Int) &&& 31)) - 1 = B
      rw [bd_s, lt_w, lt_w]
      simp only [uc_s, uc_uc, upd_n (show 1 ≠ 2 by decide), upd_s, r_5_5, r_5_6, r_5_7, r_9_5, r_9_6, r_9_7, k_5, n_5, k_6, n_6, k_7, n_7, k_8, n_8, k_9, n_9, k_10, n_10, k_11, n_11, k_12, n_12, if_true, reduceIte]
      rw [tg, bd_s]
      simp only [uc_n (show 7 ≠ 75 by decide)]
      generalize B &&& (orr 6 (g 7) ^^^ -1) = C
      rw [lt_w, lt_w]
      simp only [uc_s, uc_uc, uc_n (show 5 ≠ 75 by decide), e2]
    · simp only [Nat.reduceAdd] at tg e0 e1 e2 ⊢
      simp only [r_75_5, r_75_6, r_78_5, r_78_6, r_78_7, r_78_8, r_78_9, k_75, n_75, k_76, n_76, k_77, n_77, k_78, n_78, k_79, n_79, k_80, n_80, k_81, n_81, k_82, n_82, r_5_5, r_5_6, r_5_7, r_9_5, r_9_6, r_9_7, k_5, n_5, k_6, n_6, k_7, n_7, k_8, n_8, k_9, n_9, k_10, n_10, k_11, n_11, k_12, n_12, gd, if_true, reduceIte, e1]
      generalize ((1 : Int32) <<< (I (np : Int) &&& 31)) - 1 = A
      rw [lt_w]
      simp only [uc_n (show 9 ≠ 75 by decide), e0]
      generalize ((1 : Int32) <<< (I (n : Int) &&& 31)) - 1 = B
      rw [bd_s, lt_w, lt_w]
      simp only [uc_s, uc_uc, upd_n (show 1 ≠ 2 by decide), upd_s, r_5_5, r_5_6, r_5_7, r_9_5, r_9_6, r_9_7, k_5, n_5, k_6, n_6, k_7, n_7, k_8, n_8, k_9, n_9, k_10, n_10, k_11, n_11, k_12, n_12, if_true, reduceIte]
      rw [tg, bd_s]
      simp only [uc_n (show 11 ≠ 75 by decide)]
      generalize B &&& (orr 6 (g 11) ^^^ -1) = C
      rw [lt_w, lt_w]
      simp only [uc_s, uc_uc, uc_n (show 9 ≠ 75 by decide), e2]
  · rw [k5, hg1, uc_s, upd_n (by decide), upd_n (by decide), upd_n (by decide), upd_n (by decide), upd_s]
  · rw [k5, hg1, uc_s, upd_n (by decide), upd_n (by decide), upd_n (by decide), upd_s]
  · rw [k5, hg1, uc_s, upd_n (by decide), upd_n (by decide), upd_s]
  · rw [k5, hg1, uc_s, upd_n (by decide), upd_s]
  · rw [k5, hg1, uc_s, upd_s]
theorem X_now_lp (hp : p = 5 ∨ p = 9) : ∀ (m fu i : Nat) (g : Nat → Nat → Int32) (o : Nat → Int32), m < fu → i + m = 6 → (∀ j, j < i → g 77 j = o j ||| g 15 j ∧ g 76 j = g (p + 3) j) → (∀ j, i ≤ j → g 77 j = o j) →
    ∃ g', f_X6_setNow_30 fu (g, RF p q w v ds) 75 p 13 (I i) = some ((), (g', RF p q w v ds)) ∧ Sb [76, 77] g g' ∧ ∀ j, j < 6 → g' 77 j = o j ||| g 15 j ∧ g' 76 j = g (p + 3) j := by
  intro m
  induction m with
  | zero =>
    intro fu i g o hf hi hE hF
    obtain ⟨fu, rfl⟩ : ∃ k, fu = k + 1 := ⟨fu - 1, by omega⟩
    have c1 : (6 : Int32) ≤ I (i : Int) := (I_le (a := 6) (by omega) (by omega)).mpr (by omega)
    refine ⟨g, ?_, Sb.rf, fun j hj => hE j (by omega)⟩
    simp only [f_X6_setNow_30, if_pos c1]
  | succ m ih =>
    intro fu i g o hf hi hE hF
    obtain ⟨fu, rfl⟩ : ∃ k, fu = k + 1 := ⟨fu - 1, by omega⟩
    have c1 : ¬ (6 : Int32) ≤ I (i : Int) := fun z => by have := (I_le (a := 6) (by omega) (by omega)).mp z; omega
    have n7 : p + 3 ≠ 77 := by omega
    have n6 : p + 3 ≠ 76 := by omega
    obtain ⟨g2, hg2⟩ : ∃ g2, g2 = uc (uc g 77 (upd (g 77) i (g 77 i ||| g 15 i))) 76 (upd (g 76) i (g (p + 3) i)) := ⟨_, rfl⟩
    have a77 : g2 77 = upd (g 77) i (g 77 i ||| g 15 i) := by rw [hg2, uc_n (by decide), uc_s]
    have a76 : g2 76 = upd (g 76) i (g (p + 3) i) := by rw [hg2, uc_s]
    have a15 : g2 15 = g 15 := by rw [hg2, uc_n (by decide), uc_n (by decide)]
    have ap : g2 (p + 3) = g (p + 3) := by rw [hg2, uc_n n6, uc_n n7]
    have s2 : Sb [76, 77] g g2 := by rw [hg2]; exact (Sb.rf.uc (by decide)).uc (by decide)
    obtain ⟨g', h1, h2, h3⟩ := ih fu (i + 1) g2 o (by omega) (by omega) (fun j hj => by
      rw [a77, a76, a15, ap]
      by_cases e : j = i
      · subst e; rw [upd_s, upd_s, hF j (Nat.le_refl _)]; exact ⟨rfl, rfl⟩
      · rw [upd_n e, upd_n e]; exact hE j (by omega)) (fun j hj => by rw [a77, upd_n (by omega)]; exact hF j (by omega))
    refine ⟨g', ?_, Sb.tr s2 h2, fun j hj => by rw [(h3 j hj).1, (h3 j hj).2, a15, ap]; exact ⟨rfl, rfl⟩⟩
    rw [← h1, hg2]
    rcases hp with rfl | rfl <;> simp only [f_X6_setNow_30, if_neg c1, r_75_5, r_75_6, r_78_5, r_78_6, r_78_7, r_78_8, r_78_9, k_75, n_75, k_76, n_76, k_77, n_77, k_78, n_78, k_79, n_79, k_80, n_80, k_81, n_81, k_82, n_82, r_5_5, r_5_6, r_5_7, r_9_5, r_9_6, r_9_7, k_5, n_5, k_6, n_6, k_7, n_7, k_8, n_8, k_9, n_9, k_10, n_10, k_11, n_11, k_12, n_12, r_13_0, r_13_1, k_13, n_13, k_14, n_14, k_15, n_15, gd, lt, bd_s, if_true, if_false, reduceIte, si_uc, uc_s, uc_n, upd_s, upd_n, Nat.reduceEqDiff, ne_eq, not_false_eq_true, not_true_eq_false, I_in (show i < 6 by omega) (show 6 < 1000000 by omega), I_ix (show i < 1000000 by omega), I_s]
/-- how things stand, in all that a question needs -/
def XI (g : Nat → Nat → Int32) (p : Nat) (M T : Nat → Int32) (n np kind : Nat) : Prop := (p = 5 ∨ p = 9) ∧ PW M n np kind ∧ DW T n np ∧ PR (g p) (g (p + 1)) (g (p + 2)) (g (p + 3)) M ∧ DR (g 13) (g 14) (g 15) T ∧ SX M n g
/-- the cells of the sayings, the scene and the crowd -/
def QC : List Nat := [61, 62, 63, 64, 65, 66, 68, 69, 70, 71, 72, 73, 74, 75, 76, 77, 78, 79, 80, 81, 82]
theorem XI.keep {g g' : Nat → Nat → Int32} {p : Nat} {M T : Nat → Int32} {n np kind : Nat} (h : XI g p M T n np kind) (hS : Sb QC g g') (hX : SX M n g') : XI g' p M T n np kind := by
  obtain ⟨hp, hM, hD, hR, hE, -⟩ := h
  refine ⟨hp, hM, hD, ?_, ?_, hX⟩
  · have e : ∀ k, k < 4 → g' (p + k) = g (p + k) := fun k hk => hS _ (by rcases hp with rfl | rfl <;> (have : k = 0 ∨ k = 1 ∨ k = 2 ∨ k = 3 := by omega) <;> rcases this with rfl | rfl | rfl | rfl <;> decide)
    rw [e 1 (by decide), e 2 (by decide), e 3 (by decide), show g' p = g p from e 0 (by decide)]
    exact hR
  · rw [hS 13 (by decide), hS 14 (by decide), hS 15 (by decide)]
    exact hE
theorem SX.sc {g g' : Nat → Nat → Int32} {M : Nat → Int32} {n : Nat} (h : SX M n g) (hS : Sb [75, 76, 77, 78, 79, 80, 81, 82] g g') : SX M n g' := by
  obtain ⟨h1, h2, h3, h4⟩ := h
  refine ⟨fun x u a b c d => by rw [hS 67 (by decide)]; exact h1 x u a b c d, ?_, fun a s x1 x2 x3 x4 => ?_, fun a x1 x2 => by rw [hS 74 (by decide)]; exact h4 a x1 x2⟩
  · exact h2.same (hS 62 (by decide)) (hS 63 (by decide)) (hS 64 (by decide)) (hS 65 (by decide)) (hS 66 (by decide))
  · have := h3 a s x1 x2 x3 x4
    unfold SLT ENT at *
    simp only [hS 68 (by decide), hS 69 (by decide), hS 70 (by decide), hS 71 (by decide), hS 72 (by decide), hS 73 (by decide)]
    exact this
/-- those who have not spoken -/
def slM (np : Nat) (T : Nat → Int32) : Int32 := allM np &&& (T 2 ^^^ (-1))
theorem slM_lo {np : Nat} {T : Nat → Int32} (h : np ≤ 6) : LO np (slM np T) := LO_and (fun i h1 h2 => by rw [bt_all (by omega) h2]; exact decide_eq_false (by omega)) _
theorem X_tk0 (g : Nat → Nat → Int32) : f_X2_taken (g, RF p q w v ds) 13 = some (orr 8 (g 14), (g, RF p q w v ds)) := by
  unfold f_X2_taken
  simp only [r_13_0, r_13_1, k_13, n_13, k_14, n_14, k_15, n_15, gd, lt, bd_s, if_true, if_false, reduceIte, si_uc, uc_s, uc_n, upd_s, upd_n, Nat.reduceEqDiff, ne_eq, not_false_eq_true, not_true_eq_false, X_together (g := g) (p := p) (q := q) (w := w) (v := v) (ds := ds) (a := 14) (m := 8) rfl rfl (by decide)]
theorem X_setNow {g : Nat → Nat → Int32} {M T : Nat → Int32} {n np kind : Nat} (h : XI g p M T n np kind) :
    ∃ g', f_X6_setNow (g, RF p q w v ds) 75 p 13 = some ((), (g', RF p q w v ds)) ∧ Sb [75, 76, 77] g g' ∧ SC g' M n (slM np T) kind (owM n M T 0) (am M) ∧ g' 75 1 = allM n ∧ g' 75 2 = tkM n T := by
  obtain ⟨hp, hM, hD, hR, hE, hX⟩ := h
  obtain ⟨g1, f1, f2, f3, f4, f5, f6, f7, f8⟩ := X_free (q := q) (w := w) (v := v) (ds := ds) hp hM hR
  obtain ⟨g2, hg2⟩ : ∃ g2, g2 = uc g1 75 (upd (upd (g1 75) 0 (slM np T)) 2 (tkM n T)) := ⟨_, rfl⟩
  have s2 : Sb [75] g1 g2 := by rw [hg2]; exact Sb.rf.uc (by decide)
  have a13 : g1 13 = g 13 := f2 13 (by decide)
  have a14 : g1 14 = g 14 := f2 14 (by decide)
  obtain ⟨g', h1, h2, h3⟩ := X_now_lp (q := q) (w := w) (v := v) (ds := ds) hp 6 FU 0 g2 (g1 77) (FU_lt (by omega)) (by omega) (fun j hj => absurd hj (by omega)) (fun j _ => by rw [s2 77 (by decide)])
  have k5 : ∀ j, g' 75 j = g2 75 j := fun j => by rw [h2 75 (by decide)]
  have b15 : g2 15 = g 15 := by rw [s2 15 (by decide), f2 15 (by decide)]
  have bp : g2 (p + 3) = g (p + 3) := by rw [s2 (p + 3) (by simp only [List.mem_singleton]; omega), f2 (p + 3) (by simp only [List.mem_cons, List.not_mem_nil, or_false]; omega)]
  have tk := tk_eq hM.2.1.2 hE hD
  refine ⟨g', ?_, Sb.tr (Sb.tr (f2.mono (by decide)) (s2.mono (by decide))) (h2.mono (by decide)), ⟨?_, ?_, hM.2.2.2.2.2.1, fun i hi => ⟨?_, LO_mk hM.2.1.2 _⟩, fun i hi hb => ?_⟩, ?_, ?_⟩
  · have tg : ∀ G : Nat → Nat → Int32, f_X2_taken (G, RF p q w v ds) 13 = some (orr 8 (G 14), (G, RF p q w v ds)) := fun G => X_tk0 G
    have e2 : g 13 2 = T 2 := hE.1.1
    have kp : kd p = 4 := by rcases hp with rfl | rfl <;> rfl
    rw [show I ((0 : Nat) : Int) = (0 : Int32) from rfl] at h1
    unfold f_X6_setNow
    revert h1 tg f1
    generalize f_X2_taken = tgf
    generalize f_X6_setFree = frf
    generalize f_X6_setNow_30 FU = lpf
    intro f1 h1 tg
    rw [← h1, hg2]
    simp only [kp, r_75_5, r_75_6, r_78_5, r_78_6, r_78_7, r_78_8, r_78_9, k_75, n_75, k_76, n_76, k_77, n_77, k_78, n_78, k_79, n_79, k_80, n_80, k_81, n_81, k_82, n_82, r_13_0, r_13_1, k_13, n_13, k_14, n_14, k_15, n_15, gd, if_true, reduceIte, f1]
    rw [bd_s]
    simp only [f3, a13, e2]
    unfold slM
    generalize hA : allM np &&& (T 2 ^^^ -1) = A
    rw [lt_w, tg, bd_s, uc_n (show 14 ≠ 75 by decide), a14, tk]
    generalize tkM n T = B
    rw [lt_w, uc_s, uc_uc]
  · rw [k5, hg2, uc_s, upd_n (by decide), upd_s]
  · rw [k5, hg2, uc_s, upd_n (by decide), upd_n (by decide)]; exact f7
  · rw [k5, hg2, uc_s, upd_n (by decide), upd_n (by decide), f6, (h3 i hi).1, f8 i hi, b15]
    exact ow_eq hR hM hE hD hi
  · rw [(h3 i hi).2, bp, hR.2.2.2 i hi]
    have hi2 : i < np := by
      rcases Nat.lt_or_ge i np with c | c
      · exact c
      · rw [slM_lo hM.2.2.2.1 i c (by omega)] at hb; cases hb
    exact am_e hM hi2
  · rw [k5, hg2, uc_s, upd_n (by decide), upd_n (by decide)]; exact f4
  · rw [k5, hg2, uc_s, upd_s]
theorem X_now {g : Nat → Nat → Int32} {M T : Nat → Int32} {n np kind : Nat} (h : XI g p M T n np kind) :
    ∃ g', f_X11_sceneNow (g, RF p q w v ds) 1 = some (75, (g', RF p q w v ds)) ∧ Sb [75, 76, 77] g g' ∧ XI g' p M T n np kind ∧ SC g' M n (slM np T) kind (owM n M T 0) (am M) ∧ g' 75 1 = allM n ∧ g' 75 2 = tkM n T := by
  obtain ⟨g', h1, h2, h3, h4⟩ := X_setNow (q := q) (w := w) (v := v) (ds := ds) h
  refine ⟨g', ?_, h2, h.keep (h2.mono (by decide)) (h.2.2.2.2.2.sc (h2.mono (by decide))), h3, h4⟩
  have kp : kd p = 4 := by rcases h.1 with rfl | rfl <;> rfl
  unfold f_X11_sceneNow
  simp only [r_1_0, r_1_1, r_1_2, r_1_3, r_1_4, r_1_5, r_1_6, r_1_7, r_1_8, r_1_9, r_1_10, r_1_11, k_1, n_1, k_75, k_13, kp, gd, lt, bd_s, if_true, if_false, reduceIte, si_uc, uc_s, uc_n, upd_s, upd_n, Nat.reduceEqDiff, ne_eq, not_false_eq_true, not_true_eq_false, h1]
theorem X_tk {g : Nat → Nat → Int32} {M T : Nat → Int32} {n np kind : Nat} (h : XI g p M T n np kind) : f_X2_taken (g, RF p q w v ds) 13 = some (tkM n T, (g, RF p q w v ds)) := by
  unfold f_X2_taken
  simp only [r_13_0, r_13_1, k_13, n_13, k_14, n_14, k_15, n_15, gd, lt, bd_s, if_true, if_false, reduceIte, si_uc, uc_s, uc_n, upd_s, upd_n, Nat.reduceEqDiff, ne_eq, not_false_eq_true, not_true_eq_false, X_together (g := g) (p := p) (q := q) (w := w) (v := v) (ds := ds) (a := 14) (m := 8) rfl rfl (by decide), tk_eq h.2.1.2.1.2 h.2.2.2.2.1 h.2.2.1]
theorem X_lent {g : Nat → Nat → Int32} {M T : Nat → Int32} {n np kind : Nat} (h : XI g p M T n np kind) : f_X2_lent (g, RF p q w v ds) 13 = some (ltM n T, (g, RF p q w v ds)) := by
  unfold f_X2_lent
  simp only [r_13_0, r_13_1, k_13, n_13, k_14, n_14, k_15, n_15, gd, lt, bd_s, if_true, if_false, reduceIte, si_uc, uc_s, uc_n, upd_s, upd_n, Nat.reduceEqDiff, ne_eq, not_false_eq_true, not_true_eq_false, X_together (g := g) (p := p) (q := q) (w := w) (v := v) (ds := ds) (a := 15) (m := 6) rfl rfl (by decide), lt_eq h.2.1.2.1.2 h.2.2.2.2.1 h.2.2.1]
/-- what a person may use now -/
def myM (n : Nat) (M T : Nat → Int32) (i : Nat) : Int32 := owM n M T 0 i &&& (tkM n T ^^^ (-1))
theorem myM_lo {n : Nat} {M T : Nat → Int32} {i : Nat} (h : n ≤ 24) : LO n (myM n M T i) := LO_and (LO_mk h _) _
theorem X_usedNow {g : Nat → Nat → Int32} {M T : Nat → Int32} {n np kind i a : Nat} (h : XI g p M T n np kind) (hi : i < np) (ha : 1 ≤ a ∧ a ≤ 99) :
    ∃ g', f_X11_usedNow (g, RF p q w v ds) 1 (I i) (I a) = some (us (BT M kind (myM n M T i) a), (g', RF p q w v ds)) ∧ Sb QC g g' ∧ XI g' p M T n np kind ∧ FND g' (wM M) (BT M kind (myM n M T i) a) := by
  obtain ⟨g1, h1, h2, h3, h4, h5, h6⟩ := X_now (q := q) (w := w) (v := v) (ds := ds) h
  have hM := h.2.1
  have hn6 := hM.2.2.2.1
  obtain ⟨g2, k1, k2, k3, k4⟩ := X_fd (p := p) (q := q) (w := w) (v := v) (ds := ds) (may := myM n M T i) hM hM.2.2.2.2.2.1 h3.2.2.2.2.2 (myM_lo hM.2.1.2) ha
  have ek : g1 p 2 = I kind := by rw [h3.2.2.2.1.1 2 (by decide)]; exact hM.2.2.2.2.1
  have kp : kd p = 4 := by rcases h.1 with rfl | rfl <;> rfl
  refine ⟨g2, ?_, Sb.tr (h2.mono (by decide)) (k3.mono (by decide)), h3.keep (k3.mono (by decide)) k2, k4⟩
  have em : g1 75 3 ||| g1 77 i = owM n M T 0 i := (h4.2.2.2.1 i (by omega)).1
  have k1' : f_X5_find (g1, RF p q w v ds) 61 (owM n M T 0 i &&& (tkM n T ^^^ (-1))) (I a) (I kind) = _ := k1
  unfold f_X11_usedNow
  simp only [r_1_0, r_1_1, r_1_2, r_1_3, r_1_4, r_1_5, r_1_6, r_1_7, r_1_8, r_1_9, r_1_10, r_1_11, k_1, n_1, k_61, k_75, k_13, kp, gd, lt, bd_s, if_true, if_false, reduceIte, si_uc, uc_s, uc_n, upd_s, upd_n, Nat.reduceEqDiff, ne_eq, not_false_eq_true, not_true_eq_false, h1, X_tk h3, X_mayUse (show i < 6 by omega), em, ek, k1']
end T
