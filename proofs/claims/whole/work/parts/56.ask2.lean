/-! freed, value, changed, guard -/
theorem tk_drop {t : Int32} {k : Nat} (hk : k < 32) : (t &&& (b1 k ^^^ (-1)) = t) ↔ bt t k = false := by
  constructor
  · intro h
    have : bt (t &&& (b1 k ^^^ (-1))) k = bt t k := by rw [h]
    rw [bt_and, bt_not hk, bt_b1 hk hk] at this
    cases hb : bt t k
    · rfl
    · rw [hb] at this; simp at this
  · intro h
    apply bt_ext
    intro i hi
    rw [bt_and, bt_not hi, bt_b1 hk hi]
    by_cases e : i = k
    · subst e; rw [h]; rfl
    · rw [decide_eq_false e]; simp
theorem and_or_not (o t b : Int32) : (o &&& (t ^^^ (-1))) &&& (b ^^^ (-1)) = o &&& ((t ||| b) ^^^ (-1)) := by
  apply bt_ext
  intro i hi
  simp only [bt_and, bt_not hi, bt_or]
  cases bt o i <;> cases bt t i <;> cases bt b i <;> rfl
theorem stk_lo {M : Nat → Int32} {kind : Nat} {O : Nat → Int32} {A : Nat → Nat} : ∀ (l : List Nat) (t s : Int32), (∀ i ∈ l, i < 6) → LO 6 s → LO 6 (stk M kind O A l t s) := by
  intro l
  induction l with
  | nil => intro t s _ h; exact h
  | cons i l ih =>
    intro t s hl hs
    refine ih _ _ (fun j hj => hl j (List.mem_cons_of_mem _ hj)) ?_
    split
    · refine LO_or hs (fun j h1 h2 => ?_)
      have := hl i List.mem_cons_self
      rw [bt_b1 (by omega) h2]
      exact decide_eq_false (by omega)
    · exact hs
theorem whl_mem {who : Int32} {i m : Nat} : ∀ k ∈ whl who i m, i ≤ k ∧ k < i + m ∧ bt who k = true := by
  intro k hk
  unfold whl at hk
  obtain ⟨h1, h2⟩ := List.mem_filter.mp hk
  have := List.mem_range'_1.mp h1
  exact ⟨this.1, this.2, h2⟩
/-- how many are stuck -/
def nst (M : Nat → Int32) (kind : Nat) (O : Nat → Int32) (who t : Int32) (np : Nat) : Nat := pc 24 (stk M kind O (am M) (whl who 0 np) t 0)
theorem nst_lo {M : Nat → Int32} {kind : Nat} {O : Nat → Int32} {who t : Int32} {np : Nat} (h : np ≤ 6) : LO 6 (stk M kind O (am M) (whl who 0 np) t 0) := stk_lo _ _ _ (fun i hi => by have := whl_mem i hi; omega) LO_0
theorem nst_32 {M : Nat → Int32} {kind : Nat} {O : Nat → Int32} {who t : Int32} {np : Nat} (h : np ≤ 6) : pc 32 (stk M kind O (am M) (whl who 0 np) t 0) = nst M kind O who t np := pc_32 (fun i h1 h2 => nst_lo h i (by omega) h2)
theorem nst_6 {M : Nat → Int32} {kind : Nat} {O : Nat → Int32} {who t : Int32} {np : Nat} (h : np ≤ 6) : nst M kind O who t np ≤ 6 := by
  have hl := nst_lo (M := M) (kind := kind) (O := O) (who := who) (t := t) h
  unfold nst
  rw [show (24 : Nat) = 6 + 18 by rfl, pc_more (n := 6) 18 (fun i hi => by
    rcases Nat.lt_or_ge i 32 with q | q
    · exact hl i hi q
    · exact bt_big q)]
  exact pc_le 6 _
/-- the first of the fewest -/
def gdR (s : Nat → Nat) (t : Int32) : Nat → Nat → Nat → Int32 → Int32
  | 0, _, _, best => best
  | r + 1, k, few, best => if bt t (k - 1) = true then gdR s t r (k + 1) few best else if s k < few then gdR s t r (k + 1) (s k) (I (k : Int)) else gdR s t r (k + 1) few best
theorem gdR_few {s : Nat → Nat} {t : Int32} (hs : ∀ k, s k ≤ 6) : ∀ (r k : Nat) (best : Int32), gdR s t r k 7 best = gdR s t r k 99 best := by
  intro r
  induction r with
  | zero => intro k best; rfl
  | succ r ih =>
    intro k best
    have := hs k
    rw [gdR, gdR]
    by_cases c : bt t (k - 1) = true
    · rw [if_pos c, if_pos c]; exact ih _ _
    · rw [if_neg c, if_neg c, if_pos (show s k < 7 by omega), if_pos (show s k < 99 by omega)]
theorem gdR_0 {s : Nat → Nat} {t : Int32} : ∀ (r k : Nat) (best : Int32), gdR s t r k 0 best = best := by
  intro r
  induction r with
  | zero => intro k best; rfl
  | succ r ih =>
    intro k best
    rw [gdR, if_neg (Nat.not_lt_zero _)]
    split <;> exact ih _ _
def frF (M T : Nat → Int32) (n kind i x : Nat) : Bool := bt (tkM n T) (x - 1) && decide (BT M kind (owM n M T 0 i &&& ((tkM n T &&& (b1 (x - 1) ^^^ (-1))) ^^^ (-1))) (am M i) ≠ [])
section T
variable {p q w v : Nat} {ds : Nat → Nat}
theorem X_freed_lp {M T : Nat → Int32} {n np kind i : Nat} {who : Int32} (hi : i < np) : ∀ (r fu k : Nat) (G : Nat → Nat → Int32), r < fu → k + r = n + 1 → 1 ≤ k → XI G p M T n np kind → SC G M n who kind (owM n M T 0) (am M) → G 75 2 = tkM n T →
    ∃ G', f_X11_freed_57 fu (G, RF p q w v ds) 1 (I i) (I (am M i)) 75 (I k) = some (lowR (frF M T n kind i) r k, (G', RF p q w v ds)) ∧ Sb QC G G' ∧ XI G' p M T n np kind := by
  intro r
  induction r with
  | zero =>
    intro fu k G hf hk h1 hG hC ht
    obtain ⟨fu, rfl⟩ : ∃ k, fu = k + 1 := ⟨fu - 1, by omega⟩
    have kp := (Pk hG.1).1
    have hn := hG.2.1.2.1
    have e0 : G p 0 = I n := by rw [hG.2.2.2.1.1 0 (by decide)]; exact hG.2.1.1
    have c1 : I (n : Int) < I (k : Int) := by rw [I_ltn (by omega) (by omega)]; omega
    refine ⟨G, ?_, Sb.rf, hG⟩
    simp only [f_X11_freed_57, r_1_0, r_1_1, r_1_2, r_1_3, r_1_4, r_1_5, r_1_6, r_1_7, r_1_8, r_1_9, r_1_10, r_1_11, k_1, n_1, kp, gd, if_true, reduceIte, e0, if_pos c1, lowR]
  | succ r ih =>
    intro fu k G hf hk h1 hG hC ht
    obtain ⟨fu, rfl⟩ : ∃ k, fu = k + 1 := ⟨fu - 1, by omega⟩
    have kp := (Pk hG.1).1
    have hn := hG.2.1.2.1
    have hnp := hG.2.1.2.2.2.1
    have e0 : G p 0 = I n := by rw [hG.2.2.2.1.1 0 (by decide)]; exact hG.2.1.1
    have ek : G p 2 = I kind := by rw [hG.2.2.2.1.1 2 (by decide)]; exact hG.2.1.2.2.2.2.1
    have c1 : ¬ I (n : Int) < I (k : Int) := by rw [I_ltn (by omega) (by omega)]; omega
    have em : G 75 3 ||| G 77 i = owM n M T 0 i := (hC.2.2.2.1 i (by omega)).1
    obtain ⟨a1, a2⟩ := am_e hG.2.1 hi
    obtain ⟨G1, b1', b2, b3, b4⟩ := X_fd (p := p) (q := q) (w := w) (v := v) (ds := ds) (kind := kind) (may := owM n M T 0 i &&& ((tkM n T &&& (b1 (k - 1) ^^^ (-1))) ^^^ (-1))) hG.2.1 hG.2.1.2.2.2.2.2.1 hG.2.2.2.2.2 (LO_and (LO_mk hn.2 _) _) a2
    simp only [f_X11_freed_57, r_1_0, r_1_1, r_1_2, r_1_3, r_1_4, r_1_5, r_1_6, r_1_7, r_1_8, r_1_9, r_1_10, r_1_11, k_1, n_1, kp, k_61, gd, if_true, reduceIte, e0, if_neg c1, ht, b1_eq h1, X_mayUse (show i < 6 by omega), bd_s, em, ek, b1', us_0, I_s]
    rw [lowR]
    by_cases hb : bt (tkM n T) (k - 1) = true
    · rw [if_neg (fun z => by rw [(tk_drop (by omega)).mp z] at hb; cases hb)]
      by_cases he : BT M kind (owM n M T 0 i &&& ((tkM n T &&& (b1 (k - 1) ^^^ (-1))) ^^^ (-1))) (am M i) = []
      · rw [if_pos he, if_neg (show ¬ frF M T n kind i k = true from fun z => by unfold frF at z; rw [Bool.and_eq_true, decide_eq_true_eq] at z; exact z.2 he)]
        obtain ⟨G2, w1, w2, w3⟩ := ih fu (k + 1) G1 (by omega) (by omega) (by omega) (hG.keep (b3.mono (by decide)) b2) (hC.keep (b3 75 (by decide)) (b3 76 (by decide)) (b3 77 (by decide))) (by rw [b3 75 (by decide)]; exact ht)
        exact ⟨G2, w1, Sb.tr (b3.mono (by decide)) w2, w3⟩
      · rw [if_neg he, if_pos (show frF M T n kind i k = true by unfold frF; rw [Bool.and_eq_true, decide_eq_true_eq]; exact ⟨hb, he⟩)]
        exact ⟨G1, rfl, b3.mono (by decide), hG.keep (b3.mono (by decide)) b2⟩
    · rw [if_pos ((tk_drop (by omega)).mpr (by simpa using hb)), if_neg (show ¬ frF M T n kind i k = true from fun z => by unfold frF at z; rw [Bool.and_eq_true] at z; exact hb z.1)]
      exact ih fu (k + 1) G (by omega) (by omega) (by omega) hG hC ht
theorem M_freed_lp {g : Nat → Nat → Int32} {n np kind i : Nat} (hP : PW (g 84) n np kind) (hi : i < np) : ∀ (r fu k : Nat) (G : Nat → Nat → Int32), r < fu → k + r = n + 1 → 1 ≤ k → MS G g →
    ∃ G', f_X12_freed_53 fu (G, RF p q w v ds) 83 (I i) (tkM n (g 86)) (I k) = some (lowR (frF (g 84) (g 86) n kind i) r k, (G', RF p q w v ds)) ∧ MF G G' := by
  have hn := hP.2.1
  intro r
  induction r with
  | zero =>
    intro fu k G hf hk h1 hG
    obtain ⟨fu, rfl⟩ : ∃ k, fu = k + 1 := ⟨fu - 1, by omega⟩
    have c1 : I (n : Int) < I (k : Int) := by rw [I_ltn (by omega) (by omega)]; omega
    refine ⟨G, ?_, MF.rf⟩
    simp only [f_X12_freed_53, r_83_1, r_83_2, r_83_3, r_83_4, r_83_6, r_83_8, r_83_11, r_83_13, r_83_15, r_83_19, r_83_20, r_83_21, r_83_22, r_83_24, r_83_25, r_83_26, r_83_28, r_83_29, k_83, n_83, k_84, n_84, k_85, n_85, k_86, n_86, k_87, n_87, k_88, n_88, k_89, n_89, k_90, n_90, k_91, n_91, k_92, n_92, k_93, n_93, k_94, n_94, k_95, n_95, k_96, n_96, k_97, n_97, k_98, n_98, k_99, n_99, k_100, n_100, k_101, n_101, ci_0, ci_1, ci_2, ci_3, ci_4, ii_0, ii_1, ii_2, ii_3, ii_4, id_0, id_1, id_2, gd, if_true, reduceIte, hG.1, hP.1, if_pos c1, lowR]
  | succ r ih =>
    intro fu k G hf hk h1 hG
    obtain ⟨fu, rfl⟩ : ∃ k, fu = k + 1 := ⟨fu - 1, by omega⟩
    have c1 : ¬ I (n : Int) < I (k : Int) := by rw [I_ltn (by omega) (by omega)]; omega
    have ek : g 84 2 = I kind := hP.2.2.2.2.1
    obtain ⟨G1, v1, v2⟩ := M_hasBest (p := p) (q := q) (w := w) (v := v) (ds := ds) (g := G) (i := i) (tkM n (g 86) &&& (b1 (k - 1) ^^^ (-1))) (by rw [hG.1]; exact hP) hP.2.2.2.2.2.1 hG.2.2 (by decide) hi
    rw [hG.1, hG.2.1] at v1 v2
    simp only [f_X12_freed_53, r_83_1, r_83_2, r_83_3, r_83_4, r_83_6, r_83_8, r_83_11, r_83_13, r_83_15, r_83_19, r_83_20, r_83_21, r_83_22, r_83_24, r_83_25, r_83_26, r_83_28, r_83_29, k_83, n_83, k_84, n_84, k_85, n_85, k_86, n_86, k_87, n_87, k_88, n_88, k_89, n_89, k_90, n_90, k_91, n_91, k_92, n_92, k_93, n_93, k_94, n_94, k_95, n_95, k_96, n_96, k_97, n_97, k_98, n_98, k_99, n_99, k_100, n_100, k_101, n_101, ci_0, ci_1, ci_2, ci_3, ci_4, ii_0, ii_1, ii_2, ii_3, ii_4, id_0, id_1, id_2, gd, if_true, reduceIte, hG.1, hP.1, if_neg c1, I_p h1, M_has _ _ (show k - 1 < 32 by omega), bd_s, I_s, ek]
    rw [lowR]
    cases hb : bt (tkM n (g 86)) (k - 1) with
    | false =>
      rw [if_pos (show (if false = true then (1 : Int32) else 0) = 0 by decide), if_neg (show ¬ frF (g 84) (g 86) n kind i k = true from fun z => by unfold frF at z; rw [hb] at z; simp at z)]
      exact ih fu (k + 1) G (by omega) (by omega) (by omega) hG
    | true =>
      rw [if_neg (show ¬ (if true = true then (1 : Int32) else 0) = 0 by decide), b1_I (show k - 1 < 1000 by omega), v1, bd_s]
      by_cases he : BT (g 84) kind (owM n (g 84) (g 86) 0 i &&& ((tkM n (g 86) &&& (b1 (k - 1) ^^^ (-1))) ^^^ (-1))) (am (g 84) i) = []
      · rw [if_pos he, if_pos rfl, if_neg (show ¬ frF (g 84) (g 86) n kind i k = true from fun z => by unfold frF at z; rw [Bool.and_eq_true, decide_eq_true_eq] at z; exact z.2 he)]
        obtain ⟨G2, w1, w2⟩ := ih fu (k + 1) G1 (by omega) (by omega) (by omega) (hG.mf v2.mf)
        exact ⟨G2, w1, v2.mf.tr w2⟩
      · rw [if_neg he, if_neg (by decide), if_pos (show frF (g 84) (g 86) n kind i k = true by unfold frF; rw [Bool.and_eq_true, decide_eq_true_eq]; exact ⟨hb, he⟩)]
        exact ⟨G1, rfl, v2.mf⟩
end T
theorem S_freed : Sp1 Inv f_X11_freed f_X12_freed := by
  rintro h a ⟨g, p, q, w, v, ds, n, np, kind, rfl, hV⟩
  obtain ⟨kp, k1, k2, k3, l1, l2, l3⟩ := Pk hV.p
  obtain ⟨r5, r6, r7⟩ := Pr hV.p q w v ds
  have hn := hV.pw.2.1
  have hnp := hV.pw.2.2.2.1
  have e0 : g p 1 = I np := by rw [hV.pr.1 1 (by decide)]; exact hV.pw.2.2.1
  have xN := X_isPerson (p := p) (q := q) (w := w) (v := v) (ds := ds) kp e0 hnp a
  have mN : ∀ G : Nat → Nat → Int32, G 84 = g 84 → f_X12_noOne (G, RF p q w v ds) 83 a = some (if 0 ≤ a.toInt ∧ a.toInt < np then 0 else 1, (G, RF p q w v ds)) := fun G e => M_noOne (by rw [e]; exact hV.pw.2.2.1) hnp a
  have z1 : ¬ (1 : Int32) = 0 := by decide
  have ek : g 84 2 = I kind := hV.pw.2.2.2.2.1
  by_cases hc : 0 ≤ a.toInt ∧ a.toInt < np
  · obtain ⟨i, hi, rfl⟩ := per_c hc
    rw [if_pos hc] at xN
    obtain ⟨a1, a2⟩ := am_e hV.pw hi
    have ea : g (p + 3) i = I (am (g 84) i) := by rw [hV.pr.2.2.2 i (by omega)]; exact a1
    have eb : g 13 2 = g 86 2 := hV.dr.1.1
    have mT : ∀ G : Nat → Nat → Int32, MS G g → f_X12_taken (G, RF p q w v ds) 83 = some (tkM n (g 86), (G, RF p q w v ds)) := fun G hG => by
      have := M_taken (p := p) (q := q) (w := w) (v := v) (ds := ds) (g := G) hn.2 (by rw [hG.1]; exact hV.pw.1)
      rwa [hG.2.1] at this
    have X0 : f_X11_freed (g, RF p q w v ds) 1 (I i) = if bt (g 86 2) i = true then some (-4, (g, RF p q w v ds)) else bd (f_X11_usedNow (g, RF p q w v ds) 1 (I i) (I (am (g 84) i))) (fun r12 h13 => if r12 = 0 then bd (f_X11_sceneNow h13 1) (fun r15 h16 => gd (kd r15 = 6) (f_X11_freed_57 FU h16 1 (I i) (I (am (g 84) i)) r15 1)) else some (-4, h13)) := by
      unfold f_X11_freed
      generalize f_X11_freed_57 FU = lf
      simp only [r_1_0, r_1_1, r_1_2, r_1_3, r_1_4, r_1_5, r_1_6, r_1_7, r_1_8, r_1_9, r_1_10, r_1_11, k_1, n_1, k_13, kp, gd, if_true, reduceIte, xN, bd_w, if_neg z1, r7, k3, l3, I_in (show i < 6 by omega) (show 6 < 1000000 by decide), I_ix (show i < 1000000 by omega), ea, eb, X_hasBit _ _ (show i < 32 by omega)]
      cases bt (g 86 2) i
      · rw [if_pos (by decide), if_neg (by decide)]
      · rw [if_neg (by decide), if_pos rfl]
    have M0 : ∀ G : Nat → Nat → Int32, MS (th G) g → f_X12_freed (G, RF p q w v ds) 83 (I i) = if bt (g 86 2) i = true then some (-4, (th G, RF p q w v ds)) else bd (f_X12_hasBest (th G, RF p q w v ds) 83 (I i) (tkM n (g 86)) (I kind)) (fun r16 h17 => if r16 = 0 then f_X12_freed_53 FU h17 83 (I i) (tkM n (g 86)) 1 else some (-4, h17)) := by
      intro G hG
      have mN := mN (th G) hG.1
      rw [if_pos hc] at mN
      unfold f_X12_freed
      generalize f_X12_freed_53 FU = lf
      rw [gd_t (show kd 83 = 12 from rfl), th_lt]
      simp only [mN, bd_w, if_true, reduceIte, mT (th G) hG, r_83_1, r_83_2, r_83_3, r_83_4, r_83_6, r_83_8, r_83_11, r_83_13, r_83_15, r_83_19, r_83_20, r_83_21, r_83_22, r_83_24, r_83_25, r_83_26, r_83_28, r_83_29, k_83, n_83, k_84, n_84, k_85, n_85, k_86, n_86, k_87, n_87, k_88, n_88, k_89, n_89, k_90, n_90, k_91, n_91, k_92, n_92, k_93, n_93, k_94, n_94, k_95, n_95, k_96, n_96, k_97, n_97, k_98, n_98, k_99, n_99, k_100, n_100, k_101, n_101, gd, ci_0, ci_1, ci_2, ci_3, ci_4, ii_0, ii_1, ii_2, ii_3, ii_4, id_0, id_1, id_2, hG.1, hG.2.1, ek, M_has _ _ (show i < 32 by omega)]
      cases bt (g 86 2) i
      · rw [if_pos (by decide), if_neg (by decide)]
      · rw [if_neg (by decide), if_pos rfl]
    by_cases hs : bt (g 86 2) i = true
    · have M1 := M0 g (MS.of hV XK.rf)
      rw [if_pos hs] at X0 M1
      exact ⟨_, _, _, X0, M1, hV.ask (th_mk g)⟩
    · rw [if_neg hs] at X0
      obtain ⟨g1, u1, u2, u3, u4⟩ := X_usedNow (p := p) (q := q) (w := w) (v := v) (ds := ds) (a := am (g 84) i) hV.2.2.2.1 hi a2
      rw [u1, bd_w] at X0
      simp only [us_0] at X0
      by_cases he : BT (g 84) kind (myM n (g 84) (g 86) i) (am (g 84) i) = []
      · rw [if_pos he] at X0
        obtain ⟨g2, n1, n2, n3, n4, n5, n6⟩ := X_now (p := p) (q := q) (w := w) (v := v) (ds := ds) u3
        obtain ⟨g3, f1, f2, f3⟩ := X_freed_lp (p := p) (q := q) (w := w) (v := v) (ds := ds) hi n FU 1 g2 (FU_lt (by omega)) (by omega) (by omega) n3 n4 n6
        have f1 : f_X11_freed_57 FU (g2, RF p q w v ds) 1 (I i) (I (am (g 84) i)) 75 1 = _ := f1
        rw [n1, bd_w, gd_t (show kd 75 = 6 from rfl), f1] at X0
        have hX : XK q g g3 := ((u2.tr (n2.mono (by decide))).tr f2).qc
        have hS := MS.of hV hX
        have M1 := M0 g3 hS
        obtain ⟨g4, v1, v2⟩ := M_hasBest (p := p) (q := q) (w := w) (v := v) (ds := ds) (g := th g3) (i := i) (tkM n (g 86)) (by rw [hS.1]; exact hV.pw) hV.pw.2.2.2.2.2.1 hS.2.2 (by decide) hi
        rw [hS.1, hS.2.1, if_pos (show BT (g 84) kind (owM n (g 84) (g 86) 0 i &&& (tkM n (g 86) ^^^ -1)) (am (g 84) i) = [] from he)] at v1
        rw [hS.1, hS.2.1] at v2
        obtain ⟨g5, y1, y2⟩ := M_freed_lp (p := p) (q := q) (w := w) (v := v) (ds := ds) hV.pw hi n FU 1 g4 (FU_lt (by omega)) (by omega) (by omega) (hS.mf v2.mf)
        have y1 : f_X12_freed_53 FU (g4, RF p q w v ds) 83 (I i) (tkM n (g 86)) 1 = _ := y1
        rw [if_neg hs, v1, bd_w, if_pos rfl, y1] at M1
        exact ⟨_, _, _, X0, M1, hV.q1 hX f3.2.2.2.2.2 ((th_mk g3).tr (v2.mf.tr y2).mk)⟩
      · rw [if_neg he] at X0
        have hX : XK q g g1 := u2.qc
        have hS := MS.of hV hX
        have M1 := M0 g1 hS
        obtain ⟨g4, v1, v2⟩ := M_hasBest (p := p) (q := q) (w := w) (v := v) (ds := ds) (g := th g1) (i := i) (tkM n (g 86)) (by rw [hS.1]; exact hV.pw) hV.pw.2.2.2.2.2.1 hS.2.2 (by decide) hi
        rw [hS.1, hS.2.1, if_neg (show ¬ BT (g 84) kind (owM n (g 84) (g 86) 0 i &&& (tkM n (g 86) ^^^ -1)) (am (g 84) i) = [] from he)] at v1
        rw [if_neg hs, v1, bd_w, if_neg z1] at M1
        exact ⟨_, _, _, X0, M1, hV.q1 hX u3.2.2.2.2.2 ((th_mk g1).tr v2.mf.mk)⟩
  · refine ⟨-1, (g, RF p q w v ds), (th g, RF p q w v ds), ?_, ?_, hV.ask (th_mk g)⟩
    · unfold f_X11_freed
      generalize f_X11_freed_57 FU = lf
      simp only [r_1_0, r_1_1, r_1_2, r_1_3, r_1_4, r_1_5, r_1_6, r_1_7, r_1_8, r_1_9, r_1_10, r_1_11, k_1, n_1, kp, gd, if_true, reduceIte, xN, bd_w, if_neg hc]
    · unfold f_X12_freed
      generalize f_X12_freed_53 FU = lf
      rw [gd_t (show kd 83 = 12 from rfl), th_lt]
      simp only [mN (th g) (th_n (by decide)), bd_w, if_neg hc, if_neg z1]
