/-! value, changed, guard -/
def vaF (M T : Nat → Int32) (n kind x i : Nat) : Bool := decide (BT M kind (owM n M T 0 i &&& (tkM n T ^^^ (-1))) (am M i) ≠ []) && decide (BT M kind (owM n M T 0 i &&& ((tkM n T ||| b1 (x - 1)) ^^^ (-1))) (am M i) = [])
def cnt (f : Nat → Bool) : Nat → Nat → Nat → Nat
  | 0, _, c => c
  | r + 1, i, c => cnt f r (i + 1) (if f i = true then c + 1 else c)
theorem or_sw (a b c : Int32) : (a ||| b) ||| c = (a ||| c) ||| b := by
  apply bt_ext
  intro i hi
  simp only [bt_or]
  cases bt a i <;> cases bt b i <;> cases bt c i <;> rfl
section T
variable {p q w v : Nat} {ds : Nat → Nat}
theorem X_val_lp {M T : Nat → Int32} {n np kind x : Nat} {who : Int32} (hx : 1 ≤ x ∧ x ≤ n) : ∀ (r fu i c : Nat) (G : Nat → Nat → Int32), r < fu → i + r = np → XI G p M T n np kind → SC G M n who kind (owM n M T 0) (am M) → G 75 2 = tkM n T →
    ∃ G', f_X11_value_42 fu (G, RF p q w v ds) 1 (I x) 75 (I c) (I i) = some (I (cnt (vaF M T n kind x) r i c : Nat), (G', RF p q w v ds)) ∧ Sb QC G G' ∧ XI G' p M T n np kind := by
  intro r
  induction r with
  | zero =>
    intro fu i c G hf hk hG hC ht
    obtain ⟨fu, rfl⟩ : ∃ k, fu = k + 1 := ⟨fu - 1, by omega⟩
    have kp := (Pk hG.1).1
    have hnp := hG.2.1.2.2.2.1
    have e0 : G p 1 = I np := by rw [hG.2.2.2.1.1 1 (by decide)]; exact hG.2.1.2.2.1
    have c1 : I (np : Int) ≤ I (i : Int) := by rw [I_len (by omega) (by omega)]; omega
    refine ⟨G, ?_, Sb.rf, hG⟩
    simp only [f_X11_value_42, r_1_0, r_1_1, r_1_2, r_1_3, r_1_4, r_1_5, r_1_6, r_1_7, r_1_8, r_1_9, r_1_10, r_1_11, k_1, n_1, kp, gd, if_true, reduceIte, e0, if_pos c1, cnt]
  | succ r ih =>
    intro fu i c G hf hk hG hC ht
    obtain ⟨fu, rfl⟩ : ∃ k, fu = k + 1 := ⟨fu - 1, by omega⟩
    obtain ⟨kp, k1, k2, k3, l1, l2, l3⟩ := Pk hG.1
    obtain ⟨r5, r6, r7⟩ := Pr hG.1 q w v ds
    have hn := hG.2.1.2.1
    have hnp := hG.2.1.2.2.2.1
    have hi : i < np := by omega
    have e0 : G p 1 = I np := by rw [hG.2.2.2.1.1 1 (by decide)]; exact hG.2.1.2.2.1
    have ek : G p 2 = I kind := by rw [hG.2.2.2.1.1 2 (by decide)]; exact hG.2.1.2.2.2.2.1
    have c1 : ¬ I (np : Int) ≤ I (i : Int) := by rw [I_len (by omega) (by omega)]; omega
    have em : G 75 3 ||| G 77 i = owM n M T 0 i := (hC.2.2.2.1 i (by omega)).1
    obtain ⟨a1, a2⟩ := am_e hG.2.1 hi
    have ea : G (p + 3) i = I (am M i) := by rw [hG.2.2.2.1.2.2.2 i (by omega)]; exact a1
    obtain ⟨G1, b1', b2, b3, b4⟩ := X_fd (p := p) (q := q) (w := w) (v := v) (ds := ds) (kind := kind) (may := owM n M T 0 i &&& (tkM n T ^^^ (-1))) hG.2.1 hG.2.1.2.2.2.2.2.1 hG.2.2.2.2.2 (LO_and (LO_mk hn.2 _) _) a2
    have hG1 : XI G1 p M T n np kind := hG.keep (b3.mono (by decide)) b2
    have hC1 := hC.keep (b3 75 (by decide)) (b3 76 (by decide)) (b3 77 (by decide))
    have ht1 : G1 75 2 = tkM n T := by rw [b3 75 (by decide)]; exact ht
    have ek1 : G1 p 2 = I kind := by rw [hG1.2.2.2.1.1 2 (by decide)]; exact hG.2.1.2.2.2.2.1
    have ea1 : G1 (p + 3) i = I (am M i) := by rw [hG1.2.2.2.1.2.2.2 i (by omega)]; exact a1
    simp only [f_X11_value_42, r_1_0, r_1_1, r_1_2, r_1_3, r_1_4, r_1_5, r_1_6, r_1_7, r_1_8, r_1_9, r_1_10, r_1_11, k_1, n_1, kp, k_61, gd, if_true, reduceIte, e0, if_neg c1, ht, X_mayUse (show i < 6 by omega), bd_s, em, r7, k3, l3, I_in (show i < 6 by omega) (show 6 < 1000000 by decide), I_ix (show i < 1000000 by omega), ea, ek, b1', us_0, I_s]
    rw [cnt]
    by_cases he : BT M kind (owM n M T 0 i &&& (tkM n T ^^^ (-1))) (am M i) = []
    · rw [if_pos he, if_neg (show ¬ vaF M T n kind x i = true from fun z => by unfold vaF at z; rw [Bool.and_eq_true, decide_eq_true_eq] at z; exact z.1 he)]
      obtain ⟨G2, w1, w2, w3⟩ := ih fu (i + 1) c G1 (by omega) (by omega) hG1 hC1 ht1
      exact ⟨G2, w1, Sb.tr (b3.mono (by decide)) w2, w3⟩
    · rw [if_neg he]
      obtain ⟨G2, d1, d2, d3, d4⟩ := X_fd (p := p) (q := q) (w := w) (v := v) (ds := ds) (kind := kind) (may := owM n M T 0 i &&& ((tkM n T ||| b1 (x - 1)) ^^^ (-1))) hG.2.1 hG.2.1.2.2.2.2.2.1 b2 (LO_and (LO_mk hn.2 _) _) a2
      have hG2 : XI G2 p M T n np kind := hG1.keep (d3.mono (by decide)) d2
      have hC2 := hC1.keep (d3 75 (by decide)) (d3 76 (by decide)) (d3 77 (by decide))
      have ht2 : G2 75 2 = tkM n T := by rw [d3 75 (by decide)]; exact ht1
      simp only [ek1, ea1, b1_eq hx.1, and_or_not, d1, bd_s, us_0]
      by_cases he2 : BT M kind (owM n M T 0 i &&& ((tkM n T ||| b1 (x - 1)) ^^^ (-1))) (am M i) = []
      · rw [if_pos he2, if_pos (show vaF M T n kind x i = true by unfold vaF; rw [Bool.and_eq_true, decide_eq_true_eq, decide_eq_true_eq]; exact ⟨he, he2⟩)]
        obtain ⟨G3, w1, w2, w3⟩ := ih fu (i + 1) (c + 1) G2 (by omega) (by omega) hG2 hC2 ht2
        exact ⟨G3, w1, Sb.tr (Sb.tr (b3.mono (by decide)) (d3.mono (by decide))) w2, w3⟩
      · rw [if_neg he2, if_neg (show ¬ vaF M T n kind x i = true from fun z => by unfold vaF at z; rw [Bool.and_eq_true, decide_eq_true_eq, decide_eq_true_eq] at z; exact he2 z.2)]
        obtain ⟨G3, w1, w2, w3⟩ := ih fu (i + 1) c G2 (by omega) (by omega) hG2 hC2 ht2
        exact ⟨G3, w1, Sb.tr (Sb.tr (b3.mono (by decide)) (d3.mono (by decide))) w2, w3⟩
theorem I_p0 (c : Nat) : I (c : Int) + 0 = I (c : Int) := by show I (c : Int) + I 0 = _; rw [I_add, Int.add_zero]
theorem M_val_lp {g : Nat → Nat → Int32} {n np kind x : Nat} (hP : PW (g 84) n np kind) (hx : 1 ≤ x ∧ x ≤ n) : ∀ (r fu i c : Nat) (G : Nat → Nat → Int32), r < fu → i + r = np → MS G g →
    ∃ G', f_X12_value_38 fu (G, RF p q w v ds) 83 (I x) (tkM n (g 86)) (I c) (I i) = some (I (cnt (vaF (g 84) (g 86) n kind x) r i c : Nat), (G', RF p q w v ds)) ∧ MF G G' := by
  have hn := hP.2.1
  have hnp := hP.2.2.2.1
  intro r
  induction r with
  | zero =>
    intro fu i c G hf hk hG
    obtain ⟨fu, rfl⟩ : ∃ k, fu = k + 1 := ⟨fu - 1, by omega⟩
    have c1 : I (np : Int) ≤ I (i : Int) := by rw [I_len (by omega) (by omega)]; omega
    refine ⟨G, ?_, MF.rf⟩
    simp only [f_X12_value_38, r_83_1, r_83_2, r_83_3, r_83_4, r_83_6, r_83_8, r_83_11, r_83_13, r_83_15, r_83_19, r_83_20, r_83_21, r_83_22, r_83_24, r_83_25, r_83_26, r_83_28, r_83_29, k_83, n_83, k_84, n_84, k_85, n_85, k_86, n_86, k_87, n_87, k_88, n_88, k_89, n_89, k_90, n_90, k_91, n_91, k_92, n_92, k_93, n_93, k_94, n_94, k_95, n_95, k_96, n_96, k_97, n_97, k_98, n_98, k_99, n_99, k_100, n_100, k_101, n_101, ci_0, ci_1, ci_2, ci_3, ci_4, ii_0, ii_1, ii_2, ii_3, ii_4, id_0, id_1, id_2, gd, if_true, reduceIte, hG.1, hP.2.2.1, if_pos c1, cnt]
  | succ r ih =>
    intro fu i c G hf hk hG
    obtain ⟨fu, rfl⟩ : ∃ k, fu = k + 1 := ⟨fu - 1, by omega⟩
    have c1 : ¬ I (np : Int) ≤ I (i : Int) := by rw [I_len (by omega) (by omega)]; omega
    have ek : g 84 2 = I kind := hP.2.2.2.2.1
    obtain ⟨G1, v1, v2⟩ := M_hasBest (p := p) (q := q) (w := w) (v := v) (ds := ds) (g := G) (i := i) (tkM n (g 86)) (by rw [hG.1]; exact hP) hP.2.2.2.2.2.1 hG.2.2 (by decide) (by omega)
    rw [hG.1, hG.2.1] at v1 v2
    have hG1 := hG.mf v2.mf
    simp only [f_X12_value_38, r_83_1, r_83_2, r_83_3, r_83_4, r_83_6, r_83_8, r_83_11, r_83_13, r_83_15, r_83_19, r_83_20, r_83_21, r_83_22, r_83_24, r_83_25, r_83_26, r_83_28, r_83_29, k_83, n_83, k_84, n_84, k_85, n_85, k_86, n_86, k_87, n_87, k_88, n_88, k_89, n_89, k_90, n_90, k_91, n_91, k_92, n_92, k_93, n_93, k_94, n_94, k_95, n_95, k_96, n_96, k_97, n_97, k_98, n_98, k_99, n_99, k_100, n_100, k_101, n_101, ci_0, ci_1, ci_2, ci_3, ci_4, ii_0, ii_1, ii_2, ii_3, ii_4, id_0, id_1, id_2, gd, if_true, reduceIte, hG.1, hP.2.2.1, if_neg c1, ek, v1, bd_s, I_s, I_p0]
    rw [cnt]
    by_cases he : BT (g 84) kind (owM n (g 84) (g 86) 0 i &&& (tkM n (g 86) ^^^ (-1))) (am (g 84) i) = []
    · rw [if_pos he, if_pos rfl, if_neg (show ¬ vaF (g 84) (g 86) n kind x i = true from fun z => by unfold vaF at z; rw [Bool.and_eq_true, decide_eq_true_eq] at z; exact z.1 he)]
      obtain ⟨G2, w1, w2⟩ := ih fu (i + 1) c G1 (by omega) (by omega) hG1
      exact ⟨G2, w1, v2.mf.tr w2⟩
    · rw [if_neg he, if_neg (by decide)]
      obtain ⟨G2, d1, d2⟩ := M_hasBest (p := p) (q := q) (w := w) (v := v) (ds := ds) (g := G1) (i := i) (tkM n (g 86) ||| b1 (x - 1)) (by rw [hG1.1]; exact hP) hP.2.2.2.2.2.1 hG1.2.2 (by decide) (by omega)
      rw [hG1.1, hG1.2.1] at d1 d2
      simp only [hG1.1, ek, b1_eq hx.1, d1, bd_s]
      by_cases he2 : BT (g 84) kind (owM n (g 84) (g 86) 0 i &&& ((tkM n (g 86) ||| b1 (x - 1)) ^^^ (-1))) (am (g 84) i) = []
      · rw [if_pos he2, if_pos rfl, if_pos (show vaF (g 84) (g 86) n kind x i = true by unfold vaF; rw [Bool.and_eq_true, decide_eq_true_eq, decide_eq_true_eq]; exact ⟨he, he2⟩)]
        obtain ⟨G3, w1, w2⟩ := ih fu (i + 1) (c + 1) G2 (by omega) (by omega) (hG1.mf d2.mf)
        exact ⟨G3, w1, (v2.mf.tr d2.mf).tr w2⟩
      · rw [if_neg he2, if_neg (by decide), if_neg (show ¬ vaF (g 84) (g 86) n kind x i = true from fun z => by unfold vaF at z; rw [Bool.and_eq_true, decide_eq_true_eq, decide_eq_true_eq] at z; exact he2 z.2)]
        obtain ⟨G3, w1, w2⟩ := ih fu (i + 1) c G2 (by omega) (by omega) (hG1.mf d2.mf)
        exact ⟨G3, w1, (v2.mf.tr d2.mf).tr w2⟩
end T
theorem S_value : Sp1 Inv f_X11_value f_X12_value := by
  rintro h a ⟨g, p, q, w, v, ds, n, np, kind, rfl, hV⟩
  obtain ⟨kp, -⟩ := Pk hV.p
  have hn := hV.pw.2.1
  have e0 : g p 0 = I n := by rw [hV.pr.1 0 (by decide)]; exact hV.pw.1
  have xN := X_isNumber (c := g p) (M := g p) (p := p) (q := q) (w := w) (v := v) (ds := ds) kp e0 hn.2 a
  have mN : ∀ G : Nat → Nat → Int32, G 84 = g 84 → f_X12_noNumber (G, RF p q w v ds) 83 a = some (if 1 ≤ a.toInt ∧ a.toInt ≤ n then 0 else 1, (G, RF p q w v ds)) := fun G e => M_noNumber (by rw [e]; exact hV.pw.1) hn.2 a
  have z1 : ¬ (1 : Int32) = 0 := by decide
  have mT : ∀ G : Nat → Nat → Int32, MS G g → f_X12_taken (G, RF p q w v ds) 83 = some (tkM n (g 86), (G, RF p q w v ds)) := fun G hG => by
    have := M_taken (p := p) (q := q) (w := w) (v := v) (ds := ds) (g := G) hn.2 (by rw [hG.1]; exact hV.pw.1)
    rwa [hG.2.1] at this
  by_cases hc : 1 ≤ a.toInt ∧ a.toInt ≤ n
  · obtain ⟨x, hx, rfl⟩ := num_c hc
    rw [if_pos hc] at xN
    have X0 : f_X11_value (g, RF p q w v ds) 1 (I x) = if bt (tkM n (g 86)) (x - 1) = true then some (-2, (g, RF p q w v ds)) else bd (f_X11_sceneNow (g, RF p q w v ds) 1) (fun r12 h13 => gd (kd r12 = 6) (f_X11_value_42 FU h13 1 (I x) r12 0 0)) := by
      unfold f_X11_value
      generalize f_X11_value_42 FU = lf
      simp only [r_1_0, r_1_1, r_1_2, r_1_3, r_1_4, r_1_5, r_1_6, r_1_7, r_1_8, r_1_9, r_1_10, r_1_11, k_1, n_1, k_13, kp, gd, if_true, reduceIte, xN, bd_w, if_neg z1, X_tk hV.2.2.2.1, I_p hx.1, X_hasBit _ _ (show x - 1 < 32 by omega)]
      cases bt (tkM n (g 86)) (x - 1)
      · rw [if_pos (by decide), if_neg (by decide)]
      · rw [if_neg (by decide), if_pos rfl]
    have M0 : ∀ G : Nat → Nat → Int32, MS (th G) g → f_X12_value (G, RF p q w v ds) 83 (I x) = if bt (tkM n (g 86)) (x - 1) = true then some (-2, (th G, RF p q w v ds)) else f_X12_value_38 FU (th G, RF p q w v ds) 83 (I x) (tkM n (g 86)) 0 0 := by
      intro G hG
      have mN := mN (th G) hG.1
      rw [if_pos hc] at mN
      unfold f_X12_value
      generalize f_X12_value_38 FU = lf
      rw [gd_t (show kd 83 = 12 from rfl), th_lt]
      simp only [mN, bd_w, if_true, reduceIte, mT (th G) hG, I_p hx.1, M_has _ _ (show x - 1 < 32 by omega)]
      cases bt (tkM n (g 86)) (x - 1)
      · rw [if_pos (by decide), if_neg (by decide)]
      · rw [if_neg (by decide), if_pos rfl]
    by_cases hs : bt (tkM n (g 86)) (x - 1) = true
    · have M1 := M0 g (MS.of hV XK.rf)
      rw [if_pos hs] at X0 M1
      exact ⟨_, _, _, X0, M1, hV.ask (th_mk g)⟩
    · rw [if_neg hs] at X0
      obtain ⟨g2, n1, n2, n3, n4, n5, n6⟩ := X_now (p := p) (q := q) (w := w) (v := v) (ds := ds) hV.2.2.2.1
      obtain ⟨g3, f1, f2, f3⟩ := X_val_lp (p := p) (q := q) (w := w) (v := v) (ds := ds) hx np FU 0 0 g2 (FU_lt (by have := hV.pw.2.2.2.1; omega)) (by omega) n3 n4 n6
      have f1 : f_X11_value_42 FU (g2, RF p q w v ds) 1 (I x) 75 0 0 = _ := f1
      rw [n1, bd_w, gd_t (show kd 75 = 6 from rfl), f1] at X0
      have hX : XK q g g3 := ((n2.mono (by decide)).tr f2).qc
      have hS := MS.of hV hX
      have M1 := M0 g3 hS
      obtain ⟨g5, y1, y2⟩ := M_val_lp (p := p) (q := q) (w := w) (v := v) (ds := ds) hV.pw hx np FU 0 0 (th g3) (FU_lt (by have := hV.pw.2.2.2.1; omega)) (by omega) hS
      have y1 : f_X12_value_38 FU (th g3, RF p q w v ds) 83 (I x) (tkM n (g 86)) 0 0 = _ := y1
      rw [if_neg hs, y1] at M1
      exact ⟨_, _, _, X0, M1, hV.q1 hX f3.2.2.2.2.2 ((th_mk g3).tr y2.mk)⟩
  · refine ⟨-1, (g, RF p q w v ds), (th g, RF p q w v ds), ?_, ?_, hV.ask (th_mk g)⟩
    · unfold f_X11_value
      generalize f_X11_value_42 FU = lf
      simp only [r_1_0, r_1_1, r_1_2, r_1_3, r_1_4, r_1_5, r_1_6, r_1_7, r_1_8, r_1_9, r_1_10, r_1_11, k_1, n_1, kp, gd, if_true, reduceIte, xN, bd_w, if_neg hc]
    · unfold f_X12_value
      generalize f_X12_value_38 FU = lf
      rw [gd_t (show kd 83 = 12 from rfl), th_lt]
      simp only [mN (th g) (th_n (by decide)), bd_w, if_neg hc, if_neg z1]
section T
variable {p q w v : Nat} {ds : Nat → Nat}
/-- one more question to the crowd -/
theorem X_nst {g : Nat → Nat → Int32} {M : Nat → Int32} {n np k0 kind : Nat} {who : Int32} {O : Nat → Int32} (hM : PW M n np k0) (hw : LO np who) (hS : SX M n g) (hC : SC g M n who kind O (am M)) :
    ∃ g' s, f_X1_stuckIn (g, RF p q w v ds) 78 75 = some (s, (g', RF p q w v ds)) ∧ pc 32 s = nst M kind O who (g 75 2) np ∧ s = stk M kind O (am M) (whl who 0 np) (g 75 2) 0 ∧ SX M n g' ∧ Sb SYC g g' := by
  obtain ⟨g', h1, h2, h3⟩ := X_stk (p := p) (q := q) (w := w) (v := v) (ds := ds) hM hS hC
  rw [whl_6 hM.2.2.2.1 hw] at h1
  exact ⟨g', _, h1, nst_32 hM.2.2.2.1, rfl, h2, h3⟩
theorem X_chg_lp {M T : Nat → Int32} {n np k0 : Nat} {who : Int32} (hw : LO np who) : ∀ (r fu k few : Nat) (best : Int32) (G : Nat → Nat → Int32), r < fu → k + r = 4 → few ≤ 7 → XI G p M T n np k0 → (∃ kind, SC G M n who kind (owM n M T 0) (am M)) → G 75 2 = tkM n T →
    ∃ G', f_X11_changed_13 fu (G, RF p q w v ds) 1 75 (I few) best (I k) = some (gdR (fun k => nst M k (owM n M T 0) who (tkM n T) np) 0 r k few best, (G', RF p q w v ds)) ∧ Sb QC G G' ∧ XI G' p M T n np k0 := by
  intro r
  induction r with
  | zero =>
    intro fu k few best G hf hk h7 hG hC ht
    obtain ⟨fu, rfl⟩ : ∃ k, fu = k + 1 := ⟨fu - 1, by omega⟩
    have c1 : (3 : Int32) < I (k : Int) := (I_lt (a := 3) (by omega) (by omega)).mpr (by omega)
    refine ⟨G, ?_, Sb.rf, hG⟩
    simp only [f_X11_changed_13, if_pos c1, gdR]
  | succ r ih =>
    intro fu k few best G hf hk h7 hG hC ht
    obtain ⟨fu, rfl⟩ : ∃ k, fu = k + 1 := ⟨fu - 1, by omega⟩
    have hnp := hG.2.1.2.2.2.1
    have c1 : ¬ (3 : Int32) < I (k : Int) := fun z => by have := (I_lt (a := 3) (by omega) (by omega)).mp z; omega
    obtain ⟨kd0, hC⟩ := hC
    obtain ⟨G1, hG1⟩ : ∃ G1, G1 = uc G 75 (upd (G 75) 4 (I k)) := ⟨_, rfl⟩
    have s1 : Sb [75] G G1 := by rw [hG1]; exact Sb.rf.uc (by decide)
    have a75 : G1 75 = upd (G 75) 4 (I k) := by rw [hG1, uc_s]
    have hC1 : SC G1 M n who k (owM n M T 0) (am M) := by
      unfold SC at hC ⊢
      rw [a75, s1 76 (by decide), s1 77 (by decide), upd_n (by decide), upd_s, upd_n (by decide)]
      exact ⟨hC.1, rfl, by omega, hC.2.2.2.1, hC.2.2.2.2⟩
    have ht1 : G1 75 2 = tkM n T := by rw [a75, upd_n (by decide)]; exact ht
    obtain ⟨G2, s, b1', b2, b3, b4, b5⟩ := X_nst (p := p) (q := q) (w := w) (v := v) (ds := ds) hG.2.1 hw (hG.2.2.2.2.2.sc (s1.mono (by decide))) hC1
    rw [ht1] at b2
    have h6 := nst_6 (M := M) (kind := k) (O := owM n M T 0) (who := who) (t := tkM n T) hnp
    have hG2 : XI G2 p M T n np k0 := hG.keep (Sb.tr (s1.mono (by decide)) (b5.mono (by decide))) b4
    have hC2 := hC1.keep (b5 75 (by decide)) (b5 76 (by decide)) (b5 77 (by decide))
    have ht2 : G2 75 2 = tkM n T := by rw [b5 75 (by decide)]; exact ht1
    simp only [f_X11_changed_13, if_neg c1, lt_w, r_1_0, r_1_1, r_1_2, r_1_3, r_1_4, r_1_5, r_1_6, r_1_7, r_1_8, r_1_9, r_1_10, r_1_11, k_1, n_1, k_78, gd, if_true, reduceIte]
    rw [← hG1]
    simp only [b1', bd_s, Xbc, b2, I_len (show few < 1000000 by omega) (show nst M k (owM n M T 0) who (tkM n T) np < 1000000 by omega), I_s]
    rw [gdR, if_neg (show ¬ bt 0 (k - 1) = true by rw [bt_0]; decide)]
    by_cases c : nst M k (owM n M T 0) who (tkM n T) np < few
    · rw [if_neg (by omega), if_pos c]
      obtain ⟨G3, w1, w2, w3⟩ := ih fu (k + 1) (nst M k (owM n M T 0) who (tkM n T) np) (I k) G2 (by omega) (by omega) (by omega) hG2 ⟨k, hC2⟩ ht2
      exact ⟨G3, w1, Sb.tr (Sb.tr (s1.mono (by decide)) (b5.mono (by decide))) w2, w3⟩
    · rw [if_pos (by omega), if_neg c]
      obtain ⟨G3, w1, w2, w3⟩ := ih fu (k + 1) few best G2 (by omega) (by omega) (by omega) hG2 ⟨k, hC2⟩ ht2
      exact ⟨G3, w1, Sb.tr (Sb.tr (s1.mono (by decide)) (b5.mono (by decide))) w2, w3⟩
theorem M_chg_lp {g : Nat → Nat → Int32} {n np kind : Nat} (hP : PW (g 84) n np kind) : ∀ (r fu k few : Nat) (best : Int32) (G : Nat → Nat → Int32), r < fu → k + r = 4 → few ≤ 99 → MS G g →
    ∃ G', f_X12_changed_12 fu (G, RF p q w v ds) 83 best (I few) (I k) = some (gdR (fun k => nst (g 84) k (owM n (g 84) (g 86) 0) (slM np (g 86)) (tkM n (g 86)) np) 0 r k few best, (G', RF p q w v ds)) ∧ MF G G' := by
  have hn := hP.2.1
  have hnp := hP.2.2.2.1
  intro r
  induction r with
  | zero =>
    intro fu k few best G hf hk h7 hG
    obtain ⟨fu, rfl⟩ : ∃ k, fu = k + 1 := ⟨fu - 1, by omega⟩
    have c1 : (3 : Int32) < I (k : Int) := (I_lt (a := 3) (by omega) (by omega)).mpr (by omega)
    refine ⟨G, ?_, MF.rf⟩
    simp only [f_X12_changed_12, if_pos c1, gdR]
  | succ r ih =>
    intro fu k few best G hf hk h7 hG
    obtain ⟨fu, rfl⟩ : ∃ k, fu = k + 1 := ⟨fu - 1, by omega⟩
    have c1 : ¬ (3 : Int32) < I (k : Int) := fun z => by have := (I_lt (a := 3) (by omega) (by omega)).mp z; omega
    have ms := M_silent (p := p) (q := q) (w := w) (v := v) (ds := ds) (g := G) (np := np) (by rw [hG.1]; exact hP.2.2.1)
    have mt := M_taken (p := p) (q := q) (w := w) (v := v) (ds := ds) (g := G) hn.2 (by rw [hG.1]; exact hP.1)
    rw [hG.2.1] at ms mt
    obtain ⟨G2, t1', t2⟩ := M_stk (p := p) (q := q) (w := w) (v := v) (ds := ds) (g := G) (kind := k) (slM np (g 86)) (tkM n (g 86)) (by rw [hG.1]; exact hP) (by omega) (by decide : 0 ≤ 24) hG.2.2
    rw [hG.1, hG.2.1] at t1'
    have h6 := nst_6 (M := g 84) (kind := k) (O := owM n (g 84) (g 86) 0) (who := slM np (g 86)) (t := tkM n (g 86)) hnp
    have en : pc 24 (stk (g 84) k (owM n (g 84) (g 86) 0) (am (g 84)) (whl (slM np (g 86)) 0 np) (tkM n (g 86)) 0) = nst (g 84) k (owM n (g 84) (g 86) 0) (slM np (g 86)) (tkM n (g 86)) np := rfl
    simp only [f_X12_changed_12, f_X12_changed_46, if_neg c1, ms, mt, t1', bd_s, Mbits, en, I_len (show few < 1000000 by omega) (show nst (g 84) k (owM n (g 84) (g 86) 0) (slM np (g 86)) (tkM n (g 86)) np < 1000000 by omega), I_s]
    rw [gdR, if_neg (show ¬ bt 0 (k - 1) = true by rw [bt_0]; decide)]
    by_cases c : nst (g 84) k (owM n (g 84) (g 86) 0) (slM np (g 86)) (tkM n (g 86)) np < few
    · rw [if_neg (by omega), if_neg (by omega), if_pos c]
      obtain ⟨G3, w1, w2⟩ := ih fu (k + 1) (nst (g 84) k (owM n (g 84) (g 86) 0) (slM np (g 86)) (tkM n (g 86)) np) (I k) G2 (by omega) (by omega) (by omega) (hG.mf t2)
      exact ⟨G3, w1, t2.tr w2⟩
    · rw [if_pos (by omega), if_pos (by omega), if_neg c]
      obtain ⟨G3, w1, w2⟩ := ih fu (k + 1) few best G2 (by omega) (by omega) (by omega) (hG.mf t2)
      exact ⟨G3, w1, t2.tr w2⟩
end T
theorem S_changed : Sp0 Inv f_X11_changed f_X12_changed := by
  rintro h ⟨g, p, q, w, v, ds, n, np, kind, rfl, hV⟩
  have hn := hV.pw.2.1
  have hnp := hV.pw.2.2.2.1
  obtain ⟨g1, n1, n2, n3, n4, n5, n6⟩ := X_now (p := p) (q := q) (w := w) (v := v) (ds := ds) hV.2.2.2.1
  obtain ⟨g2, f1, f2, f3⟩ := X_chg_lp (p := p) (q := q) (w := w) (v := v) (ds := ds) (slM_lo hnp) 4 FU 0 7 0 g1 (FU_lt (by omega)) (by omega) (by omega) n3 ⟨kind, n4⟩ n6
  have hX : XK q g g2 := ((n2.mono (by decide)).tr f2).qc
  have hS := MS.of hV hX
  obtain ⟨g3, y1, y2⟩ := M_chg_lp (p := p) (q := q) (w := w) (v := v) (ds := ds) hV.pw 4 FU 0 99 0 (th g2) (FU_lt (by omega)) (by omega) (by omega) hS
  rw [gdR_few (fun k => nst_6 hnp)] at f1
  have f1 : f_X11_changed_13 FU (g1, RF p q w v ds) 1 75 7 0 0 = _ := f1
  have y1 : f_X12_changed_12 FU (th g2, RF p q w v ds) 83 0 99 0 = _ := y1
  generalize gdR (fun k => nst (g 84) k (owM n (g 84) (g 86) 0) (slM np (g 86)) (tkM n (g 86)) np) 0 4 0 99 0 = R at f1 y1
  refine ⟨R, (g2, RF p q w v ds), (g3, RF p q w v ds), ?_, ?_, hV.q1 hX f3.2.2.2.2.2 ((th_mk g2).tr y2.mk)⟩
  · unfold f_X11_changed
    revert f1
    generalize f_X11_changed_13 FU = lf
    intro f1
    simp only [r_1_0, r_1_1, r_1_2, r_1_3, r_1_4, r_1_5, r_1_6, r_1_7, r_1_8, r_1_9, r_1_10, r_1_11, k_1, n_1, k_75, gd, if_true, reduceIte, n1, bd_w, f1]
  · unfold f_X12_changed
    revert y1
    generalize f_X12_changed_12 FU = lf
    intro y1
    rw [gd_t (show kd 83 = 12 from rfl), th_lt, y1]
