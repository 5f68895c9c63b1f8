/-! fault and lay -/
def rdl (c : Nat → Nat) (len : Nat) : Sum Nat (Nat → Int32) := prs c len 201 0 true M00
theorem IV.rd {g g2 : Nat → Nat → Int32} {p q w v : Nat} {ds : Nat → Nat} {n np kind : Nat} (hV : IV g p q w v ds n np kind) (s : Sb [2, 4, q, q + 1, q + 2, q + 3, 83, 85, 90] g g2) (h2 : ∀ j, j ≠ 3 → j ≠ 4 → g2 2 j = g 2 j) (h83 : ∀ j, j ≠ 0 → j ≠ 10 → g2 83 j = g 83 j) : IV g2 p q w v ds n np kind := by
  have hpq := hV.1
  have qa : ∀ f : Nat → Bool, [2, 4, 83, 85, 90, 5, 6, 7, 8, 9, 10, 11, 12].all f = true → [2, 4, q, q + 1, q + 2, q + 3, 83, 85, 90].all f = true := fun f hf => by
    simp only [List.all_cons, List.all_nil, Bool.and_true, Bool.and_eq_true] at hf ⊢
    have : q = 5 ∨ q = 9 := hV.q
    rcases this with rfl | rfl <;> simp_all
  have e84 : g2 84 = g 84 := s 84 (by simp; omega)
  have e86 : g2 86 = g 86 := s 86 (by simp; omega)
  have ep : ∀ k, k < 4 → g2 (p + k) = g (p + k) := fun k hk => s _ (by simp; omega)
  obtain ⟨m, t1, t2, t3, t4⟩ := hV.2.2.2.2.2.2.2.2.2.2
  refine ⟨hpq, hV.2.1, hV.2.2.1, ⟨hV.p, by rw [e84]; exact hV.pw, by rw [e86]; exact hV.dw, ?_, ?_, ?_⟩, by rw [h83 12 (by decide) (by decide)]; exact hV.2.2.2.2.1, hV.2.2.2.2.2.1, hV.2.2.2.2.2.2.1.sb hV.2.2.2.2.2.1 s (qa _ (by decide)) (h83 5 (by decide) (by decide)), hV.2.2.2.2.2.2.2.1.sb s (qa _ (by decide)) (h83 7 (by decide) (by decide)), hV.2.2.2.2.2.2.2.2.1.sb s (qa _ (by decide)) (h83 14 (by decide) (by decide)), hV.2.2.2.2.2.2.2.2.2.1.sb s (qa _ (by decide)) (h83 27 (by decide) (by decide)), ⟨m, t1, by rw [h2 0 (by decide) (by decide)]; exact t2, by rw [h83 9 (by decide) (by decide)]; exact t3, fun k hk => ?_⟩⟩
  · rw [e84, ep 1 (by decide), ep 2 (by decide), ep 3 (by decide), show g2 p = g p from ep 0 (by decide)]; exact hV.pr
  · rw [e86, s 13 (by simp; omega), s 14 (by simp; omega), s 15 (by simp; omega)]; exact hV.dr
  · rw [e84]; exact hV.sx.same (fun a h1 h2 => s a (by simp; omega))
  · rw [s 3 (by simp; omega), s 89 (by simp; omega)]; exact t4 k hk
theorem tx_of {g : Nat → Nat → Int32} {m : Nat} (h1 : m ≤ 200) (h2 : g 2 0 = I m) (h3 : g 83 9 = I m) (h4 : ∀ k, k < m → ∃ c : Nat, c < 128 ∧ g 3 k = I c ∧ g 89 k = I c) : ∃ c, TX g c m ∧ TM g c m := by
  have key : ∀ k, k < m → g 3 k = I (((g 3 k).toNatClampNeg : Nat) : Int) ∧ g 89 k = I (((g 3 k).toNatClampNeg : Nat) : Int) ∧ (g 3 k).toNatClampNeg < 128 := fun k hk => by
    obtain ⟨c, c1, c2, c3⟩ := h4 k hk
    rw [c2, I_ix (show c < 1000000 by omega)]
    exact ⟨rfl, c3, c1⟩
  exact ⟨fun k => (g 3 k).toNatClampNeg, ⟨h2, h1, fun k hk => ⟨(key k hk).1, (key k hk).2.2⟩⟩, ⟨h3, h1, fun k hk => (key k hk).2⟩⟩
section T
variable {p q w v : Nat} {ds : Nat → Nat}
theorem X_into {g : Nat → Nat → Int32} {c : Nat → Nat} {len a0 : Nat} (ha : a0 = 5 ∨ a0 = 9) (hT : TX g c len) :
    ∃ g', f_X8_readInto (g, RF p q w v ds) 2 a0 = some (rsv (rdl c len), (g', RF p q w v ds)) ∧ Sb [2, 4, a0, a0 + 1, a0 + 2, a0 + 3] g g' ∧ (∀ j, j ≠ 3 → j ≠ 4 → g' 2 j = g 2 j) ∧ ∀ M', rdl c len = Sum.inr M' → PRg g' a0 M' ∧ ∃ on', PWo M' on' := by
  obtain ⟨ka, -⟩ := Pk ha
  have hl := hT.2.1
  obtain ⟨g1, e1, s1, r1⟩ := X_clear (p := p) (q := q) (w := w) (v := v) (ds := ds) ha g
  obtain ⟨g2, hg2⟩ : ∃ g2, g2 = uc (uc g1 2 (upd (g1 2) 3 0)) 2 (upd (upd (g1 2) 3 0) 4 1) := ⟨_, rfl⟩
  have o2 : ∀ x, x ≠ 2 → g2 x = g1 x := fun x hx => by rw [hg2, uc_n hx, uc_n hx]
  have e12 : g1 2 = g 2 := s1 2 (by simp; omega)
  have f2 : g2 2 = upd (upd (g 2) 3 0) 4 1 := by rw [hg2, uc_s, e12]
  have s2 : Sb [2, 4, a0, a0 + 1, a0 + 2, a0 + 3] g g2 := Sb.tr (s1.mono (by simp)) (by rw [hg2]; exact (Sb.rf.uc (by simp)).uc (by simp))
  obtain ⟨g', e, s', h', r'⟩ := X_ra (p := p) (q := q) (w := w) (v := v) (ds := ds) (c := c) (len := len) ha 201 FU 0 0 true M00 g2 (FU_lt (by omega)) (by omega) (Nat.le_refl _) (by omega) ⟨by rw [f2, upd_n (by decide), upd_n (by decide)]; exact hT.1, hl, by rw [s2 3 (by simp; omega)]; exact hT.2.2⟩ (by rw [f2, upd_n (by decide), upd_s]; rfl) (by rw [f2, upd_s]; rfl) (by
    unfold PRg
    rw [o2 a0 (by omega), o2 (a0 + 1) (by omega), o2 (a0 + 2) (by omega), o2 (a0 + 3) (by omega)]
    exact r1) M00_pw
  have e : f_X8_readInto_16 FU (g2, RF p q w v ds) 2 a0 0 = _ := e
  refine ⟨g', ?_, Sb.tr s2 s', fun j h3 h4 => by rw [h' j h3 h4, f2, upd_n h4, upd_n h3], r'⟩
  unfold f_X8_readInto
  revert e e1
  generalize f_X8_readInto_16 FU = lf
  generalize f_X4_clear = cf
  intro e1 e
  rw [gd_t (show kd 2 = 8 from rfl), gd_t ka, e1, bd_w, lt_w, lt_w, uc_s, ← hg2]
  exact e
theorem M_rdA {g : Nat → Nat → Int32} {c : Nat → Nat} {len : Nat} (hT : TM g c len) :
    ∃ g', f_X12_readAll (g, RF p q w v ds) 83 = some (rsv (rdl c len), (g', RF p q w v ds)) ∧ MI g g' ∧ ∀ M', rdl c len = Sum.inr M' → FM g' M' := by
  have hl := hT.2.1
  obtain ⟨g1, e1, s1, r1⟩ := M_bg2 (p := p) (q := q) (w := w) (v := v) (ds := ds) 59 FU 0 g (FU_lt (by omega)) (by omega) (fun j hj => absurd hj (by omega))
  have e1 : f_X12_begin_2 FU (g, RF p q w v ds) 83 0 = _ := e1
  have m1 : MI g g1 := ⟨s1.mono (by decide), fun j _ => by rw [s1 83 (by decide)]⟩
  obtain ⟨g2, hg2⟩ : ∃ g2, g2 = uc g1 83 (upd (g1 83) 10 0) := ⟨_, rfl⟩
  have m2 : MI g1 g2 := by rw [hg2]; exact MT.at.mi
  obtain ⟨g', e, m', r'⟩ := M_ra (p := p) (q := q) (w := w) (v := v) (ds := ds) (c := c) (len := len) 201 FU 0 true M00 g2 (FU_lt (by omega)) (by omega) (by omega) ((hT.i m1).i m2) (by rw [hg2, uc_s, upd_s]; rfl) (fun j hj => by rw [hg2, uc_n (by decide)]; exact r1 j hj) M00_pw
  have e : f_X12_readAll_11 FU (g2, RF p q w v ds) 83 1 = _ := e
  refine ⟨g', ?_, (m1.tr m2).tr m', r'⟩
  unfold f_X12_readAll f_X12_begin
  revert e e1
  generalize f_X12_readAll_11 FU = lf
  generalize f_X12_begin_2 FU = cf
  intro e1 e
  rw [gd_t (show kd 83 = 12 from rfl), gd_t (show kd 83 = 12 from rfl), e1, bd_w, lt_w, ← hg2]
  exact e
end T
theorem S_fault : Sp0 Inv f_X11_fault f_X12_fault := by
  rintro h ⟨g, p, q, w, v, ds, n, np, kind, rfl, hV⟩
  obtain ⟨m, t1, t2, t3, t4⟩ := hV.2.2.2.2.2.2.2.2.2.2
  obtain ⟨c, hX, hM⟩ := tx_of t1 t2 t3 t4
  have hq := hV.q
  obtain ⟨kq, -⟩ := Pk hq
  obtain ⟨g1, e1, s1, h1, -⟩ := X_into (p := p) (q := q) (w := w) (v := v) (ds := ds) hq hX
  have e83 : g1 83 = g 83 := s1 83 (by simp; omega)
  have T1 : TM (th g1) c m := ⟨by rw [th_83 (by decide), e83]; exact t3, t1, by rw [th_n (by decide), s1 89 (by simp; omega)]; exact hM.2.2⟩
  obtain ⟨g2, e2, m2, -⟩ := M_rdA (p := p) (q := q) (w := w) (v := v) (ds := ds) T1
  refine ⟨rsv (rdl c m), (g1, RF p q w v ds), (g2, RF p q w v ds), ?_, ?_, g2, p, q, w, v, ds, n, np, kind, rfl, hV.rd ?_ ?_ ?_⟩
  · unfold f_X11_fault
    revert e1
    generalize f_X8_readInto = rf
    intro e1
    rw [gd_t (show kd 1 = 11 from rfl)]
    simp only [r_1_0, r_1_1, r_1_2, r_1_3, r_1_4, r_1_5, r_1_6, r_1_7, r_1_8, r_1_9, r_1_10, r_1_11, k_1, n_1, k_2, kq, gd, if_true, reduceIte]
    rw [e1, bd_w]
  · unfold f_X12_fault
    revert e2
    generalize f_X12_readAll = rf
    intro e2
    rw [gd_t (show kd 83 = 12 from rfl), th_lt, e2, bd_w]
  · exact Sb.tr (Sb.tr (s1.mono (by simp)) (by unfold th; exact Sb.rf.uc (by simp))) (m2.1.mono (by simp))
  · intro j h3 h4; rw [m2.1 2 (by decide), th_n (by decide)]; exact h1 j h3 h4
  · intro j h0 h10; rw [m2.2 j h10, th_83 h0, e83]
/-! a new port -/
theorem PW.cg {M M' : Nat → Int32} {n np kind : Nat} (h : PW M n np kind) (e : ∀ j, j < 59 → M' j = M j) : PW M' n np kind := by
  obtain ⟨p1, p2, p3, p4, p5, p6, ⟨ll, p7, p7'⟩, ⟨lh, p8, p8'⟩, p9, p10, p11⟩ := h
  exact ⟨by rw [e 0 (by decide)]; exact p1, p2, by rw [e 1 (by decide)]; exact p3, p4, by rw [e 2 (by decide)]; exact p5, p6, ⟨ll, p7, by rw [e 3 (by decide)]; exact p7'⟩, ⟨lh, p8, by rw [e 4 (by decide)]; exact p8'⟩, fun j hj => by rw [e (5 + j) (by omega)]; exact p9 j hj, fun j hj => by rw [e (29 + j) (by omega)]; exact p10 j hj, fun i hi => by rw [e (53 + i) (by omega)]; exact p11 i hi⟩
theorem PRg.cg {g : Nat → Nat → Int32} {a : Nat} {M M' : Nat → Int32} (h : PRg g a M) (e : ∀ j, j < 59 → M' j = M j) : PRg g a M' := by
  refine ⟨fun k hk => by rw [e k (by omega)]; exact h.1 k hk, fun j hj => by rw [e (5 + j) (by omega)]; exact h.2.1 j hj, fun i hi j hj => ?_, fun i hi => by rw [e (53 + i) (by omega)]; exact h.2.2.2 i hi⟩
  rw [h.2.2.1 i hi j hj]
  by_cases f : j < 24
  · rw [e (29 + j) (by omega)]
  · rw [decide_eq_false f, Bool.false_and, Bool.false_and]
theorem sr_p (g : Nat → Nat → Int32) (p q w v : Nat) (ds : Nat → Nat) (a : Nat) : sr (g, RF p q w v ds) 1 1 a = (g, RF a q w v ds) := by
  unfold sr
  congr 1
  funext b j
  by_cases h : b = 1
  · subst h
    show (if j = 1 then a else if j = 1 then p else if j = 2 then q else rho0 1 j) = (if j = 1 then a else if j = 2 then q else rho0 1 j)
    by_cases h0 : j = 1
    · rw [if_pos h0, if_pos h0]
    · rw [if_neg h0, if_neg h0, if_neg h0]
  · show (if b = 1 then _ else RF p q w v ds b) j = _
    rw [if_neg h]
    unfold RF
    simp only [if_neg h]
theorem sr_q (g : Nat → Nat → Int32) (p q w v : Nat) (ds : Nat → Nat) (a : Nat) : sr (g, RF p q w v ds) 1 2 a = (g, RF p a w v ds) := by
  unfold sr
  congr 1
  funext b j
  by_cases h : b = 1
  · subst h
    show (if j = 2 then a else if j = 1 then p else if j = 2 then q else rho0 1 j) = (if j = 1 then p else if j = 2 then a else rho0 1 j)
    by_cases h0 : j = 2
    · rw [if_pos h0, if_neg (by omega), if_pos h0]
    · rw [if_neg h0, if_neg h0, if_neg h0]
  · show (if b = 1 then _ else RF p q w v ds b) j = _
    rw [if_neg h]
    unfold RF
    simp only [if_neg h]
theorem lt_sp {α : Type} (g : Nat → Nat → Int32) (p q w v : Nat) (ds : Nat → Nat) (a : Nat) (K : Hp → Option α) : lt (sr (g, RF p q w v ds) 1 1 a) K = K (g, RF a q w v ds) := by rw [sr_p]; rfl
theorem lt_sq {α : Type} (g : Nat → Nat → Int32) (p q w v : Nat) (ds : Nat → Nat) (a : Nat) (K : Hp → Option α) : lt (sr (g, RF p q w v ds) 1 2 a) K = K (g, RF p a w v ds) := by rw [sr_q]; rfl
section T
variable {p q w v : Nat} {ds : Nat → Nat}
theorem X_prx {g : Nat → Nat → Int32} {M : Nat → Int32} {n np kind a x u : Nat} (ha : a = 5 ∨ a = 9) (hM : PW M n np kind) (hR : PRg g a M) (hx : 1 ≤ x ∧ x ≤ 24) (hu : 1 ≤ u ∧ u ≤ 3) : f_X4_price (g, RF p q w v ds) a (I x) (I u) = some (I (wC M n x u - 1000), (g, RF p q w v ds)) := by
  obtain ⟨ka, k1, k2, k3, z1, z2, z3⟩ := Pk ha
  obtain ⟨r5, r6, r7⟩ := Prx ha p q w v ds
  obtain ⟨p1, p2, p3, p4, p5, p6, ⟨ll, p7, p7'⟩, ⟨lh, p8, p8'⟩, p9, p10, p11⟩ := hM
  have a0 : g a 0 = I n := by rw [hR.1 0 (by decide)]; exact p1
  have xN := X_isNumber (p := p) (q := q) (w := w) (v := v) (ds := ds) (c := M) (M := M) ka a0 p2.2 (I (x : Int))
  rw [I_tN (show x < 1000000 by omega)] at xN
  unfold f_X4_price
  rw [gd_t ka, xN, bd_w]
  unfold wC
  by_cases hn : x ≤ n
  · rw [if_pos (show (1 : Int) ≤ (x : Int) ∧ (x : Int) ≤ n by omega), if_neg (by decide), if_pos hn]
    obtain ⟨cc, c1, c2⟩ := p9 (x - 1) (by omega)
    have ec : g (a + 1) x = I (cc : Nat) := by
      have := hR.2.1 (x - 1) (by omega)
      rw [show x - 1 + 1 = x by omega] at this
      rw [this, c2]
    have em : M (4 + x) = I (cc : Nat) := by rw [show 4 + x = 5 + (x - 1) by omega]; exact c2
    have e3 : g a 3 = I (ll : Nat) := by rw [hR.1 3 (by decide)]; exact p7'
    have e4 : g a 4 = I (lh : Nat) := by rw [hR.1 4 (by decide)]; exact p8'
    have ew : wM M x u - 1000 = (cc : Int) + (if u = 2 then (ll : Int) else if u = 3 then (lh : Int) else 0) := by
      unfold wM
      rw [if_pos hx, em, p7', p8', I_tN (show cc < 1000000 by omega), I_tN (show ll < 1000000 by omega), I_tN (show lh < 1000000 by omega)]
      omega
    rw [ew]
    simp only [r5, k1, z1, gd, if_true, reduceIte, I_in (show x < 25 by omega) (show 25 < 1000000 by decide), I_ix (show x < 1000000 by omega), ec, e3, e4]
    have : u = 1 ∨ u = 2 ∨ u = 3 := by omega
    rcases this with rfl | rfl | rfl
    · rw [if_neg (show ¬ I ((1 : Nat) : Int) = (2 : Int32) by decide), if_neg (show ¬ I ((1 : Nat) : Int) = (3 : Int32) by decide), if_neg (by decide), if_neg (by decide), Int32.add_zero, Int.add_zero]
    · rw [if_pos (show I ((2 : Nat) : Int) = (2 : Int32) by decide), if_pos rfl, I_add]
    · rw [if_neg (show ¬ I ((3 : Nat) : Int) = (2 : Int32) by decide), if_pos (show I ((3 : Nat) : Int) = (3 : Int32) by decide), if_neg (by decide), if_pos rfl, I_add]
  · rw [if_neg (show ¬ ((1 : Int) ≤ (x : Int) ∧ (x : Int) ≤ n) by omega), if_pos rfl, if_neg hn]
    rfl
theorem X_sp15 (k8 : Hp → Nat → Nat → Int32 → Option (Unit × Hp)) {M : Nat → Int32} {n np kind a u : Nat} (ha : a = 5 ∨ a = 9) (hM : PW M n np kind) (hu : 1 ≤ u ∧ u ≤ 3) : ∀ (r fu x : Nat) (g : Nat → Nat → Int32), r < fu → x + r = 25 → 1 ≤ x → PRg g a M → (∀ y, 1 ≤ y → y < x → g 67 (u * 25 + y) = I (wC M n y u - 1000)) →
    ∃ g', f_X7_setPort_15 k8 fu (g, RF p q w v ds) 62 a (I u) (I x) = k8 (g', RF p q w v ds) 62 a (I ((u + 1 : Nat) : Int)) ∧ Sb [67] g g' ∧ (∀ j, j < 25 * u → g' 67 j = g 67 j) ∧ ∀ y, 1 ≤ y → y < 25 → g' 67 (u * 25 + y) = I (wC M n y u - 1000) := by
  intro r
  induction r with
  | zero =>
    intro fu x g hf hx hx1 hR hI
    obtain ⟨fu, rfl⟩ : ∃ k, fu = k + 1 := ⟨fu - 1, by omega⟩
    have : x = 25 := by omega
    subst this
    refine ⟨g, ?_, Sb.rf, fun _ _ => rfl, hI⟩
    simp only [f_X7_setPort_15]
    rw [if_pos (by decide), I_s]
  | succ r ih =>
    intro fu x g hf hx hx1 hR hI
    obtain ⟨fu, rfl⟩ : ∃ k, fu = k + 1 := ⟨fu - 1, by omega⟩
    obtain ⟨g1, hg1⟩ : ∃ g1, g1 = uc g 67 (upd (g 67) (u * 25 + x) (I (wC M n x u - 1000))) := ⟨_, rfl⟩
    have s1 : Sb [67] g g1 := by rw [hg1]; exact Sb.rf.uc (by decide)
    obtain ⟨g', e, s', h1, h2⟩ := ih fu (x + 1) g1 (by omega) (by omega) (by omega) (by
      unfold PRg
      rw [s1 a (by simp; omega), s1 (a + 1) (by simp; omega), s1 (a + 2) (by simp; omega), s1 (a + 3) (by simp; omega)]
      exact hR) (fun y h1 h2 => by
      rw [hg1, uc_s]
      by_cases c : y = x
      · subst c; rw [upd_s]
      · rw [upd_n (by omega)]; exact hI y h1 (by omega))
    refine ⟨g', ?_, Sb.tr s1 s', fun j hj => by rw [h1 j hj, hg1, uc_s, upd_n (by omega)], h2⟩
    rw [← e]
    have e25 : I (u : Int) * 25 + I (x : Int) = I ((u * 25 + x : Nat) : Int) := by rw [show (25 : Int32) = I 25 from rfl, I_mul, I_add]; congr 1
    simp only [f_X7_setPort_15]
    generalize f_X7_setPort_15 k8 fu = lf
    rw [if_neg (fun z => by have := (I_lt (a := 24) (by omega) (by omega)).mp z; omega)]
    simp only [r_61_0, r_61_1, r_61_2, r_61_3, r_61_4, r_61_5, r_61_6, r_61_7, r_62_4, r_62_5, r_62_6, r_62_7, r_62_8, k_61, n_61, k_62, n_62, k_63, n_63, k_64, n_64, k_65, n_65, k_66, n_66, k_67, n_67, k_68, n_68, k_69, n_69, k_70, n_70, k_71, n_71, k_72, n_72, k_73, n_73, k_74, n_74, gd, if_true, reduceIte]
    rw [X_prx ha hM hR (by omega) hu, bd_w, e25]
    simp only [I_in (show u * 25 + x < 100 by omega) (show 100 < 1000000 by decide), I_ix (show u * 25 + x < 1000000 by omega), if_true, reduceIte]
    rw [lt_w, ← hg1, I_s]
theorem X_sp8 {M : Nat → Int32} {n np kind a : Nat} (ha : a = 5 ∨ a = 9) (hM : PW M n np kind) : ∀ (r fu u : Nat) (g : Nat → Nat → Int32), r < fu → u + r = 4 → 1 ≤ u → PRg g a M → (∀ t, 1 ≤ t → t < u → ∀ y, 1 ≤ y → y < 25 → g 67 (t * 25 + y) = I (wC M n y t - 1000)) →
    ∃ g', f_X7_setPort_8 fu (g, RF p q w v ds) 62 a (I u) = some ((), (g', RF p q w v ds)) ∧ Sb [67] g g' ∧ ∀ t, 1 ≤ t → t < 4 → ∀ y, 1 ≤ y → y < 25 → g' 67 (t * 25 + y) = I (wC M n y t - 1000) := by
  intro r
  induction r with
  | zero =>
    intro fu u g hf hu hu1 hR hI
    obtain ⟨fu, rfl⟩ : ∃ k, fu = k + 1 := ⟨fu - 1, by omega⟩
    have : u = 4 := by omega
    subst this
    refine ⟨g, ?_, Sb.rf, hI⟩
    rw [f_X7_setPort_8]
    exact if_pos (by decide)
  | succ r ih =>
    intro fu u g hf hu hu1 hR hI
    obtain ⟨fu, rfl⟩ : ∃ k, fu = k + 1 := ⟨fu - 1, by omega⟩
    obtain ⟨g1, e1, s1, h1, h2⟩ := X_sp15 (p := p) (q := q) (w := w) (v := v) (ds := ds) (f_X7_setPort_8 fu) ha hM (u := u) (by omega) 24 FU 1 g (FU_lt (by omega)) (by omega) (by omega) hR (fun y h1 h2 => absurd h2 (by omega))
    obtain ⟨g', e, s', h'⟩ := ih fu (u + 1) g1 (by omega) (by omega) (by omega) (by
      unfold PRg
      rw [s1 a (by simp; omega), s1 (a + 1) (by simp; omega), s1 (a + 2) (by simp; omega), s1 (a + 3) (by simp; omega)]
      exact hR) (fun t t1 t2 y y1 y2 => by
      by_cases c : t = u
      · subst c; exact h2 y y1 y2
      · have : t * 25 + 25 ≤ u * 25 := by have := Nat.mul_le_mul_right 25 (show t + 1 ≤ u by omega); omega
        rw [h1 _ (by omega)]; exact hI t t1 (by omega) y y1 y2)
    refine ⟨g', ?_, Sb.tr s1 s', h'⟩
    rw [← e, ← e1, f_X7_setPort_8]
    exact if_neg (fun z => by have := (I_lt (a := 3) (by omega) (by omega)).mp z; omega)
theorem X_fg10 : ∀ (r fu i : Nat) (g : Nat → Nat → Int32), r < fu → i + r = 800 → (∀ j, j < i → g 69 j = -4) →
    ∃ g', f_X5_forget_10 fu (g, RF p q w v ds) 61 (I i) = some ((), (g', RF p q w v ds)) ∧ Sb [69] g g' ∧ ∀ j, j < 800 → g' 69 j = -4 := by
  intro r
  induction r with
  | zero =>
    intro fu i g hf hi hI
    obtain ⟨fu, rfl⟩ : ∃ k, fu = k + 1 := ⟨fu - 1, by omega⟩
    have : i = 800 := by omega
    subst this
    refine ⟨g, ?_, Sb.rf, hI⟩
    rw [f_X5_forget_10]
    exact if_pos (by decide)
  | succ r ih =>
    intro fu i g hf hi hI
    obtain ⟨fu, rfl⟩ : ∃ k, fu = k + 1 := ⟨fu - 1, by omega⟩
    obtain ⟨g', e, s', h'⟩ := ih fu (i + 1) (uc g 69 (upd (g 69) i (-4))) (by omega) (by omega) (fun j hj => by
      rw [uc_s]
      by_cases c : j = i
      · subst c; rw [upd_s]
      · rw [upd_n c]; exact hI j (by omega))
    refine ⟨g', ?_, fun b hb => by rw [s' b hb, uc_n (fun z => hb (by rw [z]; decide))], h'⟩
    rw [← e]
    simp only [f_X5_forget_10]
    rw [if_neg (fun z => by have := (I_le (a := 800) (by omega) (by omega)).mp z; omega)]
    simp only [r_61_0, r_61_1, r_61_2, r_61_3, r_61_4, r_61_5, r_61_6, r_61_7, r_62_4, r_62_5, r_62_6, r_62_7, r_62_8, k_61, n_61, k_62, n_62, k_63, n_63, k_64, n_64, k_65, n_65, k_66, n_66, k_67, n_67, k_68, n_68, k_69, n_69, k_70, n_70, k_71, n_71, k_72, n_72, k_73, n_73, k_74, n_74, gd, if_true, reduceIte, I_in (show i < 800 by omega) (show 800 < 1000000 by decide), I_ix (show i < 1000000 by omega), lt_w, I_s]
theorem X_forget {g : Nat → Nat → Int32} {M : Nat → Int32} {n np kind a : Nat} (ha : a = 5 ∨ a = 9) (hM : PW M n np kind) (hR : PRg g a M) (h74 : ∀ x, 1 ≤ x → x ≤ 99 → ∃ t : Nat, t < 8 ∧ g 74 x = I t) :
    ∃ g', f_X5_forget (g, RF p q w v ds) 61 a = some ((), (g', RF p q w v ds)) ∧ Sb [62, 67, 69] g g' ∧ SX M n g' := by
  obtain ⟨ka, -⟩ := Pk ha
  obtain ⟨g1, hg1⟩ : ∃ g1, g1 = uc g 62 (upd (g 62) 11 (-4)) := ⟨_, rfl⟩
  have s1 : Sb [62] g g1 := by rw [hg1]; exact Sb.rf.uc (by decide)
  obtain ⟨g2, e2, s2, h2⟩ := X_sp8 (p := p) (q := q) (w := w) (v := v) (ds := ds) ha hM 3 FU 1 g1 (FU_lt (by omega)) (by omega) (by omega) (by
      unfold PRg
      rw [s1 a (by simp; omega), s1 (a + 1) (by simp; omega), s1 (a + 2) (by simp; omega), s1 (a + 3) (by simp; omega)]
      exact hR) (fun t t1 t2 => absurd t2 (by omega))
  have e2 : f_X7_setPort_8 FU (g1, RF p q w v ds) 62 a 1 = _ := e2
  obtain ⟨g3, e3, s3, h3⟩ := X_fg10 (p := p) (q := q) (w := w) (v := v) (ds := ds) 800 FU 0 g2 (FU_lt (by omega)) (by omega) (fun j hj => absurd hj (by omega))
  have e3 : f_X5_forget_10 FU (g2, RF p q w v ds) 61 0 = _ := e3
  refine ⟨g3, ?_, Sb.tr (Sb.tr (s1.mono (by decide)) (s2.mono (by decide))) (s3.mono (by decide)), fun x u x1 x2 u1 u2 => ?_, Or.inl ?_, fun b s b1 b2 b3 b4 => Or.inl (h3 s (by omega)), fun x x1 x2 => ?_⟩
  · unfold f_X5_forget f_X7_setPort
    revert e2 e3
    generalize f_X7_setPort_8 FU = lf
    generalize f_X5_forget_10 FU = lf2
    intro e2 e3
    rw [gd_t (show kd 61 = 5 from rfl), gd_t ka]
    simp only [r_61_0, r_61_1, r_61_2, r_61_3, r_61_4, r_61_5, r_61_6, r_61_7, r_62_4, r_62_5, r_62_6, r_62_7, r_62_8, k_61, n_61, k_62, n_62, k_63, n_63, k_64, n_64, k_65, n_65, k_66, n_66, k_67, n_67, k_68, n_68, k_69, n_69, k_70, n_70, k_71, n_71, k_72, n_72, k_73, n_73, k_74, n_74, ka, gd, if_true, reduceIte]
    rw [lt_w, ← hg1, e2, bd_w]
    exact e3
  · have hb := wM_b hM x u
    refine ⟨by rw [s3 67 (by decide)]; exact h2 u (by omega) (by omega) x x1 (by omega), ?_⟩
    unfold wC
    split
    · exact hb
    · omega
  · rw [s3 62 (by decide), s2 62 (by decide), hg1, uc_s, upd_s]; rfl
  · rw [s3 74 (by decide), s2 74 (by decide), s1 74 (by decide)]; exact h74 x x1 x2
end T
