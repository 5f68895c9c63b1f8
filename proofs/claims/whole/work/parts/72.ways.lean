/-! in how many ways: the sums of told numbers -/
def ps (W : Int → Int32) (x : Nat) (s : Int) : Nat → Int32
  | 0 => 0
  | u + 1 => ps W x s u + (if cst x (u + 1) then W (s - cn x (u + 1)) else 0)
def WA (c set : Int32) (l : Nat) : Nat → Int → Int32
  | 0 => fun s => if s = 0 then c else 0
  | k + 1 => if bt set k then fun s => ps (WA c set l k) (k + 1) s l else WA c set l k
def BA (set : Int32) : Nat → Nat
  | 0 => 0
  | k + 1 => if bt set k then BA set k + (k + 1) else BA set k
theorem BA_le (set : Int32) : ∀ k, 2 * BA set k ≤ k * (k + 1) := by
  intro k
  induction k with
  | zero => exact Nat.le_refl _
  | succ k ih =>
    have e : (k + 1) * (k + 1 + 1) = k * (k + 1) + 2 * (k + 1) := by rw [Nat.mul_comm (k + 1), Nat.succ_mul, Nat.succ_mul]; omega
    unfold BA
    split <;> omega
theorem BA_300 (set : Int32) {k : Nat} (hk : k ≤ 24) : BA set k ≤ 300 := by
  have := BA_le set k
  have h2 : k * (k + 1) ≤ 24 * 25 := Nat.mul_le_mul hk (by omega)
  omega
theorem BA_step {set : Int32} {k : Nat} (hk : k < 24) (hb : bt set k = true) : BA set k + (k + 1) ≤ 300 := by
  have := BA_300 set (show k + 1 ≤ 24 by omega)
  unfold BA at this
  rw [if_pos hb] at this
  exact this
theorem ps_far {W : Int → Int32} {b x : Nat} (hW : ∀ s : Int, s < -(b : Int) ∨ (b : Int) < s → W s = 0) {s : Int} (hs : s < -((b + x : Nat) : Int) ∨ ((b + x : Nat) : Int) < s) : ∀ u, u ≤ 3 → ps W x s u = 0 := by
  intro u
  induction u with
  | zero => intro _; rfl
  | succ u ih =>
    intro hu
    have := cn_abs (x := x) (u := u + 1) (by omega) hu
    unfold ps
    rw [ih (by omega), hW _ (by omega)]
    split <;> rfl
theorem WA_far {c set : Int32} {l : Nat} (hl : l ≤ 3) : ∀ k (s : Int), s < -((BA set k : Nat) : Int) ∨ ((BA set k : Nat) : Int) < s → WA c set l k s = 0 := by
  intro k
  induction k with
  | zero => intro s hs; unfold BA at hs; unfold WA; exact if_neg (by omega)
  | succ k ih =>
    intro s hs
    unfold WA
    unfold BA at hs
    by_cases hb : bt set k = true
    · rw [if_pos hb] at hs ⊢
      exact ps_far ih hs l hl
    · rw [if_neg hb] at hs ⊢
      exact ih s hs
theorem WA_more {c set : Int32} {l n : Nat} (h : LO n set) : ∀ m, n + m ≤ 32 → WA c set l (n + m) = WA c set l n := by
  intro m
  induction m with
  | zero => intro _; rfl
  | succ m ih =>
    intro hm
    rw [← ih (by omega)]
    show (if bt set (n + m) then _ else WA c set l (n + m)) = _
    rw [if_neg (by rw [h (n + m) (by omega) (by omega)]; decide)]
theorem ps_zero (x : Nat) (s : Int) : ∀ u, ps (fun _ => 0) x s u = 0 := by
  intro u
  induction u with
  | zero => rfl
  | succ u ih => unfold ps; rw [ih]; split <;> rfl
theorem WA_zero (set : Int32) (l : Nat) : ∀ k, WA 0 set l k = fun _ => 0 := by
  intro k
  induction k with
  | zero => funext s; show (if s = 0 then (0 : Int32) else 0) = 0; split <;> rfl
  | succ k ih =>
    unfold WA
    rw [ih]
    split
    · funext s; exact ps_zero _ _ _
    · rfl
def WV (w v : Nat) : Prop := (w = 59 ∧ v = 60) ∨ (w = 60 ∧ v = 59)
theorem sr_w (g : Nat → Nat → Int32) (p q w v : Nat) (ds : Nat → Nat) (a : Nat) : sr (g, RF p q w v ds) 58 0 a = (g, RF p q a v ds) := by
  unfold sr
  congr 1
  funext b j
  by_cases h : b = 58
  · subst h
    show (if j = 0 then a else if j = 0 then w else if j = 1 then v else rho0 58 j) = (if j = 0 then a else if j = 1 then v else rho0 58 j)
    by_cases h0 : j = 0
    · rw [if_pos h0, if_pos h0]
    · rw [if_neg h0, if_neg h0, if_neg h0]
  · show (if b = 58 then _ else RF p q w v ds b) j = _
    rw [if_neg h]
    unfold RF
    simp only [if_neg h]
theorem sr_v (g : Nat → Nat → Int32) (p q w v : Nat) (ds : Nat → Nat) (a : Nat) : sr (g, RF p q w v ds) 58 1 a = (g, RF p q w a ds) := by
  unfold sr
  congr 1
  funext b j
  by_cases h : b = 58
  · subst h
    show (if j = 1 then a else if j = 0 then w else if j = 1 then v else rho0 58 j) = (if j = 0 then w else if j = 1 then a else rho0 58 j)
    by_cases h0 : j = 1
    · rw [if_pos h0, if_neg (by omega), if_pos h0]
    · rw [if_neg h0, if_neg h0, if_neg h0]
  · show (if b = 58 then _ else RF p q w v ds b) j = _
    rw [if_neg h]
    unfold RF
    simp only [if_neg h]
theorem lt_sw {α : Type} (g : Nat → Nat → Int32) (p q w v : Nat) (ds : Nat → Nat) (a : Nat) (K : Hp → Option α) : lt (sr (g, RF p q w v ds) 58 0 a) K = K (g, RF p q a v ds) := by rw [sr_w]; rfl
theorem lt_sv {α : Type} (g : Nat → Nat → Int32) (p q w v : Nat) (ds : Nat → Nat) (a : Nat) (K : Hp → Option α) : lt (sr (g, RF p q w v ds) 58 1 a) K = K (g, RF p q w a ds) := by rw [sr_v]; rfl
theorem WV.k {w v : Nat} (h : WV w v) : kd w = 13 ∧ kd v = 13 ∧ ln w = 601 ∧ ln v = 601 ∧ w ≠ v ∧ v ≠ w ∧ w ≠ 58 ∧ v ≠ 58 ∧ 58 ≠ w ∧ 58 ≠ v := by
  rcases h with ⟨rfl, rfl⟩ | ⟨rfl, rfl⟩ <;> decide
theorem lu3 (k : Nat) : lastU k ≤ 3 := by
  unfold lastU
  split
  · omega
  · split <;> omega
theorem lu_k {k : Nat} (h : k ≤ 3) (h0 : k ≠ 0) : lastU k = k := by
  unfold lastU
  split
  · omega
  · split <;> omega
theorem I_s1 (s : Int) : I s + 1 = I (s + 1) := I_add s 1
theorem I_300 (s : Int) : (300 : Int32) + I s = I (300 + s) := by rw [I_lit, I_add]
section T
variable {p q w v : Nat} {ds : Nat → Nat}
theorem X_jn17 (hw : WV w v) {x l b : Nat} (hb : b + x ≤ 300) : ∀ (m fu : Nat) (s : Int) (g : Nat → Nat → Int32), m < fu → s + m = ((b + x : Nat) : Int) + 1 → -((b + x : Nat) : Int) ≤ s →
    ∃ g', f_X9_join_17 fu (g, RF p q w v ds) 58 (I x) (I l) (I ((b + x : Nat) : Int)) (I s) = f_X9_join_44 FU (g', RF p q w v ds) 58 (I x) (I l) (I ((b + x : Nat) : Int)) 1 ∧ Sb [v] g g' ∧ ∀ t : Int, -((b + x : Nat) : Int) ≤ t → t ≤ ((b + x : Nat) : Int) → g' v (300 + t).toNat = if s ≤ t then 0 else g v (300 + t).toNat := by
  obtain ⟨kw, kv, lw, lv, n1, n2, n3, n4, n5, n6⟩ := hw.k
  intro m
  induction m with
  | zero =>
    intro fu s g hf hk hs
    obtain ⟨fu, rfl⟩ : ∃ k, fu = k + 1 := ⟨fu - 1, by omega⟩
    refine ⟨g, ?_, Sb.rf, fun t h1 h2 => (if_neg (by omega)).symm⟩
    have c1 : I ((b + x : Nat) : Int) < I s := (I_lt (by omega) (by omega)).mpr (by omega)
    rw [f_X9_join_17]
    exact if_pos c1
  | succ m ih =>
    intro fu s g hf hk hs
    obtain ⟨fu, rfl⟩ : ∃ k, fu = k + 1 := ⟨fu - 1, by omega⟩
    have c1 : ¬ I ((b + x : Nat) : Int) < I s := fun z => by have := (I_lt (by omega) (by omega)).mp z; omega
    obtain ⟨g', e, s', ht⟩ := ih fu (s + 1) (uc g v (upd (g v) (300 + s).toNat 0)) (by omega) (by omega) (by omega)
    refine ⟨g', ?_, fun a ha => by rw [s' a ha, uc_n (fun z => ha (by rw [z]; exact List.mem_singleton_self _))], fun t h1 h2 => ?_⟩
    · rw [← e]
      simp only [f_X9_join_17]
      rw [if_neg c1]
      simp only [r_58_1, kv, lv, gd, if_true, reduceIte, I_300, I_inr (show 0 ≤ 300 + s by omega) (show 300 + s < (601 : Nat) by omega) (by decide), I_cl (show -2147483648 ≤ 300 + s by omega) (show 300 + s < 2147483648 by omega), lt_w]
      rw [I_s1]
    · rw [ht t h1 h2, uc_s]
      by_cases c : s + 1 ≤ t
      · rw [if_pos c, if_pos (by omega)]
      · rw [if_neg c]
        by_cases c2 : t = s
        · rw [c2, upd_s, if_pos (Int.le_refl _)]
        · rw [upd_n (by omega), if_neg (by omega)]
theorem X_jn65 (hw : WV w v) (k : Hp → Nat → Int32 → Int32 → Int32 → Int32 → Option (Unit × Hp)) {x l b u : Nat} (hx : x ≤ 24) (hb : b + x ≤ 300) (hu : 1 ≤ u ∧ u ≤ 3) {W : Int → Int32} : ∀ (m fu : Nat) (s : Int) (g : Nat → Nat → Int32), m < fu → s + m = (b : Int) + 1 → -(b : Int) ≤ s → g 58 2 = I b → (∀ t : Int, -(b : Int) ≤ t → t ≤ b → g w (300 + t).toNat = W t) →
    ∃ g', f_X9_join_65 k fu (g, RF p q w v ds) 58 (I x) (I l) (I ((b + x : Nat) : Int)) (I u) (I (cn x u)) (I s) = k (g', RF p q w v ds) 58 (I x) (I l) (I ((b + x : Nat) : Int)) (I ((u + 1 : Nat) : Int)) ∧ Sb [v] g g' ∧ ∀ t : Int, -((b + x : Nat) : Int) ≤ t → t ≤ ((b + x : Nat) : Int) → g' v (300 + t).toNat = g v (300 + t).toNat + (if cst x u = true ∧ s ≤ t - cn x u ∧ t - cn x u ≤ b then W (t - cn x u) else 0) := by
  obtain ⟨kw, kv, lw, lv, n1, n2, n3, n4, n5, n6⟩ := hw.k
  have hc := cn_abs (x := x) hu.1 hu.2
  intro m
  induction m with
  | zero =>
    intro fu s g hf hk hs h58 hW
    obtain ⟨fu, rfl⟩ : ∃ k, fu = k + 1 := ⟨fu - 1, by omega⟩
    refine ⟨g, ?_, Sb.rf, fun t h1 h2 => by rw [if_neg (by omega), Int32.add_zero]⟩
    have c1 : I (b : Int) < I s := (I_lt (by omega) (by omega)).mpr (by omega)
    rw [f_X9_join_65]
    simp only [h58, if_pos c1, I_s]
  | succ m ih =>
    intro fu s g hf hk hs h58 hW
    obtain ⟨fu, rfl⟩ : ∃ k, fu = k + 1 := ⟨fu - 1, by omega⟩
    have c1 : ¬ I (b : Int) < I s := fun z => by have := (I_lt (by omega) (by omega)).mp z; omega
    have e0 : f_X9_join_65 k (fu + 1) (g, RF p q w v ds) 58 (I x) (I l) (I ((b + x : Nat) : Int)) (I u) (I (cn x u)) (I s) = if (if cst x u then (1 : Int32) else 0) = 0 then k (g, RF p q w v ds) 58 (I x) (I l) (I ((b + x : Nat) : Int)) (I ((u + 1 : Nat) : Int)) else f_X9_join_65 k fu (uc g v (upd (g v) (300 + s + cn x u).toNat (g v (300 + s + cn x u).toNat + W s)), RF p q w v ds) 58 (I x) (I l) (I ((b + x : Nat) : Int)) (I u) (I (cn x u)) (I (s + 1)) := by
      rw [f_X9_join_65]
      simp only [h58, if_neg c1, X_canStand _ (show x ≤ 1000 by omega) hu.1 hu.2, bd_w, r_58_0, r_58_1, kv, kw, lv, lw, gd, if_true, reduceIte, I_300, I_add, I_inr (show 0 ≤ 300 + s by omega) (show 300 + s < (601 : Nat) by omega) (by decide), I_cl (show -2147483648 ≤ 300 + s by omega) (show 300 + s < 2147483648 by omega), I_inr (show 0 ≤ 300 + s + cn x u by omega) (show 300 + s + cn x u < (601 : Nat) by omega) (by decide), I_cl (show -2147483648 ≤ 300 + s + cn x u by omega) (show 300 + s + cn x u < 2147483648 by omega), lt_w, hW s hs (by omega), I_s]
      rw [I_s1]
    rw [e0]
    by_cases hcs : cst x u = true
    · rw [if_neg (by rw [if_pos hcs]; decide)]
      obtain ⟨g', e, s', ht⟩ := ih fu (s + 1) (uc g v (upd (g v) (300 + s + cn x u).toNat (g v (300 + s + cn x u).toNat + W s))) (by omega) (by omega) (by omega) (by rw [uc_n n6]; exact h58) (fun t h1 h2 => by rw [uc_n n1]; exact hW t h1 h2)
      refine ⟨g', e, fun a ha => by rw [s' a ha, uc_n (fun z => ha (by rw [z]; exact List.mem_singleton_self _))], fun t h1 h2 => ?_⟩
      rw [ht t h1 h2, uc_s]
      by_cases c2 : t - cn x u = s
      · rw [if_neg (by omega), if_pos ⟨hcs, by omega, by omega⟩, Int32.add_zero, c2, show 300 + t = 300 + s + cn x u by omega, upd_s]
      · rw [upd_n (by omega)]
        by_cases c3 : s + 1 ≤ t - cn x u ∧ t - cn x u ≤ b
        · rw [if_pos ⟨hcs, c3⟩, if_pos ⟨hcs, by omega, c3.2⟩]
        · rw [if_neg (fun z => c3 z.2), if_neg (fun z => c3 ⟨by omega, z.2.2⟩)]
    · rw [if_pos (by rw [if_neg hcs])]
      exact ⟨g, rfl, Sb.rf, fun t h1 h2 => by rw [if_neg (fun z => hcs z.1), Int32.add_zero]⟩
theorem X_jn44 (hw : WV w v) {x l b : Nat} (hx : x ≤ 24) (hb : b + x ≤ 300) (hl : l ≤ 3) {W : Int → Int32} (hfar : ∀ s : Int, s < -(b : Int) ∨ (b : Int) < s → W s = 0) : ∀ (m fu u : Nat) (g : Nat → Nat → Int32), m < fu → u + m = l → g 58 2 = I b → (∀ t : Int, -(b : Int) ≤ t → t ≤ b → g w (300 + t).toNat = W t) → (∀ t : Int, -((b + x : Nat) : Int) ≤ t → t ≤ ((b + x : Nat) : Int) → g v (300 + t).toNat = ps W x t u) →
    ∃ g', f_X9_join_44 fu (g, RF p q w v ds) 58 (I x) (I l) (I ((b + x : Nat) : Int)) (I ((u + 1 : Nat) : Int)) = some ((), (g', RF p q v w ds)) ∧ Sb [58, v] g g' ∧ g' 58 2 = I ((b + x : Nat) : Int) ∧ ∀ t : Int, -((b + x : Nat) : Int) ≤ t → t ≤ ((b + x : Nat) : Int) → g' v (300 + t).toNat = ps W x t l := by
  obtain ⟨kw, kv, lw, lv, n1, n2, n3, n4, n5, n6⟩ := hw.k
  intro m
  induction m with
  | zero =>
    intro fu u g hf hk h58 hW hV
    obtain ⟨fu, rfl⟩ : ∃ k, fu = k + 1 := ⟨fu - 1, by omega⟩
    have : u = l := by omega
    subst this
    have c1 : I (u : Int) < I ((u + 1 : Nat) : Int) := (I_lt (by omega) (by omega)).mpr (by omega)
    refine ⟨uc g 58 (upd (g 58) 2 (I ((b + x : Nat) : Int))), ?_, Sb.rf.uc (by simp), by rw [uc_s, upd_s], fun t h1 h2 => by rw [uc_n n4]; exact hV t h1 h2⟩
    rw [f_X9_join_44]
    simp only [if_pos c1, r_58_0, r_58_1, kv, kw, gd, if_true, reduceIte, lt_sw, lt_sv, lt_w]
  | succ m ih =>
    intro fu u g hf hk h58 hW hV
    obtain ⟨fu, rfl⟩ : ∃ k, fu = k + 1 := ⟨fu - 1, by omega⟩
    have c1 : ¬ I (l : Int) < I ((u + 1 : Nat) : Int) := fun z => by have := (I_lt (by omega) (by omega)).mp z; omega
    obtain ⟨g1, e1, s1, t1'⟩ := X_jn65 (p := p) (q := q) (ds := ds) (l := l) hw (f_X9_join_44 fu) hx hb (u := u + 1) (by omega) (2 * b + 1) FU (-(b : Int)) g (FU_lt (by omega)) (by omega) (by omega) h58 hW
    have w1 : g1 w = g w := s1 w (by simp; exact n1)
    have w2 : g1 58 = g 58 := s1 58 (by simp; exact n6)
    obtain ⟨g', e, s', h1, h2⟩ := ih fu (u + 1) g1 (by omega) (by omega) (by rw [w2]; exact h58) (fun t a1 a2 => by rw [w1]; exact hW t a1 a2) (fun t a1 a2 => by
      rw [t1' t a1 a2, hV t a1 a2]
      show _ = ps W x t u + (if cst x (u + 1) then W (t - cn x (u + 1)) else 0)
      congr 1
      by_cases c : cst x (u + 1) = true
      · rw [if_pos c]
        by_cases c2 : -(b : Int) ≤ t - cn x (u + 1) ∧ t - cn x (u + 1) ≤ b
        · rw [if_pos ⟨c, c2⟩]
        · rw [if_neg (fun z => c2 z.2), hfar _ (by omega)]
      · rw [if_neg (fun z => c z.1), if_neg c])
    refine ⟨g', ?_, Sb.tr (s1.mono (by simp)) s', h1, h2⟩
    rw [← e]
    simp only [f_X9_join_44]
    rw [if_neg c1, X_countsAs _ (show x ≤ 1000 by omega) (show 1 ≤ u + 1 by omega) (show u + 1 ≤ 3 by omega), bd_w]
    rw [show (g, RF p q w v ds).1 58 2 = I b from h58, I_neg]
    exact e1
theorem X_join (hw : WV w v) {x l b : Nat} (hx : x ≤ 24) (hb : b + x ≤ 300) (hl : l ≤ 3) {W : Int → Int32} (hfar : ∀ s : Int, s < -(b : Int) ∨ (b : Int) < s → W s = 0) {g : Nat → Nat → Int32} (h58 : g 58 2 = I b) (hW : ∀ t : Int, -(b : Int) ≤ t → t ≤ b → g w (300 + t).toNat = W t) :
    ∃ g', f_X9_join (g, RF p q w v ds) 58 (I x) (I l) = some ((), (g', RF p q v w ds)) ∧ Sb [58, v] g g' ∧ g' 58 2 = I ((b + x : Nat) : Int) ∧ ∀ t : Int, -((b + x : Nat) : Int) ≤ t → t ≤ ((b + x : Nat) : Int) → g' v (300 + t).toNat = ps W x t l := by
  obtain ⟨kw, kv, lw, lv, n1, n2, n3, n4, n5, n6⟩ := hw.k
  obtain ⟨g1, e1, s1, t1'⟩ := X_jn17 (p := p) (q := q) (ds := ds) (l := l) hw hb (2 * (b + x) + 1) FU (-((b + x : Nat) : Int)) g (FU_lt (by omega)) (by omega) (by omega)
  have w1 : g1 w = g w := s1 w (by simp; exact n1)
  have w2 : g1 58 = g 58 := s1 58 (by simp; exact n6)
  obtain ⟨g2, e2, s2, h1, h2⟩ := X_jn44 (p := p) (q := q) (ds := ds) hw hx hb hl hfar l FU 0 g1 (FU_lt (by omega)) (by omega) (by rw [w2]; exact h58) (fun t a1 a2 => by rw [w1]; exact hW t a1 a2) (fun t a1 a2 => by rw [t1' t a1 a2, if_pos a1]; rfl)
  refine ⟨g2, ?_, Sb.tr (s1.mono (by simp)) s2, h1, h2⟩
  have c : ¬ I 300 < I ((b + x : Nat) : Int) := fun z => by have := (I_lt (by omega) (by omega)).mp z; omega
  have eb : I (b : Int) + I (x : Int) = I ((b + x : Nat) : Int) := I_k b x
  unfold f_X9_join
  rw [gd_t (show kd 58 = 9 from rfl), show (g, RF p q w v ds).1 58 2 = I b from h58, eb, show (300 : Int32) = I 300 from rfl, if_neg c, I_neg]
  exact e1.trans e2
theorem X_rk32 {set : Int32} {kind : Nat} (hkd : kind ≤ 3) {c : Int32} : ∀ (m fu k w v : Nat) (g : Nat → Nat → Int32), m < fu → k + m = 24 → WV w v → g 58 2 = I (BA set k : Nat) → (∀ t : Int, -((BA set k : Nat) : Int) ≤ t → t ≤ (BA set k : Nat) → g w (300 + t).toNat = WA c set (lastU kind) k t) →
    ∃ g' w' v', f_X9_reckon_32 fu (g, RF p q w v ds) 58 set (I kind) (I ((k + 1 : Nat) : Int)) = some ((), (g', RF p q w' v' ds)) ∧ WV w' v' ∧ Sb [58, 59, 60] g g' ∧ g' 58 2 = I (BA set 24 : Nat) ∧ ∀ t : Int, -((BA set 24 : Nat) : Int) ≤ t → t ≤ (BA set 24 : Nat) → g' w' (300 + t).toNat = WA c set (lastU kind) 24 t := by
  have hl : lastU kind ≤ 3 := lu3 _
  intro m
  induction m with
  | zero =>
    intro fu k w v g hf hk hw h58 hW
    obtain ⟨fu, rfl⟩ : ∃ k, fu = k + 1 := ⟨fu - 1, by omega⟩
    have : k = 24 := by omega
    subst this
    refine ⟨g, w, v, ?_, hw, Sb.rf, h58, hW⟩
    rw [f_X9_reckon_32]
    exact if_pos (by decide)
  | succ m ih =>
    intro fu k w v g hf hk hw h58 hW
    obtain ⟨fu, rfl⟩ : ∃ k, fu = k + 1 := ⟨fu - 1, by omega⟩
    have c1 : ¬ (24 : Int32) < I ((k + 1 : Nat) : Int) := fun z => by have := (I_lt (a := 24) (by omega) (by omega)).mp z; omega
    have e0 : f_X9_reckon_32 (fu + 1) (g, RF p q w v ds) 58 set (I kind) (I ((k + 1 : Nat) : Int)) = if (if bt set k then (1 : Int32) else 0) = 0 then f_X9_reckon_32 fu (g, RF p q w v ds) 58 set (I kind) (I ((k + 1 + 1 : Nat) : Int)) else bd (f_X9_join (g, RF p q w v ds) 58 (I ((k + 1 : Nat) : Int)) (I (lastU kind))) (fun _ h8 => f_X9_reckon_32 fu h8 58 set (I kind) (I ((k + 1 + 1 : Nat) : Int))) := by
      simp only [f_X9_reckon_32]
      rw [if_neg c1, I_p (show 1 ≤ k + 1 by omega), show k + 1 - 1 = k from rfl, X_hasBit _ _ (show k < 32 by omega), bd_w, I_s]
      rw [X_lastUse _ hkd, bd_w]
    rw [e0]
    by_cases hb : bt set k = true
    · obtain ⟨g1, e1, s1, h1, h2⟩ := X_join (p := p) (q := q) (ds := ds) hw (x := k + 1) (by omega) (BA_step (by omega) hb) hl (WA_far (c := c) hl k) h58 hW
      have hBA : BA set (k + 1) = BA set k + (k + 1) := if_pos hb
      have hWA : WA c set (lastU kind) (k + 1) = fun s => ps (WA c set (lastU kind) k) (k + 1) s (lastU kind) := if_pos hb
      obtain ⟨g', w', v', e, hw', s', h3, h4⟩ := ih fu (k + 1) v w g1 (by omega) (by omega) (by unfold WV at *; omega) (by rw [hBA]; exact h1) (by rw [hBA, hWA]; exact h2)
      refine ⟨g', w', v', ?_, hw', Sb.tr (s1.mono (fun a ha => ?_)) s', h3, h4⟩
      · rw [if_neg (by rw [if_pos hb]; decide), e1, bd_w]; exact e
      · simp only [List.mem_cons, List.not_mem_nil, or_false] at ha ⊢
        unfold WV at hw
        omega
    · have hBA : BA set (k + 1) = BA set k := if_neg hb
      have hWA : WA c set (lastU kind) (k + 1) = WA c set (lastU kind) k := if_neg hb
      obtain ⟨g', w', v', e, hw', s', h3, h4⟩ := ih fu (k + 1) w v g (by omega) (by omega) hw (by rw [hBA]; exact h58) (by rw [hBA, hWA]; exact hW)
      exact ⟨g', w', v', by rw [if_pos (by rw [if_neg hb])]; exact e, hw', s', h3, h4⟩
def wc (set : Int32) (kind : Nat) : Int32 := if kind = 0 ∧ pc 32 set ≠ 1 then 0 else 1
def WYS (set : Int32) (kind : Nat) (a : Nat) : Int32 := WA (wc set kind) set (lastU kind) 24 a
theorem X_reckon (hw : WV w v) {set : Int32} {kind : Nat} (hkd : kind ≤ 3) (g : Nat → Nat → Int32) :
    ∃ g' w' v', f_X9_reckon (g, RF p q w v ds) 58 set (I kind) = some ((), (g', RF p q w' v' ds)) ∧ WV w' v' ∧ Sb [58, 59, 60] g g' ∧ g' 58 2 = I (BA set 24 : Nat) ∧ ∀ t : Int, -((BA set 24 : Nat) : Int) ≤ t → t ≤ (BA set 24 : Nat) → g' w' (300 + t).toNat = WA (wc set kind) set (lastU kind) 24 t := by
  obtain ⟨kw, kv, lw, lv, n1, n2, n3, n4, n5, n6⟩ := hw.k
  obtain ⟨g1, hg1⟩ : ∃ g1, g1 = uc g 58 (upd (g 58) 2 0) := ⟨_, rfl⟩
  obtain ⟨g2, hg2⟩ : ∃ g2, g2 = uc g1 w (upd (g1 w) 300 (wc set kind)) := ⟨_, rfl⟩
  have s2 : Sb [58, 59, 60] g g2 := by rw [hg2, hg1]; exact (Sb.rf.uc (by simp)).uc (by unfold WV at hw; simp; omega)
  obtain ⟨g', w', v', e, hw', s', h3, h4⟩ := X_rk32 (p := p) (q := q) (ds := ds) (set := set) hkd (c := wc set kind) 24 FU 0 w v g2 (FU_lt (by omega)) (by omega) hw (by rw [hg2, uc_n n5, hg1, uc_s, upd_s]; rfl) (fun t h1 h2 => by
    have : t = 0 := by have e : BA set 0 = 0 := rfl; rw [e] at h1 h2; omega
    subst this
    rw [hg2, uc_s]; exact upd_s _ _ _)
  have e : f_X9_reckon_32 FU (g2, RF p q w v ds) 58 set (I kind) 1 = _ := e
  refine ⟨g', w', v', ?_, hw', Sb.tr s2 s', h3, h4⟩
  unfold f_X9_reckon f_X9_reckon_28 f_X9_reckon_29
  revert e
  generalize f_X9_reckon_32 FU = lf
  intro e
  rw [gd_t (show kd 58 = 9 from rfl), lt_w, ← hg1]
  simp only [r_58_0, kw, lw, gd, if_true, reduceIte, if_pos (show inr (300 : Int32) 601 = true by decide), show (300 : Int32).toNatClampNeg = 300 by decide]
  by_cases hk : kind = 0
  · subst hk
    rw [if_pos (show I ((0 : Nat) : Int) = 0 by decide), Xbc, bd_w]
    by_cases h1 : pc 32 set = 1
    · rw [if_pos (by rw [h1]; rfl), lt_w, show (1 : Int32) = wc set 0 by unfold wc; rw [if_neg (fun z => z.2 h1)], ← hg2]
      rw [show wc set 0 = 1 by unfold wc; rw [if_neg (fun z => z.2 h1)]]
      exact e
    · have := pc_le 32 set
      rw [if_neg (fun z => h1 (by have := (I_inj (b := 1) (by omega) (by omega)).mp z; omega)), lt_w, show (0 : Int32) = wc set 0 by unfold wc; rw [if_pos ⟨rfl, h1⟩], ← hg2]
      exact e
  · rw [if_neg (fun z => hk (by have := (I_inj (b := 0) (by omega) (by omega)).mp z; omega)), lt_w]
    have e1 : wc set kind = 1 := if_neg (fun z => hk z.1)
    rw [e1] at hg2
    rw [← hg2]
    exact e
theorem X_coming (hw : WV w v) {g : Nat → Nat → Int32} {c set : Int32} {l a : Nat} (ha : a ≤ 99) (hl : l ≤ 3) (h58 : g 58 2 = I (BA set 24 : Nat)) (h : ∀ t : Int, -((BA set 24 : Nat) : Int) ≤ t → t ≤ (BA set 24 : Nat) → g w (300 + t).toNat = WA c set l 24 t) : f_X9_comingTo (g, RF p q w v ds) 58 (I a) = some (WA c set l 24 a, (g, RF p q w v ds)) := by
  obtain ⟨kw, kv, lw, lv, n1, n2, n3, n4, n5, n6⟩ := hw.k
  have hB := BA_300 set (Nat.le_refl 24)
  unfold f_X9_comingTo
  rw [gd_t (show kd 58 = 9 from rfl), if_neg (fun z => by have := (I_lt (b := 0) (by omega) (by omega)).mp z; omega), show (g, RF p q w v ds).1 58 2 = _ from h58]
  by_cases hc : a ≤ BA set 24
  · rw [if_pos ((I_le (by omega) (by omega)).mpr (by omega))]
    simp only [r_58_0, kw, lw, gd, if_true, reduceIte, I_300, I_inr (show 0 ≤ 300 + (a : Int) by omega) (show 300 + (a : Int) < (601 : Nat) by omega) (by decide), I_cl (show -2147483648 ≤ 300 + (a : Int) by omega) (show 300 + (a : Int) < 2147483648 by omega)]
    rw [h a (by omega) (by omega)]
  · rw [if_neg (fun z => by have := (I_le (by omega) (by omega)).mp z; omega), WA_far hl 24 a (by omega)]
end T
