/-! the first text -/
def tx (j : Nat) : Nat := (txl j).toNatClampNeg
theorem tx_f : ∀ j, j < 26 → vp_nar .char (txl j) = I ((tx j : Nat) : Int) ∧ tx j < 128 := by decide +kernel
def MI0 (j : Nat) : Int32 := if j = 0 then 9 else if j = 1 then 4 else if j = 11 then 3 else if j = 33 then 0 else if j = 53 then 4 else if j = 54 then 4 else if j = 55 then 7 else if j = 56 then 12 else M00 j
theorem first_text : (match rdl tx 26 with
  | Sum.inr M => (List.range 59).all (fun j => M j == MI0 j)
  | Sum.inl _ => false) = true := by decide +kernel
theorem first_M : ∃ M, rdl tx 26 = Sum.inr M ∧ ∀ j, j < 59 → M j = MI0 j := by
  have h := first_text
  revert h
  cases rdl tx 26 with
  | inl a => intro h; cases h
  | inr M =>
    intro h
    refine ⟨M, rfl, fun j hj => ?_⟩
    have := List.all_eq_true.mp h j (List.mem_range.mpr hj)
    exact eq_of_beq this
theorem Y_app {g : Nat → Nat → Int32} {m : Nat} (hm : m < 200) (h0 : g 2 0 = I m) (x : Int32) : f_X8_append (g, RG) 2 x = some (1, (uc (uc g 3 (upd (g 3) m (vp_nar .char x))) 2 (upd (g 2) 0 (I ((m + 1 : Nat) : Int))), RG)) := by
  unfold f_X8_append
  rw [gd_t (show kd 2 = 8 from rfl)]
  simp only [h0]
  rw [if_pos (show I (m : Int) < (200 : Int32) from (I_lt (b := 200) (by omega) (by omega)).mpr (by omega))]
  simp only [t_2_1, k_3, n_3, gd, if_true, reduceIte, I_in (show m < 200 by omega) (show 200 < 1000000 by decide), I_ix (show m < 1000000 by omega)]
  rw [lt_w]
  simp only [uc_n (show 2 ≠ 3 by decide), h0]
  rw [lt_w, uc_n (show 2 ≠ 3 by decide), I_s]
theorem Y_145 : ∀ (r fu i : Nat) (g : Nat → Nat → Int32), r < fu → i + r = 26 → g 2 0 = I i → (∀ j, j < i → g 3 j = I ((tx j : Nat) : Int)) →
    ∃ fu' g', f_X11_init_145 fu (g, RG) 1 (I i) = f_X11_init_145 (fu' + 1) (g', RG) 1 (I ((26 : Nat) : Int)) ∧ Sb [2, 3] g g' ∧ TX g' tx 26 := by
  intro r
  induction r with
  | zero =>
    intro fu i g hf hi h0 hI
    obtain ⟨fu, rfl⟩ : ∃ k, fu = k + 1 := ⟨fu - 1, by omega⟩
    have : i = 26 := by omega
    subst this
    exact ⟨fu, g, rfl, Sb.rf, h0, by decide, fun j hj => ⟨hI j hj, (tx_f j hj).2⟩⟩
  | succ r ih =>
    intro fu i g hf hi h0 hI
    obtain ⟨fu, rfl⟩ : ∃ k, fu = k + 1 := ⟨fu - 1, by omega⟩
    obtain ⟨g1, hg1⟩ : ∃ g1, g1 = uc (uc g 3 (upd (g 3) i (vp_nar .char (txl i)))) 2 (upd (g 2) 0 (I ((i + 1 : Nat) : Int))) := ⟨_, rfl⟩
    obtain ⟨fu', g', e, s', t'⟩ := ih fu (i + 1) g1 (by omega) (by omega) (by rw [hg1, uc_s, upd_s]) (fun j hj => by
      rw [hg1, uc_n (by decide), uc_s]
      by_cases c : j = i
      · subst c; rw [upd_s]; exact (tx_f j (by omega)).1
      · rw [upd_n c]; exact hI j (by omega))
    refine ⟨fu', g', ?_, Sb.tr (by rw [hg1]; exact (Sb.rf.uc (by decide)).uc (by decide)) s', t'⟩
    rw [← e]
    have ya := Y_app (g := g) (show i < 200 by omega) h0 (txl i)
    rw [← hg1] at ya
    simp only [f_X11_init_145]
    revert ya
    generalize f_X11_init_145 fu = lf
    generalize f_X8_append = af
    generalize f_X8_readInto = rf
    generalize f_X5_forget = ff
    intro ya
    rw [if_neg (fun z => by have := (I_le (a := 26) (by omega) (by omega)).mp z; omega)]
    simp only [t_1_0, k_2, gd, if_true, reduceIte, I_in (show i < 26 by omega) (show 26 < 1000000 by decide), I_ix (show i < 1000000 by omega)]
    rw [ya, bd_w, I_s]
theorem X_made : ∃ (g1 : Nat → Nat → Int32) (M : Nat → Int32) (n np kind : Nat), f_X11_init (sz hp0 1) 1 = some ((), (g1, RG)) ∧ PW M n np kind ∧ (∀ j, j < 59 → M j = MI0 j) ∧ PRg g1 5 M ∧ SX M n g1 ∧ Sb [2, 3, 4, 5, 6, 7, 8, 62, 67, 69] (fun _ _ => 0) g1 ∧ g1 2 0 = 0 := by
  obtain ⟨M, hM, hMI⟩ := first_M
  obtain ⟨fu, g1, e1, s1, t1'⟩ := Y_145 26 FU 0 (fun _ _ => 0) (FU_lt (by omega)) (by omega) rfl (fun j hj => absurd hj (by omega))
  have e1 : f_X11_init_145 FU (fun _ _ => 0, RG) 1 0 = _ := e1
  obtain ⟨g2, e2, s2, h2, r2⟩ := Y_into (a0 := 5) (Or.inl rfl) t1'
  obtain ⟨R2, on', n, np, kind, hPW, -⟩ := r2 M hM
  obtain ⟨g3, hg3⟩ : ∃ g3, g3 = uc g2 2 (upd (g2 2) 0 0) := ⟨_, rfl⟩
  have s3 : Sb [2] g2 g3 := by rw [hg3]; exact Sb.rf.uc (by decide)
  have R3 : PRg g3 5 M := by
    unfold PRg
    rw [s3 5 (by decide), s3 (5 + 1) (by decide), s3 (5 + 2) (by decide), s3 (5 + 3) (by decide)]
    exact R2
  obtain ⟨g4, e4, s4, x4⟩ := Y_forget (a := 5) (Or.inl rfl) hPW R3 (fun x x1 x2 => ⟨0, by decide, by rw [s3 74 (by decide), s2 74 (by decide), s1 74 (by decide)]; rfl⟩)
  have e5 : f_X11_init_145 (fu + 1) (g1, RG) 1 (I ((26 : Nat) : Int)) = some ((), (g4, RG)) := by
    simp only [f_X11_init_145]
    generalize f_X11_init_145 fu = lf
    generalize f_X8_append = af
    revert e2 e4
    generalize f_X8_readInto = rf
    generalize f_X5_forget = ff
    intro e2 e4
    rw [if_pos (by decide)]
    simp only [t_1_0, t_1_1, t_1_9, k_2, k_5, k_61, gd, if_true, reduceIte]
    rw [e2, bd_w]
    simp only [t_1_0, k_2, if_true, reduceIte]
    rw [lt_w, ← hg3]
    simp only [t_1_0, t_1_1, t_1_9, k_2, k_5, k_61, if_true, reduceIte]
    rw [e4, bd_w]
  refine ⟨g4, M, n, np, kind, ?_, hPW, hMI, ?_, x4, ?_, ?_⟩
  · rw [X_new, e1, e5]
  · unfold PRg
    rw [s4 5 (by decide), s4 (5 + 1) (by decide), s4 (5 + 2) (by decide), s4 (5 + 3) (by decide)]
    exact R3
  · exact Sb.tr (Sb.tr (Sb.tr (s1.mono (by decide)) (s2.mono (by decide))) (s3.mono (by decide))) (s4.mono (by decide))
  · rw [s4 2 (by decide), hg3, uc_s, upd_s]
/-! the reference -/
def BM (h : Hp) : Hp := al (al (al (al (al (al (al (al (al (al (al (al (al (al (al (al (al (al h 83 1 84) 83 2 85) 83 3 86) 83 4 87) 83 6 88) 83 8 89) 83 11 90) 83 13 91) 83 15 92) 83 19 93) 83 20 94) 83 21 95) 83 22 96) 83 24 97) 83 25 98) 83 26 99) 83 28 100) 83 29 101
theorem RF_rho : RF 5 9 59 60 (rho0 17) = rho0 := by
  funext a k
  unfold RF
  by_cases h1 : a = 1
  · subst h1
    rw [if_pos rfl]
    by_cases c1 : k = 1
    · subst c1; rfl
    · rw [if_neg c1]
      by_cases c2 : k = 2
      · subst c2; rfl
      · rw [if_neg c2]
  · rw [if_neg h1]
    by_cases h2 : a = 58
    · subst h2
      rw [if_pos rfl]
      by_cases c1 : k = 0
      · subst c1; rfl
      · rw [if_neg c1]
        by_cases c2 : k = 1
        · subst c2; rfl
        · rw [if_neg c2]
    · rw [if_neg h2]
      by_cases h3 : a = 17
      · subst h3; rw [if_pos rfl]
      · rw [if_neg h3]
theorem KG : Kz 102 (sz ((fun _ _ => 0), RG) 83) := by
  refine Kz.z ⟨fun a k hk => ?_, fun a k ha => ?_⟩ 83
  · show RG a k = 0
    unfold RG
    split
    · exact rho_k hk
    · rfl
  · show RG a k = 0
    unfold RG
    rw [if_neg (by omega)]
theorem RM : (BM (sz ((fun _ _ => 0), RG) 83)).2 = RF 5 9 59 60 (rho0 17) := by
  rw [RF_rho]
  have K : Kz 102 (BM (sz ((fun _ _ => 0), RG) 83)) := by
    unfold BM
    have q := fun {h : Hp} (H : Kz 102 h) (k a : Nat) (hk : k < 30) => H.a (x := 83) (k := k) a (by decide) hk
    exact q (q (q (q (q (q (q (q (q (q (q (q (q (q (q (q (q (q KG 1 84 (by decide)) 2 85 (by decide)) 3 86 (by decide)) 4 87 (by decide)) 6 88 (by decide)) 8 89 (by decide)) 11 90 (by decide)) 13 91 (by decide)) 15 92 (by decide)) 19 93 (by decide)) 20 94 (by decide)) 21 95 (by decide)) 22 96 (by decide)) 24 97 (by decide)) 25 98 (by decide)) 26 99 (by decide)) 28 100 (by decide)) 29 101 (by decide)
  funext a k
  rcases Nat.lt_or_ge a 102 with ha | ha
  · rcases Nat.lt_or_ge k 30 with hk | hk
    · have : ∀ a, a < 102 → ∀ k, k < 30 → (BM (sz ((fun _ _ => 0), RG) 83)).2 a k = rho0 a k := by decide +kernel
      exact this a ha k hk
    · rw [K.1 a k hk, rho_k hk]
  · rw [K.2 a k ha, rho_a ha]
theorem al_c {h h' : Hp} (e : h.2 = h'.2) (x k a : Nat) : (al h x k a).2 = (al h' x k a).2 := by
  unfold al sr sz
  simp only [e]
theorem RMg (g : Nat → Nat → Int32) : (BM (sz (g, RG) 83)).2 = RF 5 9 59 60 (rho0 17) := by
  refine Eq.trans ?_ RM
  unfold BM
  exact al_c (al_c (al_c (al_c (al_c (al_c (al_c (al_c (al_c (al_c (al_c (al_c (al_c (al_c (al_c (al_c (al_c (al_c (show (sz (g, RG) 83).2 = (sz ((fun _ _ => 0), RG) 83).2 from rfl) 83 1 84) 83 2 85) 83 3 86) 83 4 87) 83 6 88) 83 8 89) 83 11 90) 83 13 91) 83 15 92) 83 19 93) 83 20 94) 83 21 95) 83 22 96) 83 24 97) 83 25 98) 83 26 99) 83 28 100) 83 29 101
theorem sz_id {g : Nat → Nat → Int32} {r : Nat → Nat → Nat} {a : Nat} (h : g a = fun _ => 0) : (sz (g, r) a).1 = g := by
  funext b
  show (if b = a then (fun _ => 0) else g b) = g b
  by_cases c : b = a
  · rw [if_pos c, c, h]
  · rw [if_neg c]
theorem BMg {g : Nat → Nat → Int32} (h : ∀ a, 83 ≤ a → g a = fun _ => 0) : BM (sz (g, RG) 83) = (g, RF 5 9 59 60 (rho0 17)) := by
  have key : ∀ (H : Hp) (x k a : Nat), H.1 = g → 83 ≤ a → (al H x k a).1 = g := fun H x k a e ha => by
    show (fun b => if b = a then (fun _ => 0) else H.1 b) = g
    rw [e]
    exact sz_id (r := H.2) (h a ha)
  refine Prod.ext ?_ (RMg g)
  have k0 : (sz (g, RG) 83).1 = g := sz_id (h 83 (by decide))
  unfold BM
  exact key _ _ _ _ (key _ _ _ _ (key _ _ _ _ (key _ _ _ _ (key _ _ _ _ (key _ _ _ _ (key _ _ _ _ (key _ _ _ _ (key _ _ _ _ (key _ _ _ _ (key _ _ _ _ (key _ _ _ _ (key _ _ _ _ (key _ _ _ _ (key _ _ _ _ (key _ _ _ _ (key _ _ _ _ (key _ _ _ _ k0 (by decide)) (by decide)) (by decide)) (by decide)) (by decide)) (by decide)) (by decide)) (by decide)) (by decide)) (by decide)) (by decide)) (by decide)) (by decide)) (by decide)) (by decide)) (by decide)) (by decide)) (by decide)
def mkE (h : Hp) : Option (Unit × Hp) :=
  bd (f_X12_begin h 83) <| fun _ h110 =>
  gd (kd (h110.2 83 1) = 16) <|
  gd (inr (0 : Int32) (ln (h110.2 83 1)) = true) <|
  lt ((si h110 (h110.2 83 1) (0 : Int32).toNatClampNeg (9 : Int32))) <| fun h114 =>
  gd (kd (h114.2 83 1) = 16) <|
  gd (inr (1 : Int32) (ln (h114.2 83 1)) = true) <|
  lt ((si h114 (h114.2 83 1) (1 : Int32).toNatClampNeg (4 : Int32))) <| fun h118 =>
  gd (kd (h118.2 83 1) = 16) <|
  gd (inr (11 : Int32) (ln (h118.2 83 1)) = true) <|
  lt ((si h118 (h118.2 83 1) (11 : Int32).toNatClampNeg (3 : Int32))) <| fun h122 =>
  gd (kd (h122.2 83 1) = 16) <|
  gd (inr (53 : Int32) (ln (h122.2 83 1)) = true) <|
  lt ((si h122 (h122.2 83 1) (53 : Int32).toNatClampNeg (4 : Int32))) <| fun h126 =>
  gd (kd (h126.2 83 1) = 16) <|
  gd (inr (54 : Int32) (ln (h126.2 83 1)) = true) <|
  lt ((si h126 (h126.2 83 1) (54 : Int32).toNatClampNeg (4 : Int32))) <| fun h130 =>
  gd (kd (h130.2 83 1) = 16) <|
  gd (inr (55 : Int32) (ln (h130.2 83 1)) = true) <|
  lt ((si h130 (h130.2 83 1) (55 : Int32).toNatClampNeg (7 : Int32))) <| fun h134 =>
  gd (kd (h134.2 83 1) = 16) <|
  gd (inr (56 : Int32) (ln (h134.2 83 1)) = true) <|
  lt ((si h134 (h134.2 83 1) (56 : Int32).toNatClampNeg (12 : Int32))) <| fun h138 =>
  f_X12_init_215 FU h138 83 (0 : Int32)
theorem ltz {α : Type} (h : Hp) (a : Nat) (K : Hp → Option α) : lt (sz h a) K = K (sz h a) := rfl
theorem ltr {α : Type} (h : Hp) (x k a : Nat) (K : Hp → Option α) : lt (sr h x k a) K = K (sr h x k a) := rfl
theorem M_new (h : Hp) : f_X12_init h 83 = mkE (BM h) := by
  unfold f_X12_init mkE BM al
  generalize f_X12_init_215 FU = lf
  generalize f_X12_begin = bf
  rw [gd_t (show kd 83 = 12 from rfl), gd_t (show kd 84 = 16 from rfl), gd_t (show ln 84 = 59 from rfl), ltz, ltr, gd_t (show kd 85 = 16 from rfl), gd_t (show ln 85 = 59 from rfl), ltz, ltr, gd_t (show kd 86 = 16 from rfl), gd_t (show ln 86 = 51 from rfl), ltz, ltr, gd_t (show kd 87 = 16 from rfl), gd_t (show ln 87 = 408 from rfl), ltz, ltr, gd_t (show kd 88 = 16 from rfl), gd_t (show ln 88 = 102 from rfl), ltz, ltr, gd_t (show kd 89 = 16 from rfl), gd_t (show ln 89 = 200 from rfl), ltz, ltr, gd_t (show kd 90 = 16 from rfl), gd_t (show ln 90 = 3 from rfl), ltz, ltr, gd_t (show kd 91 = 16 from rfl), gd_t (show ln 91 = 20 from rfl), ltz, ltr, gd_t (show kd 92 = 16 from rfl), gd_t (show ln 92 = 15626 from rfl), ltz, ltr, gd_t (show kd 93 = 16 from rfl), gd_t (show ln 93 = 7 from rfl), ltz, ltr, gd_t (show kd 94 = 16 from rfl), gd_t (show ln 94 = 7 from rfl), ltz, ltr, gd_t (show kd 95 = 16 from rfl), gd_t (show ln 95 = 7 from rfl), ltz, ltr, gd_t (show kd 96 = 16 from rfl), gd_t (show ln 96 = 6 from rfl), ltz, ltr, gd_t (show kd 97 = 16 from rfl), gd_t (show ln 97 = 601 from rfl), ltz, ltr, gd_t (show kd 98 = 16 from rfl), gd_t (show ln 98 = 601 from rfl), ltz, ltr, gd_t (show kd 99 = 16 from rfl), gd_t (show ln 99 = 6 from rfl), ltz, ltr, gd_t (show kd 100 = 16 from rfl), gd_t (show ln 100 = 6 from rfl), ltz, ltr, gd_t (show kd 101 = 16 from rfl), gd_t (show ln 101 = 64 from rfl), ltz, ltr]
section T
variable {p q w v : Nat} {ds : Nat → Nat}
def kp215 (j : Nat) : Bool := decide (j = 0 ∨ j = 1 ∨ 53 ≤ j ∨ j = 11)
def enE (h : Hp) : Option (Unit × Hp) :=
  gd (kd (h.2 83 1) = 16) <|
  gd (inr (33 : Int32) (ln (h.2 83 1)) = true) <|
  lt ((si h (h.2 83 1) (33 : Int32).toNatClampNeg (0 : Int32))) <| fun h3 =>
  bd (f_X12_dawn h3 83 (0 : Int32)) <| fun _ h6 =>
  some ((), h6)
theorem M_215 : ∀ (r fu i : Nat) (g : Nat → Nat → Int32), r < fu → i + r = 59 → (∀ j, j < i → kp215 j = false → g 84 j = g 85 j) →
    ∃ g', f_X12_init_215 fu (g, RF p q w v ds) 83 (I i) = enE (g', RF p q w v ds) ∧ Sb [84] g g' ∧ ∀ j, j < 59 → g' 84 j = if kp215 j then g 84 j else g 85 j := by
  intro r
  induction r with
  | zero =>
    intro fu i g hf hi hI
    obtain ⟨fu, rfl⟩ : ∃ k, fu = k + 1 := ⟨fu - 1, by omega⟩
    have : i = 59 := by omega
    subst this
    refine ⟨g, ?_, Sb.rf, fun j hj => ?_⟩
    · rw [f_X12_init_215]
      exact if_pos (by decide)
    · cases hk : kp215 j with
      | true => rw [if_pos rfl]
      | false => rw [if_neg (by decide)]; exact hI j hj hk
  | succ r ih =>
    intro fu i g hf hi hI
    obtain ⟨fu, rfl⟩ : ∃ k, fu = k + 1 := ⟨fu - 1, by omega⟩
    obtain ⟨g1, hg1⟩ : ∃ g1, g1 = uc g 84 (upd (g 84) i (if kp215 i then g 84 i else g 85 i)) := ⟨_, rfl⟩
    obtain ⟨g', e, s', h'⟩ := ih fu (i + 1) g1 (by omega) (by omega) (fun j hj hk => by
      rw [hg1, uc_s, uc_n (by decide)]
      by_cases c : j = i
      · subst c; rw [upd_s, hk, if_neg (by decide)]
      · rw [upd_n c]; exact hI j (by omega) hk)
    refine ⟨g', ?_, Sb.tr (by rw [hg1]; exact Sb.rf.uc (by decide)) s', fun j hj => ?_⟩
    · rw [← e]
      simp only [f_X12_init_215]
      generalize f_X12_init_215 fu = lf
      rw [if_neg (fun z => by have := (I_le (a := 59) (by omega) (by omega)).mp z; omega)]
      unfold f_X12_init_247 f_X12_init_262
      have ne : ∀ k : Nat, k < 1000 → i ≠ k → ¬ I (i : Int) = I (k : Int) := fun k hk hne z => hne (by have := (I_inj (by omega) (by omega)).mp z; omega)
      simp only [r_83_1, r_83_2, r_83_3, r_83_4, r_83_6, r_83_8, r_83_11, r_83_13, r_83_15, r_83_19, r_83_20, r_83_21, r_83_22, r_83_24, r_83_25, r_83_26, r_83_28, r_83_29, k_83, n_83, k_84, n_84, k_85, n_85, k_86, n_86, k_87, n_87, k_88, n_88, k_89, n_89, k_90, n_90, k_91, n_91, k_92, n_92, k_93, n_93, k_94, n_94, k_95, n_95, k_96, n_96, k_97, n_97, k_98, n_98, k_99, n_99, k_100, n_100, k_101, n_101, gd, if_true, reduceIte, I_in (show i < 59 by omega) (show 59 < 1000000 by decide), I_ix (show i < 1000000 by omega), lt_w, I_s]
      by_cases c0 : i = 0
      · rw [if_pos (show I (i : Int) = 0 by rw [c0]; rfl), hg1, if_pos (show kp215 i = true from decide_eq_true (by omega))]
      rw [if_neg (show ¬ I (i : Int) = 0 from ne 0 (by decide) c0)]
      by_cases c1 : i = 1
      · rw [if_pos (show I (i : Int) = (1 : Int32) by rw [c1]; rfl), hg1, if_pos (show kp215 i = true from decide_eq_true (by omega))]
      rw [if_neg (show ¬ I (i : Int) = (1 : Int32) from ne 1 (by decide) c1)]
      by_cases c2 : 53 ≤ i
      · rw [if_pos (show (53 : Int32) ≤ I (i : Int) from (I_le (a := 53) (by omega) (by omega)).mpr (by omega)), hg1, if_pos (show kp215 i = true from decide_eq_true (by omega))]
      rw [if_neg (show ¬ (53 : Int32) ≤ I (i : Int) from fun z => by have := (I_le (a := 53) (by omega) (by omega)).mp z; omega)]
      by_cases c3 : i = 11
      · rw [if_pos (show I (i : Int) = (11 : Int32) by rw [c3]; rfl), hg1, if_pos (show kp215 i = true from decide_eq_true (by omega))]
      rw [if_neg (show ¬ I (i : Int) = (11 : Int32) from ne 11 (by decide) c3), hg1, if_neg (show ¬ kp215 i = true from fun z => by have := of_decide_eq_true z; omega)]
    · rw [h' j hj, hg1, uc_s, uc_n (by decide)]
      by_cases c : j = i
      · subst c
        rw [upd_s]
        cases kp215 j <;> rfl
      · rw [upd_n c]
theorem M_mkE {g : Nat → Nat → Int32} (hz : ∀ j, g 84 j = 0) : ∃ g', mkE (g, RF p q w v ds) = some ((), (g', RF p q w v ds)) ∧ Sb [84, 85, 86] g g' ∧ (∀ j, j < 59 → g' 84 j = MI0 j) ∧ ∀ j, j < 51 → g' 86 j = dawnT 0 j := by
  obtain ⟨g1, e1, s1, F1⟩ := M_bg2 (p := p) (q := q) (w := w) (v := v) (ds := ds) 59 FU 0 g (FU_lt (by omega)) (by omega) (fun j hj => absurd hj (by omega))
  have e1 : f_X12_begin (g, RF p q w v ds) 83 = some ((), (g1, RF p q w v ds)) := by
    unfold f_X12_begin
    rw [gd_t (show kd 83 = 12 from rfl)]
    exact e1
  obtain ⟨g2, hg2⟩ : ∃ g2, g2 = uc g1 84 (upd (upd (upd (upd (upd (upd (upd (g1 84) 0 9) 1 4) 11 3) 53 4) 54 4) 55 7) 56 12) := ⟨_, rfl⟩
  have s2 : Sb [84] g1 g2 := by rw [hg2]; exact Sb.rf.uc (by decide)
  obtain ⟨g3, e3, s3, h3⟩ := M_215 (p := p) (q := q) (w := w) (v := v) (ds := ds) 59 FU 0 g2 (FU_lt (by omega)) (by omega) (fun j hj => absurd hj (by omega))
  have e3 : f_X12_init_215 FU (g2, RF p q w v ds) 83 0 = _ := e3
  obtain ⟨g4, hg4⟩ : ∃ g4, g4 = uc g3 84 (upd (g3 84) 33 0) := ⟨_, rfl⟩
  have s4 : Sb [84] g3 g4 := by rw [hg4]; exact Sb.rf.uc (by decide)
  obtain ⟨g5, e5, s5, h5⟩ := M_dawn (p := p) (q := q) (w := w) (v := v) (ds := ds) (f := 0) (Or.inl rfl) 51 FU 0 g4 (FU_lt (by omega)) (by omega) (fun j hj => absurd hj (by omega))
  have e5 : f_X12_dawn (g4, RF p q w v ds) 83 0 = some ((), (g5, RF p q w v ds)) := by
    unfold f_X12_dawn
    rw [gd_t (show kd 83 = 12 from rfl)]
    exact e5
  refine ⟨g5, ?_, Sb.tr (Sb.tr (Sb.tr (Sb.tr (s1.mono (by decide)) (s2.mono (by decide))) (s3.mono (by decide))) (s4.mono (by decide))) (s5.mono (by decide)), fun j hj => ?_, h5⟩
  · unfold mkE
    revert e1 e3
    generalize f_X12_init_215 FU = lf
    generalize f_X12_begin = bf
    intro e1 e3
    have c11 : (11 : Int32).toNatClampNeg = 11 := by decide
    have c53 : (53 : Int32).toNatClampNeg = 53 := by decide
    have c54 : (54 : Int32).toNatClampNeg = 54 := by decide
    have c55 : (55 : Int32).toNatClampNeg = 55 := by decide
    have c56 : (56 : Int32).toNatClampNeg = 56 := by decide
    have c33 : (33 : Int32).toNatClampNeg = 33 := by decide
    have j11 : inr (11 : Int32) 59 = true := by decide
    have j53 : inr (53 : Int32) 59 = true := by decide
    have j54 : inr (54 : Int32) 59 = true := by decide
    have j55 : inr (55 : Int32) 59 = true := by decide
    have j56 : inr (56 : Int32) 59 = true := by decide
    have j33 : inr (33 : Int32) 59 = true := by decide
    rw [e1, bd_w]
    simp only [r_83_1, r_83_2, r_83_3, r_83_4, r_83_6, r_83_8, r_83_11, r_83_13, r_83_15, r_83_19, r_83_20, r_83_21, r_83_22, r_83_24, r_83_25, r_83_26, r_83_28, r_83_29, k_83, n_83, k_84, n_84, k_85, n_85, k_86, n_86, k_87, n_87, k_88, n_88, k_89, n_89, k_90, n_90, k_91, n_91, k_92, n_92, k_93, n_93, k_94, n_94, k_95, n_95, k_96, n_96, k_97, n_97, k_98, n_98, k_99, n_99, k_100, n_100, k_101, n_101, ci_0, ci_1, ci_2, ci_3, ci_4, ii_0, ii_1, ii_2, ii_3, ii_4, id_0, id_1, id_2, gd, if_true, reduceIte]
    rw [lt_w]
    simp only [r_83_1, r_83_2, r_83_3, r_83_4, r_83_6, r_83_8, r_83_11, r_83_13, r_83_15, r_83_19, r_83_20, r_83_21, r_83_22, r_83_24, r_83_25, r_83_26, r_83_28, r_83_29, k_83, n_83, k_84, n_84, k_85, n_85, k_86, n_86, k_87, n_87, k_88, n_88, k_89, n_89, k_90, n_90, k_91, n_91, k_92, n_92, k_93, n_93, k_94, n_94, k_95, n_95, k_96, n_96, k_97, n_97, k_98, n_98, k_99, n_99, k_100, n_100, k_101, n_101, ci_0, ci_1, ci_2, ci_3, ci_4, ii_0, ii_1, ii_2, ii_3, ii_4, id_0, id_1, id_2, if_true, reduceIte]
    rw [lt_w]
    simp only [r_83_1, r_83_2, r_83_3, r_83_4, r_83_6, r_83_8, r_83_11, r_83_13, r_83_15, r_83_19, r_83_20, r_83_21, r_83_22, r_83_24, r_83_25, r_83_26, r_83_28, r_83_29, k_83, n_83, k_84, n_84, k_85, n_85, k_86, n_86, k_87, n_87, k_88, n_88, k_89, n_89, k_90, n_90, k_91, n_91, k_92, n_92, k_93, n_93, k_94, n_94, k_95, n_95, k_96, n_96, k_97, n_97, k_98, n_98, k_99, n_99, k_100, n_100, k_101, n_101, ci_0, ci_1, ci_2, ci_3, ci_4, ii_0, ii_1, ii_2, ii_3, ii_4, id_0, id_1, id_2, c11, j11, if_true, reduceIte]
    rw [lt_w]
    simp only [r_83_1, r_83_2, r_83_3, r_83_4, r_83_6, r_83_8, r_83_11, r_83_13, r_83_15, r_83_19, r_83_20, r_83_21, r_83_22, r_83_24, r_83_25, r_83_26, r_83_28, r_83_29, k_83, n_83, k_84, n_84, k_85, n_85, k_86, n_86, k_87, n_87, k_88, n_88, k_89, n_89, k_90, n_90, k_91, n_91, k_92, n_92, k_93, n_93, k_94, n_94, k_95, n_95, k_96, n_96, k_97, n_97, k_98, n_98, k_99, n_99, k_100, n_100, k_101, n_101, ci_0, ci_1, ci_2, ci_3, ci_4, ii_0, ii_1, ii_2, ii_3, ii_4, id_0, id_1, id_2, c53, j53, if_true, reduceIte]
    rw [lt_w]
    simp only [r_83_1, r_83_2, r_83_3, r_83_4, r_83_6, r_83_8, r_83_11, r_83_13, r_83_15, r_83_19, r_83_20, r_83_21, r_83_22, r_83_24, r_83_25, r_83_26, r_83_28, r_83_29, k_83, n_83, k_84, n_84, k_85, n_85, k_86, n_86, k_87, n_87, k_88, n_88, k_89, n_89, k_90, n_90, k_91, n_91, k_92, n_92, k_93, n_93, k_94, n_94, k_95, n_95, k_96, n_96, k_97, n_97, k_98, n_98, k_99, n_99, k_100, n_100, k_101, n_101, ci_0, ci_1, ci_2, ci_3, ci_4, ii_0, ii_1, ii_2, ii_3, ii_4, id_0, id_1, id_2, c54, j54, if_true, reduceIte]
    rw [lt_w]
    simp only [r_83_1, r_83_2, r_83_3, r_83_4, r_83_6, r_83_8, r_83_11, r_83_13, r_83_15, r_83_19, r_83_20, r_83_21, r_83_22, r_83_24, r_83_25, r_83_26, r_83_28, r_83_29, k_83, n_83, k_84, n_84, k_85, n_85, k_86, n_86, k_87, n_87, k_88, n_88, k_89, n_89, k_90, n_90, k_91, n_91, k_92, n_92, k_93, n_93, k_94, n_94, k_95, n_95, k_96, n_96, k_97, n_97, k_98, n_98, k_99, n_99, k_100, n_100, k_101, n_101, ci_0, ci_1, ci_2, ci_3, ci_4, ii_0, ii_1, ii_2, ii_3, ii_4, id_0, id_1, id_2, c55, j55, if_true, reduceIte]
    rw [lt_w]
    simp only [r_83_1, r_83_2, r_83_3, r_83_4, r_83_6, r_83_8, r_83_11, r_83_13, r_83_15, r_83_19, r_83_20, r_83_21, r_83_22, r_83_24, r_83_25, r_83_26, r_83_28, r_83_29, k_83, n_83, k_84, n_84, k_85, n_85, k_86, n_86, k_87, n_87, k_88, n_88, k_89, n_89, k_90, n_90, k_91, n_91, k_92, n_92, k_93, n_93, k_94, n_94, k_95, n_95, k_96, n_96, k_97, n_97, k_98, n_98, k_99, n_99, k_100, n_100, k_101, n_101, ci_0, ci_1, ci_2, ci_3, ci_4, ii_0, ii_1, ii_2, ii_3, ii_4, id_0, id_1, id_2, c56, j56, if_true, reduceIte]
    rw [lt_w]
    simp only [uc_s, uc_uc]
    rw [← hg2, e3]
    unfold enE
    revert e5
    generalize f_X12_dawn = df
    intro e5
    simp only [r_83_1, r_83_2, r_83_3, r_83_4, r_83_6, r_83_8, r_83_11, r_83_13, r_83_15, r_83_19, r_83_20, r_83_21, r_83_22, r_83_24, r_83_25, r_83_26, r_83_28, r_83_29, k_83, n_83, k_84, n_84, k_85, n_85, k_86, n_86, k_87, n_87, k_88, n_88, k_89, n_89, k_90, n_90, k_91, n_91, k_92, n_92, k_93, n_93, k_94, n_94, k_95, n_95, k_96, n_96, k_97, n_97, k_98, n_98, k_99, n_99, k_100, n_100, k_101, n_101, c33, j33, gd, if_true, reduceIte]
    rw [lt_w, ← hg4, e5, bd_w]
  · rw [s5 84 (by decide), hg4, uc_s]
    by_cases c : j = 33
    · subst c; rw [upd_s]; rfl
    · rw [upd_n c, h3 j hj]
      by_cases hk : kp215 j = true
      · rw [if_pos hk]
        have hk := of_decide_eq_true hk
        rw [hg2, uc_s]
        have z84 : g1 84 j = 0 := by rw [s1 84 (by decide)]; exact hz j
        unfold MI0
        by_cases d0 : j = 0
        · subst d0; rfl
        · by_cases d1 : j = 1
          · subst d1; rfl
          · by_cases d2 : j = 11
            · subst d2; rfl
            · by_cases d3 : j = 53
              · subst d3; rfl
              · by_cases d4 : j = 54
                · subst d4; rfl
                · by_cases d5 : j = 55
                  · subst d5; rfl
                  · by_cases d6 : j = 56
                    · subst d6; rfl
                    · rw [upd_n d6, upd_n d5, upd_n d4, upd_n d3, upd_n d2, upd_n d1, upd_n d0, z84, if_neg d0, if_neg d1, if_neg d2, if_neg c, if_neg d3, if_neg d4, if_neg d5, if_neg d6]
                      have := M00_a (j := j - 53) (by omega)
                      rw [show 53 + (j - 53) = j by omega] at this
                      exact this.symm
      · rw [if_neg hk, s2 85 (by decide), F1 j hj]
        have hk : ¬ (j = 0 ∨ j = 1 ∨ 53 ≤ j ∨ j = 11) := fun z => hk (decide_eq_true z)
        unfold MI0
        rw [if_neg (by omega), if_neg (by omega), if_neg (by omega), if_neg c, if_neg (by omega), if_neg (by omega), if_neg (by omega), if_neg (by omega)]
end T
theorem init_ok : InitOK Inv := by
  obtain ⟨g1, M, n, np, kind, e1, hPW, hMI, R1, x1, s1, h20⟩ := X_made
  have z1 : ∀ a, a ∉ [2, 3, 4, 5, 6, 7, 8, 62, 67, 69] → g1 a = fun _ => 0 := fun a ha => s1 a ha
  obtain ⟨g2, e2, s2, p2, d2⟩ := M_mkE (p := 5) (q := 9) (w := 59) (v := 60) (ds := rho0 17) (g := g1) (fun j => by rw [z1 84 (by decide)])
  refine ⟨(), (), (g1, RG), (g2, RF 5 9 59 60 (rho0 17)), e1, ?_, ?_⟩
  · rw [M_new, BMg (fun a ha => z1 a (by simp; omega))]
    exact e2
  · have pe : ∀ j, j < 59 → g2 84 j = M j := fun j hj => by rw [p2 j hj, hMI j hj]
    have z2 : ∀ a, a ∉ [2, 3, 4, 5, 6, 7, 8, 62, 67, 69, 84, 85, 86] → g2 a = fun _ => 0 := fun a ha => by
      rw [s2 a (fun z => ha (by simp at z ⊢; omega))]
      exact z1 a (fun z => ha (by simp at z ⊢; omega))
    have hnp : np = 4 := by
      have h1 := hMI 1 (by decide)
      rw [hPW.2.2.1] at h1
      have := (I_inj (b := 4) (by have := hPW.2.2.2.1; omega) (by omega)).mp h1
      omega
    refine ⟨g2, 5, 9, 59, 60, rho0 17, n, np, kind, rfl, Or.inl ⟨rfl, rfl⟩, Or.inl ⟨rfl, rfl⟩, by omega, ⟨Or.inl rfl, hPW.cg pe, (dawnT_w (Or.inl rfl) n np).cg d2, ?_, ?_, ?_⟩, ?_, ?_, ⟨0, by omega, ?_, ?_, fun k hk => absurd hk (by omega)⟩, ⟨0, by omega, ?_, ?_, fun k hk => absurd hk (by omega)⟩, ⟨0, by omega, ?_, ?_, fun k hk => absurd hk (by omega)⟩, ⟨0, by omega, ?_, ?_, fun k hk => absurd hk (by omega)⟩, ⟨0, by omega, ?_, ?_, fun k hk => absurd hk (by omega)⟩⟩
    · have := R1.cg pe
      unfold PRg at this
      rw [s2 5 (by decide), s2 (5 + 1) (by decide), s2 (5 + 2) (by decide), s2 (5 + 3) (by decide)]
      exact this
    · have : DR (g2 13) (g2 14) (g2 15) (dawnT 0) := by
        rw [z2 13 (by decide), z2 14 (by decide), z2 15 (by decide)]
        exact dawnT_r rfl rfl rfl (fun _ _ => rfl) (fun _ _ => rfl)
      exact this.cg ⟨rfl, rfl, rfl⟩ (fun _ _ => rfl) (fun _ _ => rfl) d2
    · have hw : ∀ x u, wC (g2 84) n x u = wC M n x u := fun x u => by
        unfold wC wM
        by_cases hx : 1 ≤ x ∧ x ≤ 24
        · rw [if_pos hx, if_pos hx, pe (4 + x) (by omega), pe 3 (by decide), pe 4 (by decide)]
        · rw [if_neg hx, if_neg hx]
      have : SX (g2 84) n g1 := by
        unfold SX at x1 ⊢
        rw [show wC (g2 84) n = wC M n from funext (fun x => funext (fun u => hw x u))]
        exact x1
      exact this.same (fun a h1 h2 => s2 a (by simp; omega))
    · rw [z2 83 (by decide)]; rfl
    · refine ⟨fun k hk => ?_, fun j k hj hk => ?_⟩
      · have : ∀ k, k < 8 → rho0 17 k = 18 + 3 * k := by decide
        exact ⟨k, hk, this k hk⟩
      · have : ∀ k, k < 8 → rho0 17 k = 18 + 3 * k := by decide
        rw [this j hj, this k hk]
        omega
    · rw [z2 16 (by decide)]; rfl
    · rw [z2 83 (by decide)]; rfl
    · rw [z2 42 (by decide)]; rfl
    · rw [z2 83 (by decide)]; rfl
    · rw [z2 50 (by decide)]; rfl
    · rw [z2 83 (by decide)]; rfl
    · rw [z2 53 (by decide)]; rfl
    · rw [z2 83 (by decide)]; rfl
    · rw [s2 2 (by decide), h20]; rfl
    · rw [z2 83 (by decide)]; rfl
