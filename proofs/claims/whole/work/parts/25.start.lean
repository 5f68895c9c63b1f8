/-! the law from its entry, over any relation that the calls keep and that holds behind the two constructors -/
def hp0 : Hp := (fun _ _ => 0, fun _ _ => 0)
def InitOK (Inv : Hp → Prop) : Prop := ∃ (u v : Unit) (h1 h2 : Hp), f_X11_init (sz hp0 1) 1 = some (u, h1) ∧ f_X12_init (sz h1 83) 83 = some (v, h2) ∧ Inv h2
theorem StrOK.warm {G : GG} {sK sV : Nat} {s U : State} (hW : s.WarmedH U.vm) {H : Heap} (hU : U.heap = H) (h1 : vk_R RX11 89 "n9;p4;p4;p7;p12;c7,3;h5,0;" sK s) (h2 : StrW G sK sV s H) : StrOK G sK sV U := ⟨h1.warm hW, by rw [hU]; exact h2.moved hW.alike⟩
section START
variable {p : Program} {l : Launch} {e : Env} {s : State} {m : MethodId} {args : Array Value} {below : List Frame} {meth : Method} {c : Code} {H : Heap} {locs : List Loc} {cells slots cells1 slots1 : Nat} {Q : State → Prop}
variable {cc : ByteArray} {pc : Nat} {ls : Array Slot} {rest : List Value} {G : GG} {n n1 : Nat} {h h' : Hp} {mc ms d d' mcR msR nL : Nat} {own : String} {idx : Nat} {y : MethodName} {bytes : ByteArray} {maxL np : Nat} {As : List Value} {sK sV : Nat}
theorem c_IS {a : Nat} (hx : p.tables.exec = Jvm.exec) (hb : c.code = cc) (hml : c.maxLocals = nL) (hown : s.vm.findClass own = some m.cls) (hts : ∀ w ∈ TT, w.before args s = true) (hK : Ks G s) (hS : StrOK G sK sV s) (X : XW G n h s cells H locs)
    (hM : CTS sK sV l G n n1 y (.code y bytes maxL none) d' mc ms (.ref (bs G + a) :: As) h h' none) (hn : n1 = n + mc) (hc : LC y bytes maxL none np) (hl : LI own idx y) (hd : d' < d) (hAs : As.length = np) (hls : ls.size = nL) (hrs : (rest.map fun v => v.category).sum ≤ 8)
    (hdg : decode cc pc = .ok (.invokespecial idx, 3)) (hcs : cells + mc = cells1) (hss : slots + ms = slots1) (hf : cells1 ≤ mcR ∧ slots1 ≤ msR)
    (kk : ∀ (H1 : Heap) (locs1 : List Loc), XW G n1 h' s cells1 H1 locs1 → W p l e (rmC d mcR msR) s m args below meth c H1 locs1 cells1 slots1 Q (F0 m (pc + 3) ls rest)) :
    W p l e (rmC d mcR msR) s m args below meth c H locs cells slots Q (F0 m pc ls (As.reverse ++ .ref (bs G + a) :: rest)) := by
  subst hcs; subst hss
  refine w_size (fun hu => ?_)
  have hpre : PreS s H (va_Pc (.ref (bs G + a) :: As) (fun U => Wd G n h U.heap ∧ Ks G U ∧ StrOK G sK sV U)) (.ref (bs G + a) :: As) :=
    ⟨fun b U g mk q => ⟨q.1, q.2.1, q.2.2.1.call, q.2.2.2.1.same rfl, StrW.blind G sK sV U g mk b q.2.2.2.2⟩, fun U hU hW => ⟨rfl, ⟨by rw [hU]; exact X.1, by rw [hU]; exact X.sz hu⟩, hK.warm hW, StrOK.warm hW hU hS.1 (hS.2.kept X.2.1.2.1)⟩⟩
  exact c_go X hn (va_runI (As := As) (rest := rest) ⟨hx, hb, hml, hown, hts⟩ hM ⟨c_B hts hc hl.1 hd, hl.2.2, hts _ hl.2.1⟩ hpre rfl hAs hls rfl (lv_room hrs) hdg hf) kk
end START
theorem tm_el : ∀ j, j < 26 → Cond.eq (.elem (.field (.string "TakenNumbers" 89) "java/lang/String" "value" "[B") (.int (Int32.ofNat j))) (.int (txl j)) ∈ flatC (Jvm.Cond.and given_1 narrow_1) := by decide +kernel
theorem tl_sr : Cond.stringRef RX11 89 "n9;p4;p4;p7;p12;c7,3;h5,0;" ∈ lw_tbl := List.mem_of_getElem? (i := 421) (by decide +kernel)
theorem tl_l1 : Cond.laysStatic "java/lang/String" "COMPACT_STRINGS" "Z" ∈ lw_tbl := List.mem_of_getElem? (i := 431) (by decide +kernel)
theorem tl_l2 : Cond.laysStatic "jdk/internal/util/Preconditions" "SIOOBE_FORMATTER" "Ljava/util/function/BiFunction;" ∈ lw_tbl := List.mem_of_getElem? (i := 447) (by decide +kernel)
theorem tl_i1 : Cond.initialized "java/lang/String" ∈ lw_tbl := List.mem_of_getElem? (i := 65) (by decide +kernel)
theorem tl_i2 : Cond.initialized "jdk/internal/util/Preconditions" ∈ lw_tbl := List.mem_of_getElem? (i := 67) (by decide +kernel)
theorem str_of {args : Array Value} {s : State} {G : GG} (hA : ∀ a : Nat, a < s.heap.size → ¬ Ab G a) (hts : ∀ w ∈ lw_tbl, w.before args s = true) (hgv : (Jvm.Cond.and given_1 narrow_1).before args s = true) : ∃ sK sV : Nat, StrOK G sK sV s := by
  have hs := flat_of_before _ hgv
  obtain ⟨adK, adV, hS, hE⟩ := vk_Sof (args := args) (s := s) (N := 1) (tm := fun _ => .string "TakenNumbers" 89) (len := [26]) (byt := [txt0]) (A := Ab G) (fun i hi => by rw [show i = 0 by omega]; decide)
    (fun i _ => hs (Cond.exactly (.string "TakenNumbers" 89) "java/lang/String") (by decide +kernel))
    (fun i _ => hs (Cond.eq (.field (.string "TakenNumbers" 89) "java/lang/String" "coder" "B") (.int 0)) (by decide +kernel))
    (fun i _ => hs (Cond.arrayOf (.field (.string "TakenNumbers" 89) "java/lang/String" "value" "[B") .byte) (by decide +kernel))
    (fun i hi => by rw [show i = 0 by omega]; exact hs (Cond.eq (.length (.field (.string "TakenNumbers" 89) "java/lang/String" "value" "[B")) (.int 26)) (by decide +kernel))
    (fun i hi j hj => by
      have e0 : i = 0 := by omega
      subst e0
      exact hs _ (tm_el j hj))
    (fun i j hi hj hne => absurd (by omega) hne) hA
  obtain ⟨q1, q2, q3, q4⟩ := hS.1 0 (by decide)
  refine ⟨adK 0, adV 0, vk_R.of (hts _ tl_sr) (hE 0 (by decide)), q1, q2, q3, q4, ?_, ?_⟩
  · exact va_Zof (hts _ tl_l1) (hts _ tl_i1) (va_eqt (hs (Cond.eq (.static "java/lang/String" "COMPACT_STRINGS" "Z") (.int 1)) (by decide +kernel))) hA
  · exact va_Zqof (hts _ tl_l2) (hts _ tl_i2) (hs (Cond.isRef (.static "jdk/internal/util/Preconditions" "SIOOBE_FORMATTER" "Ljava/util/function/BiFunction;")) (by decide +kernel)) hA
theorem ar_of {s : State} {args : Array Value} {ty : FieldType} (hty : ∀ C, ty ≠ .object C) (h : (Cond.arrayClass ty).before args s = true) : ∃ cA : ClassId, ArrOfT s cA ty ∧ va_RA s cA ty := by
  obtain ⟨cA, k, comp, h1, h2, h3⟩ := Cond.arrayClass_spec h
  refine ⟨cA, fun n z => ⟨(fun k h => by cases h), k, h2, comp, h3⟩, ?_⟩
  cases ty with
  | object C => exact absurd rfl (hty C)
  | _ => exact h1
theorem ad_of {s : State} {args : Array Value} {C : String} (h : (Cond.arrayOver (.object C)).before args s = true) : ∃ cA : ClassId, ArrOfT s cA (.object C) ∧ va_RA s cA (.object C) := by
  obtain ⟨comp, cA, k, h1, h2, h3, h4, h5⟩ := Cond.arrayOver_spec h
  exact ⟨cA, fun n z => ⟨(fun k h => by cases h), k, h3, comp, h4⟩, k, comp, h3, h4, h1, h5⟩
set_option maxHeartbeats 4000000 in
set_option maxRecDepth 100000 in
theorem start_of {Inv : Hp → Prop} (SP : AllSp Inv) (IN : InitOK Inv) {p : Program} {e : Env} {s : State} {m : MethodId} {below : List Frame} {meth : Method} {c : Code} (l : Launch) {b L : Nat} {xs : Nat → Int32} (hL : L ≤ 256) (C0 : lw_At p s m meth c b L xs) : W p l e room_1 s m #[Value.ref b] below meth c s.heap [] 0 0 (lw_Z below #[Value.ref b] s) (entryFrame m ([Value.ref b] : List Value).toArray 4) := by
  obtain ⟨hx, hb, hr, hml, hown, hts0, hX, hbl, hlocks, hgv⟩ := id C0
  have hts : ∀ w ∈ TT, w.before #[Value.ref b] s = true := fun w hw => hts0 w (List.mem_filter.mp hw).1
  obtain ⟨c0, iS0, hKn0⟩ := u_known (C := RX0) (T := TX0) (N := 6) (n := 6) hts wX0 (hts0 (.instantiable RX0 6) (List.mem_of_getElem? (i := 218) (by decide +kernel)))
  obtain ⟨c1, iS1, hKn1⟩ := u_known (C := RX1) (T := TX1) (N := 10) (n := 10) hts wX1 (hts0 (.instantiable RX1 10) (List.mem_of_getElem? (i := 379) (by decide +kernel)))
  obtain ⟨c2, iS2, hKn2⟩ := u_known (C := RX2) (T := TX2) (N := 5) (n := 5) hts wX2 (hts0 (.instantiable RX2 5) (List.mem_of_getElem? (i := 152) (by decide +kernel)))
  obtain ⟨c3, iS3, hKn3⟩ := u_known (C := RX3) (T := TX3) (N := 2) (n := 2) hts wX3 (hts0 (.instantiable RX3 2) (List.mem_of_getElem? (i := 181) (by decide +kernel)))
  obtain ⟨c4, iS4, hKn4⟩ := u_known (C := RX4) (T := TX4) (N := 8) (n := 8) hts wX4 (hts0 (.instantiable RX4 8) (List.mem_of_getElem? (i := 106) (by decide +kernel)))
  obtain ⟨c5, iS5, hKn5⟩ := u_known (C := RX5) (T := TX5) (N := 9) (n := 9) hts wX5 (hts0 (.instantiable RX5 9) (List.mem_of_getElem? (i := 261) (by decide +kernel)))
  obtain ⟨c6, iS6, hKn6⟩ := u_known (C := RX6) (T := TX6) (N := 7) (n := 7) hts wX6 (hts0 (.instantiable RX6 7) (List.mem_of_getElem? (i := 342) (by decide +kernel)))
  obtain ⟨c7, iS7, hKn7⟩ := u_known (C := RX7) (T := TX7) (N := 12) (n := 12) hts wX7 (hts0 (.instantiable RX7 12) (List.mem_of_getElem? (i := 267) (by decide +kernel)))
  obtain ⟨c8, iS8, hKn8⟩ := u_known (C := RX8) (T := TX8) (N := 5) (n := 5) hts wX8 (hts0 (.instantiable RX8 5) (List.mem_of_getElem? (i := 81) (by decide +kernel)))
  obtain ⟨c9, iS9, hKn9⟩ := u_known (C := RX9) (T := TX9) (N := 3) (n := 3) hts wX9 (hts0 (.instantiable RX9 3) (List.mem_of_getElem? (i := 245) (by decide +kernel)))
  obtain ⟨c10, iS10, hKn10⟩ := u_known (C := RX10) (T := TX10) (N := 3) (n := 3) hts wX10 (hts0 (.instantiable RX10 3) (List.mem_of_getElem? (i := 201) (by decide +kernel)))
  obtain ⟨c11, iS11, hKn11⟩ := u_known (C := RX11) (T := TX11) (N := 12) (n := 12) hts wX11 (hts0 (.instantiable RX11 12) (List.mem_of_getElem? (i := 73) (by decide +kernel)))
  obtain ⟨c12, iS12, hKn12⟩ := u_known (C := RX12) (T := TX12) (N := 30) (n := 30) hts wX12 (hts0 (.instantiable RX12 30) (List.mem_of_getElem? (i := 990) (by decide +kernel)))
  obtain ⟨dC, dI, hKc⟩ : ∃ (dC : Nat → ClassId) (dI : Nat → Nat → Nat), ∀ (k : Nat) (q : vw_C), cls[k]? = some q → u_Kn s q.1 q.2.1 q.2.2 (dC k) (dI k) := by
    refine ⟨fun k => [c0, c1, c2, c3, c4, c5, c6, c7, c8, c9, c10, c11, c12].getD k c0, fun k => [iS0, iS1, iS2, iS3, iS4, iS5, iS6, iS7, iS8, iS9, iS10, iS11, iS12].getD k iS0, ?_⟩
    intro k q hq
    match k, hq with
    | 0, hq => cases hq; exact hKn0
    | 1, hq => cases hq; exact hKn1
    | 2, hq => cases hq; exact hKn2
    | 3, hq => cases hq; exact hKn3
    | 4, hq => cases hq; exact hKn4
    | 5, hq => cases hq; exact hKn5
    | 6, hq => cases hq; exact hKn6
    | 7, hq => cases hq; exact hKn7
    | 8, hq => cases hq; exact hKn8
    | 9, hq => cases hq; exact hKn9
    | 10, hq => cases hq; exact hKn10
    | 11, hq => cases hq; exact hKn11
    | 12, hq => cases hq; exact hKn12
    | k + 13, hq => simp [cls] at hq
  obtain ⟨cI, hI1, hI2⟩ := ar_of (fun C => by intro z; cases z) (hts _ la_int)
  obtain ⟨cC, hC1, hC2⟩ := ar_of (fun C => by intro z; cases z) (hts _ la_char)
  obtain ⟨cD, hD1, hD2⟩ := ad_of (hts0 _ la_over)
  obtain ⟨G, hG⟩ : ∃ G : GG, G = ((dC, dI), cI, cC, cD, s.heap.size - 1) := ⟨_, rfl⟩
  have hbs : bs G + 1 = s.heap.size := by rw [hG]; show s.heap.size - 1 + 1 = _; omega
  have hK : Ks G s := by
    refine ⟨?_, fun w hw hn => ?_⟩
    · rw [hG]
      refine ⟨hKc, fun k q hk => ?_⟩
      match k, hk with
      | 0, hk => cases hk; exact ⟨hI1, hI2⟩
      | 1, hk => cases hk; exact ⟨hC1, hC2⟩
      | 2, hk => cases hk; exact ⟨hD1, hD2⟩
      | k + 3, hk => simp at hk
    · have h2 := hts0 w hw
      cases w with
      | methodLinkNest a i x hh => exact va_Nw.of rfl h2
      | arrayOver ty =>
        cases ty with
        | object C => exact h2
        | _ => simp [isNest] at hn
      | _ => simp [isNest] at hn
  have hA : ∀ a : Nat, a < s.heap.size → ¬ Ab G a := fun a ha z => by
    have z : bs G < a := z
    omega
  obtain ⟨sK, sV, hS⟩ := str_of (G := G) hA hts0 hgv
  have X : XW G 0 hp0 s 0 s.heap [] := ⟨fun k q h => by simp [wl] at h, va_S.rf, by omega, by omega⟩
  obtain ⟨u, v, h1, h2, e1, e2, hI⟩ := IN
  have hl := lv_entry ([.ref b]) (n := 4) (Nat.le_of_ble_eq_true rfl)
  rw [lg_entry_eq]
  generalize (lg_sl ([.ref b]) ++ List.replicate (4 - (lg_sl ([.ref b])).length) Slot.unset).toArray = ls at hl ⊢
  have hl : lv_has ls 4 [(0, .ref b)] := hl
  refine w_room (R' := rmC 1400 600000 7302250) (R := room_1) ⟨by decide, by decide, by decide, by decide⟩ ?_
  refine n_new (ci := 11) (cells1 := 1) (slots1 := 12) (n1 := 1) hx hb hts hown hK X rfl rfl ln_L_7 rfl rfl rfl (by decide) (by decide) dL_0 (fun H X => ?_)
  refine lv_dup hx hb dL_3 rfl ?_
  refine c_IS (As := []) (rest := [.ref (bs G + 1)]) (n1 := 82) (cells1 := 82) (slots1 := 22088) hx hb hml hown hts hK hS X (k_X11_init l G (by omega) e1) rfl lc_X11_init li_L_9 (by decide) rfl hl.1 (Nat.le_of_ble_eq_true rfl) dL_4 rfl rfl ⟨by decide, by decide⟩ (fun H locs X => ?_)
  refine lv_astore_n (lv' := [(1, .ref (bs G + 1)), (0, .ref b)]) hx hb dL_7 rfl hl (by decide) rfl (fun ls hl => ?_)
  refine n_new (ci := 12) (cells1 := 83) (slots1 := 22118) (n1 := 83) hx hb hts hown hK X rfl rfl ln_L_10 rfl rfl rfl (by decide) (by decide) dL_8 (fun H X => ?_)
  refine lv_dup hx hb dL_11 rfl ?_
  refine c_I1 (As := []) (rest := [.ref (bs G + 83)]) (n1 := 101) (cells1 := 101) (slots1 := 39951) hx hb hml hown hts hK X (k_X12_init l G (by omega) e2) rfl lc_X12_init li_L_12 (by decide) rfl hl.1 (Nat.le_of_ble_eq_true rfl) dL_12 rfl rfl ⟨by decide, by decide⟩ (fun H locs X => ?_)
  refine lv_astore_n (lv' := [(2, .ref (bs G + 83)), (1, .ref (bs G + 1)), (0, .ref b)]) hx hb dL_15 rfl hl (by decide) rfl (fun ls hl => ?_)
  refine lv_iconst (v := 0) hx hb dL_16 (by decide) ?_
  refine lv_istore_n (lv' := [(3, .int 0), (2, .ref (bs G + 83)), (1, .ref (bs G + 1)), (0, .ref b)]) hx hb dL_17 rfl hl (by decide) rfl (fun ls hl => ?_)
  exact law_loop ⟨hx, hb, hr, hml, hown, hts, hK, hX, hbl, hA b hbl, hlocks, hL, hbs⟩ SP (L + 1) 0 ⟨by omega, by omega⟩ hI X (lv_sub hl [3, 2, 1, 0] rfl)
