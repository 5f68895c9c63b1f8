def Sp0 (Inv : Hp → Prop) (f g : Hp → Nat → Option (Int32 × Hp)) : Prop := ∀ h, Inv h → ∃ r h1 h2, f h 1 = some (r, h1) ∧ g h1 83 = some (r, h2) ∧ Inv h2
def Sp1 (Inv : Hp → Prop) (f g : Hp → Nat → Int32 → Option (Int32 × Hp)) : Prop := ∀ h a, Inv h → ∃ r h1 h2, f h 1 a = some (r, h1) ∧ g h1 83 a = some (r, h2) ∧ Inv h2
def Sp2 (Inv : Hp → Prop) (f g : Hp → Nat → Int32 → Int32 → Option (Int32 × Hp)) : Prop := ∀ h a b, Inv h → ∃ r h1 h2, f h 1 a b = some (r, h1) ∧ g h1 83 a b = some (r, h2) ∧ Inv h2
def Sp3 (Inv : Hp → Prop) (f g : Hp → Nat → Int32 → Int32 → Int32 → Option (Int32 × Hp)) : Prop := ∀ h a b c, Inv h → ∃ r h1 h2, f h 1 a b c = some (r, h1) ∧ g h1 83 a b c = some (r, h2) ∧ Inv h2
def SpZ (Inv : Hp → Prop) (f g : Hp → Nat → Int32 → Option (Int32 × Hp)) : Prop := ∀ h a, (a = 0 ∨ a = 1) → Inv h → ∃ r h1 h2, f h 1 a = some (r, h1) ∧ g h1 83 a = some (r, h2) ∧ Inv h2
def AllSp (Inv : Hp → Prop) : Prop := Sp1 Inv f_X11_write f_X12_write ∧ Sp0 Inv f_X11_wipe f_X12_wipe ∧ Sp0 Inv f_X11_fault f_X12_fault ∧ Sp0 Inv f_X11_lay f_X12_lay ∧ Sp2 Inv f_X11_number f_X12_number ∧ Sp2 Inv f_X11_person f_X12_person ∧ Sp1 Inv f_X11_law f_X12_law ∧ Sp2 Inv f_X11_tell f_X12_tell ∧ Sp0 Inv f_X11_hush f_X12_hush ∧ Sp1 Inv f_X11_words f_X12_words ∧ Sp1 Inv f_X11_say f_X12_say ∧ Sp1 Inv f_X11_speak f_X12_speak ∧ Sp2 Inv f_X11_lend f_X12_lend ∧ Sp0 Inv f_X11_born f_X12_born ∧ SpZ Inv f_X11_dusk f_X12_dusk ∧ Sp0 Inv f_X11_undo f_X12_undo ∧ Sp3 Inv f_X11_best f_X12_best ∧ Sp0 Inv f_X11_stuck f_X12_stuck ∧ Sp1 Inv f_X11_freed f_X12_freed ∧ Sp1 Inv f_X11_order f_X12_order ∧ Sp2 Inv f_X11_deny f_X12_deny ∧ Sp0 Inv f_X11_guard f_X12_guard ∧ Sp1 Inv f_X11_value f_X12_value ∧ Sp0 Inv f_X11_changed f_X12_changed ∧ Sp3 Inv f_X11_ways f_X12_ways ∧ Sp1 Inv f_X11_lowest f_X12_lowest ∧ Sp1 Inv f_X11_enter f_X12_enter ∧ Sp0 Inv f_X11_close f_X12_close ∧ Sp1 Inv f_X11_book f_X12_book ∧ Sp0 Inv f_X11_twice f_X12_twice ∧ Sp2 Inv f_X11_corner f_X12_corner ∧ Sp3 Inv f_X11_year f_X12_year ∧ Sp0 Inv f_X11_keep f_X12_keep ∧ Sp0 Inv f_X11_back f_X12_back ∧ Sp1 Inv f_X11_count f_X12_count
set_option maxHeartbeats 8000000
set_option maxRecDepth 100000
section
variable {p : Program} {l : Launch} {e : Env} {s : State} {m : MethodId} {below : List Frame} {meth : Method} {c : Code} {G : GG} {b L : Nat} {xs : Nat → Int32} {Inv : Hp → Prop}
/-- what the law's loop stands on -/
def LX (p : Program) (s : State) (m : MethodId) (meth : Method) (c : Code) (G : GG) (b L : Nat) (xs : Nat → Int32) : Prop := p.tables.exec = Jvm.exec ∧ c.code = code ∧ meth.sig.returnType = ret ∧ c.maxLocals = 4 ∧ s.vm.findClass R_law = some m.cls ∧ (∀ w ∈ TT, w.before #[Value.ref b] s = true) ∧ Ks G s ∧ va_X b L xs s s.heap ∧ b < s.heap.size ∧ ¬ Ab G b ∧ meth.locks = false ∧ L ≤ 256 ∧ bs G + 1 = s.heap.size
theorem lc_case_0 {i : Nat} (C0 : LX p s m meth c G b L xs) (S0 : Sp1 Inv f_X11_write f_X12_write) (nxt : ∀ {h : Hp} {H : Heap} {locs : List Loc} {ls : Array Slot}, Inv h → XW G 101 h s 101 H locs → lv_has ls 4 [(0, .ref b), (1, .ref (bs G + 1)), (2, .ref (bs G + 83)), (3, .int (nI i))] → W p l e (rmC 1400 600000 7302250) s m #[Value.ref b] below meth c H locs 101 39951 (lw_Z below #[Value.ref b] s) (F0 m 999 ls [])) (hin1 : vp_in (nI i + 1) L) (hin2 : vp_in (nI i + 2) L) (hin3 : vp_in (nI i + 3) L) {h : Hp} {H : Heap} {locs : List Loc} {ls : Array Slot} (hI : Inv h) (X : XW G 101 h s 101 H locs) (hl : lv_has ls 4 [(0, .ref b), (1, .ref (bs G + 1)), (2, .ref (bs G + 83)), (3, .int (nI i))]) : W p l e (rmC 1400 600000 7302250) s m #[Value.ref b] below meth c H locs 101 39951 (lw_Z below #[Value.ref b] s) (F0 m 188 ls []) := by
  obtain ⟨hx, hb, hr, hml, hown, hts, hK, hX, hbl, hbA, hlocks, hL, hbs⟩ := C0
  refine lv_aload_n hx hb dL_188 rfl (lv_at hl 1 rfl) ?_
  refine lv_aload_n hx hb dL_189 rfl (lv_at hl 0 rfl) ?_
  refine lv_iload_n hx hb dL_190 rfl (lv_at hl 3 rfl) ?_
  refine lv_iconst (v := 1) hx hb dL_191 (by decide) ?_
  refine lv_iadd hx hb dL_192 ?_
  refine va_sld hx hb hX hbl hbA X.2.1 hin1 dL_193 ?_
  obtain ⟨r, h1, h2, e1, e2, hI⟩ := S0 h (xs (nI i + 1).toNatClampNeg) hI
  refine c_V1 (As := [.int (xs (nI i + 1).toNatClampNeg)]) (rest := []) (st1 := [.int r]) hx hb hml hown hts hK X (k_X11_write l G 101 (by decide) e1) (show kd 1 = 11 from rfl) (by decide) lc_X11_write lv_L_13 (ci := 11) rfl rfl (by decide) rfl hl.1 (Nat.le_of_ble_eq_true rfl) dL_194 rfl ⟨by decide, by decide⟩ (fun H locs X => ?_)
  refine lv_aload_n hx hb dL_197 rfl (lv_at hl 2 rfl) ?_
  refine lv_aload_n hx hb dL_198 rfl (lv_at hl 0 rfl) ?_
  refine lv_iload_n hx hb dL_199 rfl (lv_at hl 3 rfl) ?_
  refine lv_iconst (v := 1) hx hb dL_200 (by decide) ?_
  refine lv_iadd hx hb dL_201 ?_
  refine va_sld hx hb hX hbl hbA X.2.1 hin1 dL_202 ?_
  refine c_V1 (As := [.int (xs (nI i + 1).toNatClampNeg)]) (rest := [.int r]) (st1 := [.int r, .int r]) hx hb hml hown hts hK X (k_X12_write l G 101 (by decide) e2) (show kd 83 = 12 from rfl) (by decide) lc_X12_write lv_L_17 (ci := 12) rfl rfl (by decide) rfl hl.1 (Nat.le_of_ble_eq_true rfl) dL_203 rfl ⟨by decide, by decide⟩ (fun H locs X => ?_)
  refine lv_icmp_eq (tgt := 999) hx hb dL_206 (by decide) (fun _ => ?_) (fun z => absurd rfl z)
  exact nxt hI X hl
theorem lc_case_1 {i : Nat} (C0 : LX p s m meth c G b L xs) (S1 : Sp0 Inv f_X11_wipe f_X12_wipe) (nxt : ∀ {h : Hp} {H : Heap} {locs : List Loc} {ls : Array Slot}, Inv h → XW G 101 h s 101 H locs → lv_has ls 4 [(0, .ref b), (1, .ref (bs G + 1)), (2, .ref (bs G + 83)), (3, .int (nI i))] → W p l e (rmC 1400 600000 7302250) s m #[Value.ref b] below meth c H locs 101 39951 (lw_Z below #[Value.ref b] s) (F0 m 999 ls [])) (hin1 : vp_in (nI i + 1) L) (hin2 : vp_in (nI i + 2) L) (hin3 : vp_in (nI i + 3) L) {h : Hp} {H : Heap} {locs : List Loc} {ls : Array Slot} (hI : Inv h) (X : XW G 101 h s 101 H locs) (hl : lv_has ls 4 [(0, .ref b), (1, .ref (bs G + 1)), (2, .ref (bs G + 83)), (3, .int (nI i))]) : W p l e (rmC 1400 600000 7302250) s m #[Value.ref b] below meth c H locs 101 39951 (lw_Z below #[Value.ref b] s) (F0 m 211 ls []) := by
  obtain ⟨hx, hb, hr, hml, hown, hts, hK, hX, hbl, hbA, hlocks, hL, hbs⟩ := C0
  refine lv_aload_n hx hb dL_211 rfl (lv_at hl 1 rfl) ?_
  obtain ⟨r, h1, h2, e1, e2, hI⟩ := S1 h hI
  refine c_V1 (As := []) (rest := []) (st1 := [.int r]) hx hb hml hown hts hK X (k_X11_wipe l G 101 (by decide) e1) (show kd 1 = 11 from rfl) (by decide) lc_X11_wipe lv_L_18 (ci := 11) rfl rfl (by decide) rfl hl.1 (Nat.le_of_ble_eq_true rfl) dL_212 rfl ⟨by decide, by decide⟩ (fun H locs X => ?_)
  refine lv_aload_n hx hb dL_215 rfl (lv_at hl 2 rfl) ?_
  refine c_V1 (As := []) (rest := [.int r]) (st1 := [.int r, .int r]) hx hb hml hown hts hK X (k_X12_wipe l G 101 (by decide) e2) (show kd 83 = 12 from rfl) (by decide) lc_X12_wipe lv_L_22 (ci := 12) rfl rfl (by decide) rfl hl.1 (Nat.le_of_ble_eq_true rfl) dL_216 rfl ⟨by decide, by decide⟩ (fun H locs X => ?_)
  refine lv_icmp_eq (tgt := 999) hx hb dL_219 (by decide) (fun _ => ?_) (fun z => absurd rfl z)
  exact nxt hI X hl
theorem lc_case_2 {i : Nat} (C0 : LX p s m meth c G b L xs) (S2 : Sp0 Inv f_X11_fault f_X12_fault) (nxt : ∀ {h : Hp} {H : Heap} {locs : List Loc} {ls : Array Slot}, Inv h → XW G 101 h s 101 H locs → lv_has ls 4 [(0, .ref b), (1, .ref (bs G + 1)), (2, .ref (bs G + 83)), (3, .int (nI i))] → W p l e (rmC 1400 600000 7302250) s m #[Value.ref b] below meth c H locs 101 39951 (lw_Z below #[Value.ref b] s) (F0 m 999 ls [])) (hin1 : vp_in (nI i + 1) L) (hin2 : vp_in (nI i + 2) L) (hin3 : vp_in (nI i + 3) L) {h : Hp} {H : Heap} {locs : List Loc} {ls : Array Slot} (hI : Inv h) (X : XW G 101 h s 101 H locs) (hl : lv_has ls 4 [(0, .ref b), (1, .ref (bs G + 1)), (2, .ref (bs G + 83)), (3, .int (nI i))]) : W p l e (rmC 1400 600000 7302250) s m #[Value.ref b] below meth c H locs 101 39951 (lw_Z below #[Value.ref b] s) (F0 m 224 ls []) := by
  obtain ⟨hx, hb, hr, hml, hown, hts, hK, hX, hbl, hbA, hlocks, hL, hbs⟩ := C0
  refine lv_aload_n hx hb dL_224 rfl (lv_at hl 1 rfl) ?_
  obtain ⟨r, h1, h2, e1, e2, hI⟩ := S2 h hI
  refine c_V1 (As := []) (rest := []) (st1 := [.int r]) hx hb hml hown hts hK X (k_X11_fault l G 101 (by decide) e1) (show kd 1 = 11 from rfl) (by decide) lc_X11_fault lv_L_23 (ci := 11) rfl rfl (by decide) rfl hl.1 (Nat.le_of_ble_eq_true rfl) dL_225 rfl ⟨by decide, by decide⟩ (fun H locs X => ?_)
  refine lv_aload_n hx hb dL_228 rfl (lv_at hl 2 rfl) ?_
  refine c_V1 (As := []) (rest := [.int r]) (st1 := [.int r, .int r]) hx hb hml hown hts hK X (k_X12_fault l G 101 (by decide) e2) (show kd 83 = 12 from rfl) (by decide) lc_X12_fault lv_L_26 (ci := 12) rfl rfl (by decide) rfl hl.1 (Nat.le_of_ble_eq_true rfl) dL_229 rfl ⟨by decide, by decide⟩ (fun H locs X => ?_)
  refine lv_icmp_eq (tgt := 999) hx hb dL_232 (by decide) (fun _ => ?_) (fun z => absurd rfl z)
  exact nxt hI X hl
theorem lc_case_3 {i : Nat} (C0 : LX p s m meth c G b L xs) (S3 : Sp0 Inv f_X11_lay f_X12_lay) (nxt : ∀ {h : Hp} {H : Heap} {locs : List Loc} {ls : Array Slot}, Inv h → XW G 101 h s 101 H locs → lv_has ls 4 [(0, .ref b), (1, .ref (bs G + 1)), (2, .ref (bs G + 83)), (3, .int (nI i))] → W p l e (rmC 1400 600000 7302250) s m #[Value.ref b] below meth c H locs 101 39951 (lw_Z below #[Value.ref b] s) (F0 m 999 ls [])) (hin1 : vp_in (nI i + 1) L) (hin2 : vp_in (nI i + 2) L) (hin3 : vp_in (nI i + 3) L) {h : Hp} {H : Heap} {locs : List Loc} {ls : Array Slot} (hI : Inv h) (X : XW G 101 h s 101 H locs) (hl : lv_has ls 4 [(0, .ref b), (1, .ref (bs G + 1)), (2, .ref (bs G + 83)), (3, .int (nI i))]) : W p l e (rmC 1400 600000 7302250) s m #[Value.ref b] below meth c H locs 101 39951 (lw_Z below #[Value.ref b] s) (F0 m 237 ls []) := by
  obtain ⟨hx, hb, hr, hml, hown, hts, hK, hX, hbl, hbA, hlocks, hL, hbs⟩ := C0
  refine lv_aload_n hx hb dL_237 rfl (lv_at hl 1 rfl) ?_
  obtain ⟨r, h1, h2, e1, e2, hI⟩ := S3 h hI
  refine c_V1 (As := []) (rest := []) (st1 := [.int r]) hx hb hml hown hts hK X (k_X11_lay l G 101 (by decide) e1) (show kd 1 = 11 from rfl) (by decide) lc_X11_lay lv_L_27 (ci := 11) rfl rfl (by decide) rfl hl.1 (Nat.le_of_ble_eq_true rfl) dL_238 rfl ⟨by decide, by decide⟩ (fun H locs X => ?_)
  refine lv_aload_n hx hb dL_241 rfl (lv_at hl 2 rfl) ?_
  refine c_V1 (As := []) (rest := [.int r]) (st1 := [.int r, .int r]) hx hb hml hown hts hK X (k_X12_lay l G 101 (by decide) e2) (show kd 83 = 12 from rfl) (by decide) lc_X12_lay lv_L_30 (ci := 12) rfl rfl (by decide) rfl hl.1 (Nat.le_of_ble_eq_true rfl) dL_242 rfl ⟨by decide, by decide⟩ (fun H locs X => ?_)
  refine lv_icmp_eq (tgt := 999) hx hb dL_245 (by decide) (fun _ => ?_) (fun z => absurd rfl z)
  exact nxt hI X hl
theorem lc_case_4 {i : Nat} (C0 : LX p s m meth c G b L xs) (S4 : Sp2 Inv f_X11_number f_X12_number) (nxt : ∀ {h : Hp} {H : Heap} {locs : List Loc} {ls : Array Slot}, Inv h → XW G 101 h s 101 H locs → lv_has ls 4 [(0, .ref b), (1, .ref (bs G + 1)), (2, .ref (bs G + 83)), (3, .int (nI i))] → W p l e (rmC 1400 600000 7302250) s m #[Value.ref b] below meth c H locs 101 39951 (lw_Z below #[Value.ref b] s) (F0 m 999 ls [])) (hin1 : vp_in (nI i + 1) L) (hin2 : vp_in (nI i + 2) L) (hin3 : vp_in (nI i + 3) L) {h : Hp} {H : Heap} {locs : List Loc} {ls : Array Slot} (hI : Inv h) (X : XW G 101 h s 101 H locs) (hl : lv_has ls 4 [(0, .ref b), (1, .ref (bs G + 1)), (2, .ref (bs G + 83)), (3, .int (nI i))]) : W p l e (rmC 1400 600000 7302250) s m #[Value.ref b] below meth c H locs 101 39951 (lw_Z below #[Value.ref b] s) (F0 m 250 ls []) := by
  obtain ⟨hx, hb, hr, hml, hown, hts, hK, hX, hbl, hbA, hlocks, hL, hbs⟩ := C0
  refine lv_aload_n hx hb dL_250 rfl (lv_at hl 1 rfl) ?_
  refine lv_aload_n hx hb dL_251 rfl (lv_at hl 0 rfl) ?_
  refine lv_iload_n hx hb dL_252 rfl (lv_at hl 3 rfl) ?_
  refine lv_iconst (v := 1) hx hb dL_253 (by decide) ?_
  refine lv_iadd hx hb dL_254 ?_
  refine va_sld hx hb hX hbl hbA X.2.1 hin1 dL_255 ?_
  refine lv_aload_n hx hb dL_256 rfl (lv_at hl 0 rfl) ?_
  refine lv_iload_n hx hb dL_257 rfl (lv_at hl 3 rfl) ?_
  refine lv_iconst (v := 2) hx hb dL_258 (by decide) ?_
  refine lv_iadd hx hb dL_259 ?_
  refine va_sld hx hb hX hbl hbA X.2.1 hin2 dL_260 ?_
  obtain ⟨r, h1, h2, e1, e2, hI⟩ := S4 h (xs (nI i + 1).toNatClampNeg) (xs (nI i + 2).toNatClampNeg) hI
  refine c_V1 (As := [.int (xs (nI i + 1).toNatClampNeg), .int (xs (nI i + 2).toNatClampNeg)]) (rest := []) (st1 := [.int r]) hx hb hml hown hts hK X (k_X11_number l G 101 (by decide) e1) (show kd 1 = 11 from rfl) (by decide) lc_X11_number lv_L_31 (ci := 11) rfl rfl (by decide) rfl hl.1 (Nat.le_of_ble_eq_true rfl) dL_261 rfl ⟨by decide, by decide⟩ (fun H locs X => ?_)
  refine lv_aload_n hx hb dL_264 rfl (lv_at hl 2 rfl) ?_
  refine lv_aload_n hx hb dL_265 rfl (lv_at hl 0 rfl) ?_
  refine lv_iload_n hx hb dL_266 rfl (lv_at hl 3 rfl) ?_
  refine lv_iconst (v := 1) hx hb dL_267 (by decide) ?_
  refine lv_iadd hx hb dL_268 ?_
  refine va_sld hx hb hX hbl hbA X.2.1 hin1 dL_269 ?_
  refine lv_aload_n hx hb dL_270 rfl (lv_at hl 0 rfl) ?_
  refine lv_iload_n hx hb dL_271 rfl (lv_at hl 3 rfl) ?_
  refine lv_iconst (v := 2) hx hb dL_272 (by decide) ?_
  refine lv_iadd hx hb dL_273 ?_
  refine va_sld hx hb hX hbl hbA X.2.1 hin2 dL_274 ?_
  refine c_V1 (As := [.int (xs (nI i + 1).toNatClampNeg), .int (xs (nI i + 2).toNatClampNeg)]) (rest := [.int r]) (st1 := [.int r, .int r]) hx hb hml hown hts hK X (k_X12_number l G 101 (by decide) e2) (show kd 83 = 12 from rfl) (by decide) lc_X12_number lv_L_35 (ci := 12) rfl rfl (by decide) rfl hl.1 (Nat.le_of_ble_eq_true rfl) dL_275 rfl ⟨by decide, by decide⟩ (fun H locs X => ?_)
  refine lv_icmp_eq (tgt := 999) hx hb dL_278 (by decide) (fun _ => ?_) (fun z => absurd rfl z)
  exact nxt hI X hl
theorem lc_case_5 {i : Nat} (C0 : LX p s m meth c G b L xs) (S5 : Sp2 Inv f_X11_person f_X12_person) (nxt : ∀ {h : Hp} {H : Heap} {locs : List Loc} {ls : Array Slot}, Inv h → XW G 101 h s 101 H locs → lv_has ls 4 [(0, .ref b), (1, .ref (bs G + 1)), (2, .ref (bs G + 83)), (3, .int (nI i))] → W p l e (rmC 1400 600000 7302250) s m #[Value.ref b] below meth c H locs 101 39951 (lw_Z below #[Value.ref b] s) (F0 m 999 ls [])) (hin1 : vp_in (nI i + 1) L) (hin2 : vp_in (nI i + 2) L) (hin3 : vp_in (nI i + 3) L) {h : Hp} {H : Heap} {locs : List Loc} {ls : Array Slot} (hI : Inv h) (X : XW G 101 h s 101 H locs) (hl : lv_has ls 4 [(0, .ref b), (1, .ref (bs G + 1)), (2, .ref (bs G + 83)), (3, .int (nI i))]) : W p l e (rmC 1400 600000 7302250) s m #[Value.ref b] below meth c H locs 101 39951 (lw_Z below #[Value.ref b] s) (F0 m 283 ls []) := by
  obtain ⟨hx, hb, hr, hml, hown, hts, hK, hX, hbl, hbA, hlocks, hL, hbs⟩ := C0
  refine lv_aload_n hx hb dL_283 rfl (lv_at hl 1 rfl) ?_
  refine lv_aload_n hx hb dL_284 rfl (lv_at hl 0 rfl) ?_
  refine lv_iload_n hx hb dL_285 rfl (lv_at hl 3 rfl) ?_
  refine lv_iconst (v := 1) hx hb dL_286 (by decide) ?_
  refine lv_iadd hx hb dL_287 ?_
  refine va_sld hx hb hX hbl hbA X.2.1 hin1 dL_288 ?_
  refine lv_aload_n hx hb dL_289 rfl (lv_at hl 0 rfl) ?_
  refine lv_iload_n hx hb dL_290 rfl (lv_at hl 3 rfl) ?_
  refine lv_iconst (v := 2) hx hb dL_291 (by decide) ?_
  refine lv_iadd hx hb dL_292 ?_
  refine va_sld hx hb hX hbl hbA X.2.1 hin2 dL_293 ?_
  obtain ⟨r, h1, h2, e1, e2, hI⟩ := S5 h (xs (nI i + 1).toNatClampNeg) (xs (nI i + 2).toNatClampNeg) hI
  refine c_V1 (As := [.int (xs (nI i + 1).toNatClampNeg), .int (xs (nI i + 2).toNatClampNeg)]) (rest := []) (st1 := [.int r]) hx hb hml hown hts hK X (k_X11_person l G 101 (by decide) e1) (show kd 1 = 11 from rfl) (by decide) lc_X11_person lv_L_36 (ci := 11) rfl rfl (by decide) rfl hl.1 (Nat.le_of_ble_eq_true rfl) dL_294 rfl ⟨by decide, by decide⟩ (fun H locs X => ?_)
  refine lv_aload_n hx hb dL_297 rfl (lv_at hl 2 rfl) ?_
  refine lv_aload_n hx hb dL_298 rfl (lv_at hl 0 rfl) ?_
  refine lv_iload_n hx hb dL_299 rfl (lv_at hl 3 rfl) ?_
  refine lv_iconst (v := 1) hx hb dL_300 (by decide) ?_
  refine lv_iadd hx hb dL_301 ?_
  refine va_sld hx hb hX hbl hbA X.2.1 hin1 dL_302 ?_
  refine lv_aload_n hx hb dL_303 rfl (lv_at hl 0 rfl) ?_
  refine lv_iload_n hx hb dL_304 rfl (lv_at hl 3 rfl) ?_
  refine lv_iconst (v := 2) hx hb dL_305 (by decide) ?_
  refine lv_iadd hx hb dL_306 ?_
  refine va_sld hx hb hX hbl hbA X.2.1 hin2 dL_307 ?_
  refine c_V1 (As := [.int (xs (nI i + 1).toNatClampNeg), .int (xs (nI i + 2).toNatClampNeg)]) (rest := [.int r]) (st1 := [.int r, .int r]) hx hb hml hown hts hK X (k_X12_person l G 101 (by decide) e2) (show kd 83 = 12 from rfl) (by decide) lc_X12_person lv_L_39 (ci := 12) rfl rfl (by decide) rfl hl.1 (Nat.le_of_ble_eq_true rfl) dL_308 rfl ⟨by decide, by decide⟩ (fun H locs X => ?_)
  refine lv_icmp_eq (tgt := 999) hx hb dL_311 (by decide) (fun _ => ?_) (fun z => absurd rfl z)
  exact nxt hI X hl
theorem lc_case_6 {i : Nat} (C0 : LX p s m meth c G b L xs) (S6 : Sp1 Inv f_X11_law f_X12_law) (nxt : ∀ {h : Hp} {H : Heap} {locs : List Loc} {ls : Array Slot}, Inv h → XW G 101 h s 101 H locs → lv_has ls 4 [(0, .ref b), (1, .ref (bs G + 1)), (2, .ref (bs G + 83)), (3, .int (nI i))] → W p l e (rmC 1400 600000 7302250) s m #[Value.ref b] below meth c H locs 101 39951 (lw_Z below #[Value.ref b] s) (F0 m 999 ls [])) (hin1 : vp_in (nI i + 1) L) (hin2 : vp_in (nI i + 2) L) (hin3 : vp_in (nI i + 3) L) {h : Hp} {H : Heap} {locs : List Loc} {ls : Array Slot} (hI : Inv h) (X : XW G 101 h s 101 H locs) (hl : lv_has ls 4 [(0, .ref b), (1, .ref (bs G + 1)), (2, .ref (bs G + 83)), (3, .int (nI i))]) : W p l e (rmC 1400 600000 7302250) s m #[Value.ref b] below meth c H locs 101 39951 (lw_Z below #[Value.ref b] s) (F0 m 316 ls []) := by
  obtain ⟨hx, hb, hr, hml, hown, hts, hK, hX, hbl, hbA, hlocks, hL, hbs⟩ := C0
  refine lv_aload_n hx hb dL_316 rfl (lv_at hl 1 rfl) ?_
  refine lv_aload_n hx hb dL_317 rfl (lv_at hl 0 rfl) ?_
  refine lv_iload_n hx hb dL_318 rfl (lv_at hl 3 rfl) ?_
  refine lv_iconst (v := 1) hx hb dL_319 (by decide) ?_
  refine lv_iadd hx hb dL_320 ?_
  refine va_sld hx hb hX hbl hbA X.2.1 hin1 dL_321 ?_
  obtain ⟨r, h1, h2, e1, e2, hI⟩ := S6 h (xs (nI i + 1).toNatClampNeg) hI
  refine c_V1 (As := [.int (xs (nI i + 1).toNatClampNeg)]) (rest := []) (st1 := [.int r]) hx hb hml hown hts hK X (k_X11_law l G 101 (by decide) e1) (show kd 1 = 11 from rfl) (by decide) lc_X11_law lv_L_40 (ci := 11) rfl rfl (by decide) rfl hl.1 (Nat.le_of_ble_eq_true rfl) dL_322 rfl ⟨by decide, by decide⟩ (fun H locs X => ?_)
  refine lv_aload_n hx hb dL_325 rfl (lv_at hl 2 rfl) ?_
  refine lv_aload_n hx hb dL_326 rfl (lv_at hl 0 rfl) ?_
  refine lv_iload_n hx hb dL_327 rfl (lv_at hl 3 rfl) ?_
  refine lv_iconst (v := 1) hx hb dL_328 (by decide) ?_
  refine lv_iadd hx hb dL_329 ?_
  refine va_sld hx hb hX hbl hbA X.2.1 hin1 dL_330 ?_
  refine c_V1 (As := [.int (xs (nI i + 1).toNatClampNeg)]) (rest := [.int r]) (st1 := [.int r, .int r]) hx hb hml hown hts hK X (k_X12_law l G 101 (by decide) e2) (show kd 83 = 12 from rfl) (by decide) lc_X12_law lv_L_43 (ci := 12) rfl rfl (by decide) rfl hl.1 (Nat.le_of_ble_eq_true rfl) dL_331 rfl ⟨by decide, by decide⟩ (fun H locs X => ?_)
  refine lv_icmp_eq (tgt := 999) hx hb dL_334 (by decide) (fun _ => ?_) (fun z => absurd rfl z)
  exact nxt hI X hl
theorem lc_case_7 {i : Nat} (C0 : LX p s m meth c G b L xs) (S7 : Sp2 Inv f_X11_tell f_X12_tell) (nxt : ∀ {h : Hp} {H : Heap} {locs : List Loc} {ls : Array Slot}, Inv h → XW G 101 h s 101 H locs → lv_has ls 4 [(0, .ref b), (1, .ref (bs G + 1)), (2, .ref (bs G + 83)), (3, .int (nI i))] → W p l e (rmC 1400 600000 7302250) s m #[Value.ref b] below meth c H locs 101 39951 (lw_Z below #[Value.ref b] s) (F0 m 999 ls [])) (hin1 : vp_in (nI i + 1) L) (hin2 : vp_in (nI i + 2) L) (hin3 : vp_in (nI i + 3) L) {h : Hp} {H : Heap} {locs : List Loc} {ls : Array Slot} (hI : Inv h) (X : XW G 101 h s 101 H locs) (hl : lv_has ls 4 [(0, .ref b), (1, .ref (bs G + 1)), (2, .ref (bs G + 83)), (3, .int (nI i))]) : W p l e (rmC 1400 600000 7302250) s m #[Value.ref b] below meth c H locs 101 39951 (lw_Z below #[Value.ref b] s) (F0 m 339 ls []) := by
  obtain ⟨hx, hb, hr, hml, hown, hts, hK, hX, hbl, hbA, hlocks, hL, hbs⟩ := C0
  refine lv_aload_n hx hb dL_339 rfl (lv_at hl 1 rfl) ?_
  refine lv_aload_n hx hb dL_340 rfl (lv_at hl 0 rfl) ?_
  refine lv_iload_n hx hb dL_341 rfl (lv_at hl 3 rfl) ?_
  refine lv_iconst (v := 1) hx hb dL_342 (by decide) ?_
  refine lv_iadd hx hb dL_343 ?_
  refine va_sld hx hb hX hbl hbA X.2.1 hin1 dL_344 ?_
  refine lv_aload_n hx hb dL_345 rfl (lv_at hl 0 rfl) ?_
  refine lv_iload_n hx hb dL_346 rfl (lv_at hl 3 rfl) ?_
  refine lv_iconst (v := 2) hx hb dL_347 (by decide) ?_
  refine lv_iadd hx hb dL_348 ?_
  refine va_sld hx hb hX hbl hbA X.2.1 hin2 dL_349 ?_
  obtain ⟨r, h1, h2, e1, e2, hI⟩ := S7 h (xs (nI i + 1).toNatClampNeg) (xs (nI i + 2).toNatClampNeg) hI
  refine c_V1 (As := [.int (xs (nI i + 1).toNatClampNeg), .int (xs (nI i + 2).toNatClampNeg)]) (rest := []) (st1 := [.int r]) hx hb hml hown hts hK X (k_X11_tell l G 101 (by decide) e1) (show kd 1 = 11 from rfl) (by decide) lc_X11_tell lv_L_44 (ci := 11) rfl rfl (by decide) rfl hl.1 (Nat.le_of_ble_eq_true rfl) dL_350 rfl ⟨by decide, by decide⟩ (fun H locs X => ?_)
  refine lv_aload_n hx hb dL_353 rfl (lv_at hl 2 rfl) ?_
  refine lv_aload_n hx hb dL_354 rfl (lv_at hl 0 rfl) ?_
  refine lv_iload_n hx hb dL_355 rfl (lv_at hl 3 rfl) ?_
  refine lv_iconst (v := 1) hx hb dL_356 (by decide) ?_
  refine lv_iadd hx hb dL_357 ?_
  refine va_sld hx hb hX hbl hbA X.2.1 hin1 dL_358 ?_
  refine lv_aload_n hx hb dL_359 rfl (lv_at hl 0 rfl) ?_
  refine lv_iload_n hx hb dL_360 rfl (lv_at hl 3 rfl) ?_
  refine lv_iconst (v := 2) hx hb dL_361 (by decide) ?_
  refine lv_iadd hx hb dL_362 ?_
  refine va_sld hx hb hX hbl hbA X.2.1 hin2 dL_363 ?_
  refine c_V1 (As := [.int (xs (nI i + 1).toNatClampNeg), .int (xs (nI i + 2).toNatClampNeg)]) (rest := [.int r]) (st1 := [.int r, .int r]) hx hb hml hown hts hK X (k_X12_tell l G 101 (by decide) e2) (show kd 83 = 12 from rfl) (by decide) lc_X12_tell lv_L_47 (ci := 12) rfl rfl (by decide) rfl hl.1 (Nat.le_of_ble_eq_true rfl) dL_364 rfl ⟨by decide, by decide⟩ (fun H locs X => ?_)
  refine lv_icmp_eq (tgt := 999) hx hb dL_367 (by decide) (fun _ => ?_) (fun z => absurd rfl z)
  exact nxt hI X hl
theorem lc_case_8 {i : Nat} (C0 : LX p s m meth c G b L xs) (S8 : Sp0 Inv f_X11_hush f_X12_hush) (nxt : ∀ {h : Hp} {H : Heap} {locs : List Loc} {ls : Array Slot}, Inv h → XW G 101 h s 101 H locs → lv_has ls 4 [(0, .ref b), (1, .ref (bs G + 1)), (2, .ref (bs G + 83)), (3, .int (nI i))] → W p l e (rmC 1400 600000 7302250) s m #[Value.ref b] below meth c H locs 101 39951 (lw_Z below #[Value.ref b] s) (F0 m 999 ls [])) (hin1 : vp_in (nI i + 1) L) (hin2 : vp_in (nI i + 2) L) (hin3 : vp_in (nI i + 3) L) {h : Hp} {H : Heap} {locs : List Loc} {ls : Array Slot} (hI : Inv h) (X : XW G 101 h s 101 H locs) (hl : lv_has ls 4 [(0, .ref b), (1, .ref (bs G + 1)), (2, .ref (bs G + 83)), (3, .int (nI i))]) : W p l e (rmC 1400 600000 7302250) s m #[Value.ref b] below meth c H locs 101 39951 (lw_Z below #[Value.ref b] s) (F0 m 372 ls []) := by
  obtain ⟨hx, hb, hr, hml, hown, hts, hK, hX, hbl, hbA, hlocks, hL, hbs⟩ := C0
  refine lv_aload_n hx hb dL_372 rfl (lv_at hl 1 rfl) ?_
  obtain ⟨r, h1, h2, e1, e2, hI⟩ := S8 h hI
  refine c_V1 (As := []) (rest := []) (st1 := [.int r]) hx hb hml hown hts hK X (k_X11_hush l G 101 (by decide) e1) (show kd 1 = 11 from rfl) (by decide) lc_X11_hush lv_L_48 (ci := 11) rfl rfl (by decide) rfl hl.1 (Nat.le_of_ble_eq_true rfl) dL_373 rfl ⟨by decide, by decide⟩ (fun H locs X => ?_)
  refine lv_aload_n hx hb dL_376 rfl (lv_at hl 2 rfl) ?_
  refine c_V1 (As := []) (rest := [.int r]) (st1 := [.int r, .int r]) hx hb hml hown hts hK X (k_X12_hush l G 101 (by decide) e2) (show kd 83 = 12 from rfl) (by decide) lc_X12_hush lv_L_51 (ci := 12) rfl rfl (by decide) rfl hl.1 (Nat.le_of_ble_eq_true rfl) dL_377 rfl ⟨by decide, by decide⟩ (fun H locs X => ?_)
  refine lv_icmp_eq (tgt := 999) hx hb dL_380 (by decide) (fun _ => ?_) (fun z => absurd rfl z)
  exact nxt hI X hl
theorem lc_case_9 {i : Nat} (C0 : LX p s m meth c G b L xs) (S9 : Sp1 Inv f_X11_words f_X12_words) (nxt : ∀ {h : Hp} {H : Heap} {locs : List Loc} {ls : Array Slot}, Inv h → XW G 101 h s 101 H locs → lv_has ls 4 [(0, .ref b), (1, .ref (bs G + 1)), (2, .ref (bs G + 83)), (3, .int (nI i))] → W p l e (rmC 1400 600000 7302250) s m #[Value.ref b] below meth c H locs 101 39951 (lw_Z below #[Value.ref b] s) (F0 m 999 ls [])) (hin1 : vp_in (nI i + 1) L) (hin2 : vp_in (nI i + 2) L) (hin3 : vp_in (nI i + 3) L) {h : Hp} {H : Heap} {locs : List Loc} {ls : Array Slot} (hI : Inv h) (X : XW G 101 h s 101 H locs) (hl : lv_has ls 4 [(0, .ref b), (1, .ref (bs G + 1)), (2, .ref (bs G + 83)), (3, .int (nI i))]) : W p l e (rmC 1400 600000 7302250) s m #[Value.ref b] below meth c H locs 101 39951 (lw_Z below #[Value.ref b] s) (F0 m 385 ls []) := by
  obtain ⟨hx, hb, hr, hml, hown, hts, hK, hX, hbl, hbA, hlocks, hL, hbs⟩ := C0
  refine lv_aload_n hx hb dL_385 rfl (lv_at hl 1 rfl) ?_
  refine lv_aload_n hx hb dL_386 rfl (lv_at hl 0 rfl) ?_
  refine lv_iload_n hx hb dL_387 rfl (lv_at hl 3 rfl) ?_
  refine lv_iconst (v := 1) hx hb dL_388 (by decide) ?_
  refine lv_iadd hx hb dL_389 ?_
  refine va_sld hx hb hX hbl hbA X.2.1 hin1 dL_390 ?_
  obtain ⟨r, h1, h2, e1, e2, hI⟩ := S9 h (xs (nI i + 1).toNatClampNeg) hI
  refine c_V1 (As := [.int (xs (nI i + 1).toNatClampNeg)]) (rest := []) (st1 := [.int r]) hx hb hml hown hts hK X (k_X11_words l G 101 (by decide) e1) (show kd 1 = 11 from rfl) (by decide) lc_X11_words lv_L_52 (ci := 11) rfl rfl (by decide) rfl hl.1 (Nat.le_of_ble_eq_true rfl) dL_391 rfl ⟨by decide, by decide⟩ (fun H locs X => ?_)
  refine lv_aload_n hx hb dL_394 rfl (lv_at hl 2 rfl) ?_
  refine lv_aload_n hx hb dL_395 rfl (lv_at hl 0 rfl) ?_
  refine lv_iload_n hx hb dL_396 rfl (lv_at hl 3 rfl) ?_
  refine lv_iconst (v := 1) hx hb dL_397 (by decide) ?_
  refine lv_iadd hx hb dL_398 ?_
  refine va_sld hx hb hX hbl hbA X.2.1 hin1 dL_399 ?_
  refine c_V1 (As := [.int (xs (nI i + 1).toNatClampNeg)]) (rest := [.int r]) (st1 := [.int r, .int r]) hx hb hml hown hts hK X (k_X12_words l G 101 (by decide) e2) (show kd 83 = 12 from rfl) (by decide) lc_X12_words lv_L_55 (ci := 12) rfl rfl (by decide) rfl hl.1 (Nat.le_of_ble_eq_true rfl) dL_400 rfl ⟨by decide, by decide⟩ (fun H locs X => ?_)
  refine lv_icmp_eq (tgt := 999) hx hb dL_403 (by decide) (fun _ => ?_) (fun z => absurd rfl z)
  exact nxt hI X hl
theorem lc_case_10 {i : Nat} (C0 : LX p s m meth c G b L xs) (S10 : Sp1 Inv f_X11_say f_X12_say) (nxt : ∀ {h : Hp} {H : Heap} {locs : List Loc} {ls : Array Slot}, Inv h → XW G 101 h s 101 H locs → lv_has ls 4 [(0, .ref b), (1, .ref (bs G + 1)), (2, .ref (bs G + 83)), (3, .int (nI i))] → W p l e (rmC 1400 600000 7302250) s m #[Value.ref b] below meth c H locs 101 39951 (lw_Z below #[Value.ref b] s) (F0 m 999 ls [])) (hin1 : vp_in (nI i + 1) L) (hin2 : vp_in (nI i + 2) L) (hin3 : vp_in (nI i + 3) L) {h : Hp} {H : Heap} {locs : List Loc} {ls : Array Slot} (hI : Inv h) (X : XW G 101 h s 101 H locs) (hl : lv_has ls 4 [(0, .ref b), (1, .ref (bs G + 1)), (2, .ref (bs G + 83)), (3, .int (nI i))]) : W p l e (rmC 1400 600000 7302250) s m #[Value.ref b] below meth c H locs 101 39951 (lw_Z below #[Value.ref b] s) (F0 m 408 ls []) := by
  obtain ⟨hx, hb, hr, hml, hown, hts, hK, hX, hbl, hbA, hlocks, hL, hbs⟩ := C0
  refine lv_aload_n hx hb dL_408 rfl (lv_at hl 1 rfl) ?_
  refine lv_aload_n hx hb dL_409 rfl (lv_at hl 0 rfl) ?_
  refine lv_iload_n hx hb dL_410 rfl (lv_at hl 3 rfl) ?_
  refine lv_iconst (v := 1) hx hb dL_411 (by decide) ?_
  refine lv_iadd hx hb dL_412 ?_
  refine va_sld hx hb hX hbl hbA X.2.1 hin1 dL_413 ?_
  obtain ⟨r, h1, h2, e1, e2, hI⟩ := S10 h (xs (nI i + 1).toNatClampNeg) hI
  refine c_V1 (As := [.int (xs (nI i + 1).toNatClampNeg)]) (rest := []) (st1 := [.int r]) hx hb hml hown hts hK X (k_X11_say l G 101 (by decide) e1) (show kd 1 = 11 from rfl) (by decide) lc_X11_say lv_L_56 (ci := 11) rfl rfl (by decide) rfl hl.1 (Nat.le_of_ble_eq_true rfl) dL_414 rfl ⟨by decide, by decide⟩ (fun H locs X => ?_)
  refine lv_aload_n hx hb dL_417 rfl (lv_at hl 2 rfl) ?_
  refine lv_aload_n hx hb dL_418 rfl (lv_at hl 0 rfl) ?_
  refine lv_iload_n hx hb dL_419 rfl (lv_at hl 3 rfl) ?_
  refine lv_iconst (v := 1) hx hb dL_420 (by decide) ?_
  refine lv_iadd hx hb dL_421 ?_
  refine va_sld hx hb hX hbl hbA X.2.1 hin1 dL_422 ?_
  refine c_V1 (As := [.int (xs (nI i + 1).toNatClampNeg)]) (rest := [.int r]) (st1 := [.int r, .int r]) hx hb hml hown hts hK X (k_X12_say l G 101 (by decide) e2) (show kd 83 = 12 from rfl) (by decide) lc_X12_say lv_L_59 (ci := 12) rfl rfl (by decide) rfl hl.1 (Nat.le_of_ble_eq_true rfl) dL_423 rfl ⟨by decide, by decide⟩ (fun H locs X => ?_)
  refine lv_icmp_eq (tgt := 999) hx hb dL_426 (by decide) (fun _ => ?_) (fun z => absurd rfl z)
  exact nxt hI X hl
theorem lc_case_11 {i : Nat} (C0 : LX p s m meth c G b L xs) (S11 : Sp1 Inv f_X11_speak f_X12_speak) (nxt : ∀ {h : Hp} {H : Heap} {locs : List Loc} {ls : Array Slot}, Inv h → XW G 101 h s 101 H locs → lv_has ls 4 [(0, .ref b), (1, .ref (bs G + 1)), (2, .ref (bs G + 83)), (3, .int (nI i))] → W p l e (rmC 1400 600000 7302250) s m #[Value.ref b] below meth c H locs 101 39951 (lw_Z below #[Value.ref b] s) (F0 m 999 ls [])) (hin1 : vp_in (nI i + 1) L) (hin2 : vp_in (nI i + 2) L) (hin3 : vp_in (nI i + 3) L) {h : Hp} {H : Heap} {locs : List Loc} {ls : Array Slot} (hI : Inv h) (X : XW G 101 h s 101 H locs) (hl : lv_has ls 4 [(0, .ref b), (1, .ref (bs G + 1)), (2, .ref (bs G + 83)), (3, .int (nI i))]) : W p l e (rmC 1400 600000 7302250) s m #[Value.ref b] below meth c H locs 101 39951 (lw_Z below #[Value.ref b] s) (F0 m 431 ls []) := by
  obtain ⟨hx, hb, hr, hml, hown, hts, hK, hX, hbl, hbA, hlocks, hL, hbs⟩ := C0
  refine lv_aload_n hx hb dL_431 rfl (lv_at hl 1 rfl) ?_
  refine lv_aload_n hx hb dL_432 rfl (lv_at hl 0 rfl) ?_
  refine lv_iload_n hx hb dL_433 rfl (lv_at hl 3 rfl) ?_
  refine lv_iconst (v := 1) hx hb dL_434 (by decide) ?_
  refine lv_iadd hx hb dL_435 ?_
  refine va_sld hx hb hX hbl hbA X.2.1 hin1 dL_436 ?_
  obtain ⟨r, h1, h2, e1, e2, hI⟩ := S11 h (xs (nI i + 1).toNatClampNeg) hI
  refine c_V1 (As := [.int (xs (nI i + 1).toNatClampNeg)]) (rest := []) (st1 := [.int r]) hx hb hml hown hts hK X (k_X11_speak l G 101 (by decide) e1) (show kd 1 = 11 from rfl) (by decide) lc_X11_speak lv_L_60 (ci := 11) rfl rfl (by decide) rfl hl.1 (Nat.le_of_ble_eq_true rfl) dL_437 rfl ⟨by decide, by decide⟩ (fun H locs X => ?_)
  refine lv_aload_n hx hb dL_440 rfl (lv_at hl 2 rfl) ?_
  refine lv_aload_n hx hb dL_441 rfl (lv_at hl 0 rfl) ?_
  refine lv_iload_n hx hb dL_442 rfl (lv_at hl 3 rfl) ?_
  refine lv_iconst (v := 1) hx hb dL_443 (by decide) ?_
  refine lv_iadd hx hb dL_444 ?_
  refine va_sld hx hb hX hbl hbA X.2.1 hin1 dL_445 ?_
  refine c_V1 (As := [.int (xs (nI i + 1).toNatClampNeg)]) (rest := [.int r]) (st1 := [.int r, .int r]) hx hb hml hown hts hK X (k_X12_speak l G 101 (by decide) e2) (show kd 83 = 12 from rfl) (by decide) lc_X12_speak lv_L_63 (ci := 12) rfl rfl (by decide) rfl hl.1 (Nat.le_of_ble_eq_true rfl) dL_446 rfl ⟨by decide, by decide⟩ (fun H locs X => ?_)
  refine lv_icmp_eq (tgt := 999) hx hb dL_449 (by decide) (fun _ => ?_) (fun z => absurd rfl z)
  exact nxt hI X hl
theorem lc_case_12 {i : Nat} (C0 : LX p s m meth c G b L xs) (S12 : Sp2 Inv f_X11_lend f_X12_lend) (nxt : ∀ {h : Hp} {H : Heap} {locs : List Loc} {ls : Array Slot}, Inv h → XW G 101 h s 101 H locs → lv_has ls 4 [(0, .ref b), (1, .ref (bs G + 1)), (2, .ref (bs G + 83)), (3, .int (nI i))] → W p l e (rmC 1400 600000 7302250) s m #[Value.ref b] below meth c H locs 101 39951 (lw_Z below #[Value.ref b] s) (F0 m 999 ls [])) (hin1 : vp_in (nI i + 1) L) (hin2 : vp_in (nI i + 2) L) (hin3 : vp_in (nI i + 3) L) {h : Hp} {H : Heap} {locs : List Loc} {ls : Array Slot} (hI : Inv h) (X : XW G 101 h s 101 H locs) (hl : lv_has ls 4 [(0, .ref b), (1, .ref (bs G + 1)), (2, .ref (bs G + 83)), (3, .int (nI i))]) : W p l e (rmC 1400 600000 7302250) s m #[Value.ref b] below meth c H locs 101 39951 (lw_Z below #[Value.ref b] s) (F0 m 454 ls []) := by
  obtain ⟨hx, hb, hr, hml, hown, hts, hK, hX, hbl, hbA, hlocks, hL, hbs⟩ := C0
  refine lv_aload_n hx hb dL_454 rfl (lv_at hl 1 rfl) ?_
  refine lv_aload_n hx hb dL_455 rfl (lv_at hl 0 rfl) ?_
  refine lv_iload_n hx hb dL_456 rfl (lv_at hl 3 rfl) ?_
  refine lv_iconst (v := 1) hx hb dL_457 (by decide) ?_
  refine lv_iadd hx hb dL_458 ?_
  refine va_sld hx hb hX hbl hbA X.2.1 hin1 dL_459 ?_
  refine lv_aload_n hx hb dL_460 rfl (lv_at hl 0 rfl) ?_
  refine lv_iload_n hx hb dL_461 rfl (lv_at hl 3 rfl) ?_
  refine lv_iconst (v := 2) hx hb dL_462 (by decide) ?_
  refine lv_iadd hx hb dL_463 ?_
  refine va_sld hx hb hX hbl hbA X.2.1 hin2 dL_464 ?_
  obtain ⟨r, h1, h2, e1, e2, hI⟩ := S12 h (xs (nI i + 1).toNatClampNeg) (xs (nI i + 2).toNatClampNeg) hI
  refine c_V1 (As := [.int (xs (nI i + 1).toNatClampNeg), .int (xs (nI i + 2).toNatClampNeg)]) (rest := []) (st1 := [.int r]) hx hb hml hown hts hK X (k_X11_lend l G 101 (by decide) e1) (show kd 1 = 11 from rfl) (by decide) lc_X11_lend lv_L_64 (ci := 11) rfl rfl (by decide) rfl hl.1 (Nat.le_of_ble_eq_true rfl) dL_465 rfl ⟨by decide, by decide⟩ (fun H locs X => ?_)
  refine lv_aload_n hx hb dL_468 rfl (lv_at hl 2 rfl) ?_
  refine lv_aload_n hx hb dL_469 rfl (lv_at hl 0 rfl) ?_
  refine lv_iload_n hx hb dL_470 rfl (lv_at hl 3 rfl) ?_
  refine lv_iconst (v := 1) hx hb dL_471 (by decide) ?_
  refine lv_iadd hx hb dL_472 ?_
  refine va_sld hx hb hX hbl hbA X.2.1 hin1 dL_473 ?_
  refine lv_aload_n hx hb dL_474 rfl (lv_at hl 0 rfl) ?_
  refine lv_iload_n hx hb dL_475 rfl (lv_at hl 3 rfl) ?_
  refine lv_iconst (v := 2) hx hb dL_476 (by decide) ?_
  refine lv_iadd hx hb dL_477 ?_
  refine va_sld hx hb hX hbl hbA X.2.1 hin2 dL_478 ?_
  refine c_V1 (As := [.int (xs (nI i + 1).toNatClampNeg), .int (xs (nI i + 2).toNatClampNeg)]) (rest := [.int r]) (st1 := [.int r, .int r]) hx hb hml hown hts hK X (k_X12_lend l G 101 (by decide) e2) (show kd 83 = 12 from rfl) (by decide) lc_X12_lend lv_L_67 (ci := 12) rfl rfl (by decide) rfl hl.1 (Nat.le_of_ble_eq_true rfl) dL_479 rfl ⟨by decide, by decide⟩ (fun H locs X => ?_)
  refine lv_icmp_eq (tgt := 999) hx hb dL_482 (by decide) (fun _ => ?_) (fun z => absurd rfl z)
  exact nxt hI X hl
theorem lc_case_13 {i : Nat} (C0 : LX p s m meth c G b L xs) (S13 : Sp0 Inv f_X11_born f_X12_born) (nxt : ∀ {h : Hp} {H : Heap} {locs : List Loc} {ls : Array Slot}, Inv h → XW G 101 h s 101 H locs → lv_has ls 4 [(0, .ref b), (1, .ref (bs G + 1)), (2, .ref (bs G + 83)), (3, .int (nI i))] → W p l e (rmC 1400 600000 7302250) s m #[Value.ref b] below meth c H locs 101 39951 (lw_Z below #[Value.ref b] s) (F0 m 999 ls [])) (hin1 : vp_in (nI i + 1) L) (hin2 : vp_in (nI i + 2) L) (hin3 : vp_in (nI i + 3) L) {h : Hp} {H : Heap} {locs : List Loc} {ls : Array Slot} (hI : Inv h) (X : XW G 101 h s 101 H locs) (hl : lv_has ls 4 [(0, .ref b), (1, .ref (bs G + 1)), (2, .ref (bs G + 83)), (3, .int (nI i))]) : W p l e (rmC 1400 600000 7302250) s m #[Value.ref b] below meth c H locs 101 39951 (lw_Z below #[Value.ref b] s) (F0 m 487 ls []) := by
  obtain ⟨hx, hb, hr, hml, hown, hts, hK, hX, hbl, hbA, hlocks, hL, hbs⟩ := C0
  refine lv_aload_n hx hb dL_487 rfl (lv_at hl 1 rfl) ?_
  obtain ⟨r, h1, h2, e1, e2, hI⟩ := S13 h hI
  refine c_V1 (As := []) (rest := []) (st1 := [.int r]) hx hb hml hown hts hK X (k_X11_born l G 101 (by decide) e1) (show kd 1 = 11 from rfl) (by decide) lc_X11_born lv_L_68 (ci := 11) rfl rfl (by decide) rfl hl.1 (Nat.le_of_ble_eq_true rfl) dL_488 rfl ⟨by decide, by decide⟩ (fun H locs X => ?_)
  refine lv_aload_n hx hb dL_491 rfl (lv_at hl 2 rfl) ?_
  refine c_V1 (As := []) (rest := [.int r]) (st1 := [.int r, .int r]) hx hb hml hown hts hK X (k_X12_born l G 101 (by decide) e2) (show kd 83 = 12 from rfl) (by decide) lc_X12_born lv_L_71 (ci := 12) rfl rfl (by decide) rfl hl.1 (Nat.le_of_ble_eq_true rfl) dL_492 rfl ⟨by decide, by decide⟩ (fun H locs X => ?_)
  refine lv_icmp_eq (tgt := 999) hx hb dL_495 (by decide) (fun _ => ?_) (fun z => absurd rfl z)
  exact nxt hI X hl
theorem lc_case_14 {i : Nat} (C0 : LX p s m meth c G b L xs) (S14 : SpZ Inv f_X11_dusk f_X12_dusk) (nxt : ∀ {h : Hp} {H : Heap} {locs : List Loc} {ls : Array Slot}, Inv h → XW G 101 h s 101 H locs → lv_has ls 4 [(0, .ref b), (1, .ref (bs G + 1)), (2, .ref (bs G + 83)), (3, .int (nI i))] → W p l e (rmC 1400 600000 7302250) s m #[Value.ref b] below meth c H locs 101 39951 (lw_Z below #[Value.ref b] s) (F0 m 999 ls [])) (hin1 : vp_in (nI i + 1) L) (hin2 : vp_in (nI i + 2) L) (hin3 : vp_in (nI i + 3) L) {h : Hp} {H : Heap} {locs : List Loc} {ls : Array Slot} (hI : Inv h) (X : XW G 101 h s 101 H locs) (hl : lv_has ls 4 [(0, .ref b), (1, .ref (bs G + 1)), (2, .ref (bs G + 83)), (3, .int (nI i))]) : W p l e (rmC 1400 600000 7302250) s m #[Value.ref b] below meth c H locs 101 39951 (lw_Z below #[Value.ref b] s) (F0 m 500 ls []) := by
  obtain ⟨hx, hb, hr, hml, hown, hts, hK, hX, hbl, hbA, hlocks, hL, hbs⟩ := C0
  refine lv_aload_n hx hb dL_500 rfl (lv_at hl 1 rfl) ?_
  refine lv_aload_n hx hb dL_501 rfl (lv_at hl 0 rfl) ?_
  refine lv_iload_n hx hb dL_502 rfl (lv_at hl 3 rfl) ?_
  refine lv_iconst (v := 1) hx hb dL_503 (by decide) ?_
  refine lv_iadd hx hb dL_504 ?_
  refine va_sld hx hb hX hbl hbA X.2.1 hin1 dL_505 ?_
  refine lv_if_eq (tgt := 513) hx hb dL_506 (by decide) (fun z => ?_) (fun z => ?_)
  · refine lv_iconst (v := 0) hx hb dL_513 (by decide) ?_
    obtain ⟨r, h1, h2, e1, e2, hI⟩ := S14 h (0 : Int32) (Or.inl rfl) hI
    refine c_V1 (As := [.int (0 : Int32)]) (rest := []) (st1 := [.int r]) hx hb hml hown hts hK X (k_X11_dusk l G 101 (by decide) e1) (show kd 1 = 11 from rfl) (by decide) lc_X11_dusk lv_L_72 (ci := 11) rfl rfl (by decide) rfl hl.1 (Nat.le_of_ble_eq_true rfl) dL_514 rfl ⟨by decide, by decide⟩ (fun H locs X => ?_)
    refine lv_aload_n hx hb dL_517 rfl (lv_at hl 2 rfl) ?_
    refine lv_aload_n hx hb dL_518 rfl (lv_at hl 0 rfl) ?_
    refine lv_iload_n hx hb dL_519 rfl (lv_at hl 3 rfl) ?_
    refine lv_iconst (v := 1) hx hb dL_520 (by decide) ?_
    refine lv_iadd hx hb dL_521 ?_
    refine va_sld hx hb hX hbl hbA X.2.1 hin1 dL_522 ?_
    refine lv_if_eq (tgt := 530) hx hb dL_523 (by decide) (fun _ => ?_) (fun z2 => absurd z z2)
    refine lv_iconst (v := 0) hx hb dL_530 (by decide) ?_
    refine c_V1 (As := [.int (0 : Int32)]) (rest := [.int r]) (st1 := [.int r, .int r]) hx hb hml hown hts hK X (k_X12_dusk l G 101 (by decide) e2) (show kd 83 = 12 from rfl) (by decide) lc_X12_dusk lv_L_76 (ci := 12) rfl rfl (by decide) rfl hl.1 (Nat.le_of_ble_eq_true rfl) dL_531 rfl ⟨by decide, by decide⟩ (fun H locs X => ?_)
    refine lv_icmp_eq (tgt := 999) hx hb dL_534 (by decide) (fun _ => ?_) (fun z => absurd rfl z)
    exact nxt hI X hl
  · refine lv_iconst (v := 1) hx hb dL_509 (by decide) ?_
    refine lv_goto (tgt := 514) hx hb dL_510 (by decide) ?_
    obtain ⟨r, h1, h2, e1, e2, hI⟩ := S14 h (1 : Int32) (Or.inr rfl) hI
    refine c_V1 (As := [.int (1 : Int32)]) (rest := []) (st1 := [.int r]) hx hb hml hown hts hK X (k_X11_dusk l G 101 (by decide) e1) (show kd 1 = 11 from rfl) (by decide) lc_X11_dusk lv_L_72 (ci := 11) rfl rfl (by decide) rfl hl.1 (Nat.le_of_ble_eq_true rfl) dL_514 rfl ⟨by decide, by decide⟩ (fun H locs X => ?_)
    refine lv_aload_n hx hb dL_517 rfl (lv_at hl 2 rfl) ?_
    refine lv_aload_n hx hb dL_518 rfl (lv_at hl 0 rfl) ?_
    refine lv_iload_n hx hb dL_519 rfl (lv_at hl 3 rfl) ?_
    refine lv_iconst (v := 1) hx hb dL_520 (by decide) ?_
    refine lv_iadd hx hb dL_521 ?_
    refine va_sld hx hb hX hbl hbA X.2.1 hin1 dL_522 ?_
    refine lv_if_eq (tgt := 530) hx hb dL_523 (by decide) (fun z2 => absurd z2 z) (fun _ => ?_)
    refine lv_iconst (v := 1) hx hb dL_526 (by decide) ?_
    refine lv_goto (tgt := 531) hx hb dL_527 (by decide) ?_
    refine c_V1 (As := [.int (1 : Int32)]) (rest := [.int r]) (st1 := [.int r, .int r]) hx hb hml hown hts hK X (k_X12_dusk l G 101 (by decide) e2) (show kd 83 = 12 from rfl) (by decide) lc_X12_dusk lv_L_76 (ci := 12) rfl rfl (by decide) rfl hl.1 (Nat.le_of_ble_eq_true rfl) dL_531 rfl ⟨by decide, by decide⟩ (fun H locs X => ?_)
    refine lv_icmp_eq (tgt := 999) hx hb dL_534 (by decide) (fun _ => ?_) (fun z => absurd rfl z)
    exact nxt hI X hl
theorem lc_case_15 {i : Nat} (C0 : LX p s m meth c G b L xs) (S15 : Sp0 Inv f_X11_undo f_X12_undo) (nxt : ∀ {h : Hp} {H : Heap} {locs : List Loc} {ls : Array Slot}, Inv h → XW G 101 h s 101 H locs → lv_has ls 4 [(0, .ref b), (1, .ref (bs G + 1)), (2, .ref (bs G + 83)), (3, .int (nI i))] → W p l e (rmC 1400 600000 7302250) s m #[Value.ref b] below meth c H locs 101 39951 (lw_Z below #[Value.ref b] s) (F0 m 999 ls [])) (hin1 : vp_in (nI i + 1) L) (hin2 : vp_in (nI i + 2) L) (hin3 : vp_in (nI i + 3) L) {h : Hp} {H : Heap} {locs : List Loc} {ls : Array Slot} (hI : Inv h) (X : XW G 101 h s 101 H locs) (hl : lv_has ls 4 [(0, .ref b), (1, .ref (bs G + 1)), (2, .ref (bs G + 83)), (3, .int (nI i))]) : W p l e (rmC 1400 600000 7302250) s m #[Value.ref b] below meth c H locs 101 39951 (lw_Z below #[Value.ref b] s) (F0 m 539 ls []) := by
  obtain ⟨hx, hb, hr, hml, hown, hts, hK, hX, hbl, hbA, hlocks, hL, hbs⟩ := C0
  refine lv_aload_n hx hb dL_539 rfl (lv_at hl 1 rfl) ?_
  obtain ⟨r, h1, h2, e1, e2, hI⟩ := S15 h hI
  refine c_V1 (As := []) (rest := []) (st1 := [.int r]) hx hb hml hown hts hK X (k_X11_undo l G 101 (by decide) e1) (show kd 1 = 11 from rfl) (by decide) lc_X11_undo lv_L_77 (ci := 11) rfl rfl (by decide) rfl hl.1 (Nat.le_of_ble_eq_true rfl) dL_540 rfl ⟨by decide, by decide⟩ (fun H locs X => ?_)
  refine lv_aload_n hx hb dL_543 rfl (lv_at hl 2 rfl) ?_
  refine c_V1 (As := []) (rest := [.int r]) (st1 := [.int r, .int r]) hx hb hml hown hts hK X (k_X12_undo l G 101 (by decide) e2) (show kd 83 = 12 from rfl) (by decide) lc_X12_undo lv_L_80 (ci := 12) rfl rfl (by decide) rfl hl.1 (Nat.le_of_ble_eq_true rfl) dL_544 rfl ⟨by decide, by decide⟩ (fun H locs X => ?_)
  refine lv_icmp_eq (tgt := 999) hx hb dL_547 (by decide) (fun _ => ?_) (fun z => absurd rfl z)
  exact nxt hI X hl
theorem lc_case_16 {i : Nat} (C0 : LX p s m meth c G b L xs) (S16 : Sp3 Inv f_X11_best f_X12_best) (nxt : ∀ {h : Hp} {H : Heap} {locs : List Loc} {ls : Array Slot}, Inv h → XW G 101 h s 101 H locs → lv_has ls 4 [(0, .ref b), (1, .ref (bs G + 1)), (2, .ref (bs G + 83)), (3, .int (nI i))] → W p l e (rmC 1400 600000 7302250) s m #[Value.ref b] below meth c H locs 101 39951 (lw_Z below #[Value.ref b] s) (F0 m 999 ls [])) (hin1 : vp_in (nI i + 1) L) (hin2 : vp_in (nI i + 2) L) (hin3 : vp_in (nI i + 3) L) {h : Hp} {H : Heap} {locs : List Loc} {ls : Array Slot} (hI : Inv h) (X : XW G 101 h s 101 H locs) (hl : lv_has ls 4 [(0, .ref b), (1, .ref (bs G + 1)), (2, .ref (bs G + 83)), (3, .int (nI i))]) : W p l e (rmC 1400 600000 7302250) s m #[Value.ref b] below meth c H locs 101 39951 (lw_Z below #[Value.ref b] s) (F0 m 552 ls []) := by
  obtain ⟨hx, hb, hr, hml, hown, hts, hK, hX, hbl, hbA, hlocks, hL, hbs⟩ := C0
  refine lv_aload_n hx hb dL_552 rfl (lv_at hl 1 rfl) ?_
  refine lv_aload_n hx hb dL_553 rfl (lv_at hl 0 rfl) ?_
  refine lv_iload_n hx hb dL_554 rfl (lv_at hl 3 rfl) ?_
  refine lv_iconst (v := 1) hx hb dL_555 (by decide) ?_
  refine lv_iadd hx hb dL_556 ?_
  refine va_sld hx hb hX hbl hbA X.2.1 hin1 dL_557 ?_
  refine lv_aload_n hx hb dL_558 rfl (lv_at hl 0 rfl) ?_
  refine lv_iload_n hx hb dL_559 rfl (lv_at hl 3 rfl) ?_
  refine lv_iconst (v := 2) hx hb dL_560 (by decide) ?_
  refine lv_iadd hx hb dL_561 ?_
  refine va_sld hx hb hX hbl hbA X.2.1 hin2 dL_562 ?_
  refine lv_aload_n hx hb dL_563 rfl (lv_at hl 0 rfl) ?_
  refine lv_iload_n hx hb dL_564 rfl (lv_at hl 3 rfl) ?_
  refine lv_iconst (v := 3) hx hb dL_565 (by decide) ?_
  refine lv_iadd hx hb dL_566 ?_
  refine va_sld hx hb hX hbl hbA X.2.1 hin3 dL_567 ?_
  obtain ⟨r, h1, h2, e1, e2, hI⟩ := S16 h (xs (nI i + 1).toNatClampNeg) (xs (nI i + 2).toNatClampNeg) (xs (nI i + 3).toNatClampNeg) hI
  refine c_V1 (As := [.int (xs (nI i + 1).toNatClampNeg), .int (xs (nI i + 2).toNatClampNeg), .int (xs (nI i + 3).toNatClampNeg)]) (rest := []) (st1 := [.int r]) hx hb hml hown hts hK X (k_X11_best l G 101 (by decide) e1) (show kd 1 = 11 from rfl) (by decide) lc_X11_best lv_L_81 (ci := 11) rfl rfl (by decide) rfl hl.1 (Nat.le_of_ble_eq_true rfl) dL_568 rfl ⟨by decide, by decide⟩ (fun H locs X => ?_)
  refine lv_aload_n hx hb dL_571 rfl (lv_at hl 2 rfl) ?_
  refine lv_aload_n hx hb dL_572 rfl (lv_at hl 0 rfl) ?_
  refine lv_iload_n hx hb dL_573 rfl (lv_at hl 3 rfl) ?_
  refine lv_iconst (v := 1) hx hb dL_574 (by decide) ?_
  refine lv_iadd hx hb dL_575 ?_
  refine va_sld hx hb hX hbl hbA X.2.1 hin1 dL_576 ?_
  refine lv_aload_n hx hb dL_577 rfl (lv_at hl 0 rfl) ?_
  refine lv_iload_n hx hb dL_578 rfl (lv_at hl 3 rfl) ?_
  refine lv_iconst (v := 2) hx hb dL_579 (by decide) ?_
  refine lv_iadd hx hb dL_580 ?_
  refine va_sld hx hb hX hbl hbA X.2.1 hin2 dL_581 ?_
  refine lv_aload_n hx hb dL_582 rfl (lv_at hl 0 rfl) ?_
  refine lv_iload_n hx hb dL_583 rfl (lv_at hl 3 rfl) ?_
  refine lv_iconst (v := 3) hx hb dL_584 (by decide) ?_
  refine lv_iadd hx hb dL_585 ?_
  refine va_sld hx hb hX hbl hbA X.2.1 hin3 dL_586 ?_
  refine c_V1 (As := [.int (xs (nI i + 1).toNatClampNeg), .int (xs (nI i + 2).toNatClampNeg), .int (xs (nI i + 3).toNatClampNeg)]) (rest := [.int r]) (st1 := [.int r, .int r]) hx hb hml hown hts hK X (k_X12_best l G 101 (by decide) e2) (show kd 83 = 12 from rfl) (by decide) lc_X12_best lv_L_85 (ci := 12) rfl rfl (by decide) rfl hl.1 (Nat.le_of_ble_eq_true rfl) dL_587 rfl ⟨by decide, by decide⟩ (fun H locs X => ?_)
  refine lv_icmp_eq (tgt := 999) hx hb dL_590 (by decide) (fun _ => ?_) (fun z => absurd rfl z)
  exact nxt hI X hl
theorem lc_case_17 {i : Nat} (C0 : LX p s m meth c G b L xs) (S17 : Sp0 Inv f_X11_stuck f_X12_stuck) (nxt : ∀ {h : Hp} {H : Heap} {locs : List Loc} {ls : Array Slot}, Inv h → XW G 101 h s 101 H locs → lv_has ls 4 [(0, .ref b), (1, .ref (bs G + 1)), (2, .ref (bs G + 83)), (3, .int (nI i))] → W p l e (rmC 1400 600000 7302250) s m #[Value.ref b] below meth c H locs 101 39951 (lw_Z below #[Value.ref b] s) (F0 m 999 ls [])) (hin1 : vp_in (nI i + 1) L) (hin2 : vp_in (nI i + 2) L) (hin3 : vp_in (nI i + 3) L) {h : Hp} {H : Heap} {locs : List Loc} {ls : Array Slot} (hI : Inv h) (X : XW G 101 h s 101 H locs) (hl : lv_has ls 4 [(0, .ref b), (1, .ref (bs G + 1)), (2, .ref (bs G + 83)), (3, .int (nI i))]) : W p l e (rmC 1400 600000 7302250) s m #[Value.ref b] below meth c H locs 101 39951 (lw_Z below #[Value.ref b] s) (F0 m 595 ls []) := by
  obtain ⟨hx, hb, hr, hml, hown, hts, hK, hX, hbl, hbA, hlocks, hL, hbs⟩ := C0
  refine lv_aload_n hx hb dL_595 rfl (lv_at hl 1 rfl) ?_
  obtain ⟨r, h1, h2, e1, e2, hI⟩ := S17 h hI
  refine c_V1 (As := []) (rest := []) (st1 := [.int r]) hx hb hml hown hts hK X (k_X11_stuck l G 101 (by decide) e1) (show kd 1 = 11 from rfl) (by decide) lc_X11_stuck lv_L_86 (ci := 11) rfl rfl (by decide) rfl hl.1 (Nat.le_of_ble_eq_true rfl) dL_596 rfl ⟨by decide, by decide⟩ (fun H locs X => ?_)
  refine lv_aload_n hx hb dL_599 rfl (lv_at hl 2 rfl) ?_
  refine c_V1 (As := []) (rest := [.int r]) (st1 := [.int r, .int r]) hx hb hml hown hts hK X (k_X12_stuck l G 101 (by decide) e2) (show kd 83 = 12 from rfl) (by decide) lc_X12_stuck lv_L_89 (ci := 12) rfl rfl (by decide) rfl hl.1 (Nat.le_of_ble_eq_true rfl) dL_600 rfl ⟨by decide, by decide⟩ (fun H locs X => ?_)
  refine lv_icmp_eq (tgt := 999) hx hb dL_603 (by decide) (fun _ => ?_) (fun z => absurd rfl z)
  exact nxt hI X hl
theorem lc_case_18 {i : Nat} (C0 : LX p s m meth c G b L xs) (S18 : Sp1 Inv f_X11_freed f_X12_freed) (nxt : ∀ {h : Hp} {H : Heap} {locs : List Loc} {ls : Array Slot}, Inv h → XW G 101 h s 101 H locs → lv_has ls 4 [(0, .ref b), (1, .ref (bs G + 1)), (2, .ref (bs G + 83)), (3, .int (nI i))] → W p l e (rmC 1400 600000 7302250) s m #[Value.ref b] below meth c H locs 101 39951 (lw_Z below #[Value.ref b] s) (F0 m 999 ls [])) (hin1 : vp_in (nI i + 1) L) (hin2 : vp_in (nI i + 2) L) (hin3 : vp_in (nI i + 3) L) {h : Hp} {H : Heap} {locs : List Loc} {ls : Array Slot} (hI : Inv h) (X : XW G 101 h s 101 H locs) (hl : lv_has ls 4 [(0, .ref b), (1, .ref (bs G + 1)), (2, .ref (bs G + 83)), (3, .int (nI i))]) : W p l e (rmC 1400 600000 7302250) s m #[Value.ref b] below meth c H locs 101 39951 (lw_Z below #[Value.ref b] s) (F0 m 608 ls []) := by
  obtain ⟨hx, hb, hr, hml, hown, hts, hK, hX, hbl, hbA, hlocks, hL, hbs⟩ := C0
  refine lv_aload_n hx hb dL_608 rfl (lv_at hl 1 rfl) ?_
  refine lv_aload_n hx hb dL_609 rfl (lv_at hl 0 rfl) ?_
  refine lv_iload_n hx hb dL_610 rfl (lv_at hl 3 rfl) ?_
  refine lv_iconst (v := 1) hx hb dL_611 (by decide) ?_
  refine lv_iadd hx hb dL_612 ?_
  refine va_sld hx hb hX hbl hbA X.2.1 hin1 dL_613 ?_
  obtain ⟨r, h1, h2, e1, e2, hI⟩ := S18 h (xs (nI i + 1).toNatClampNeg) hI
  refine c_V1 (As := [.int (xs (nI i + 1).toNatClampNeg)]) (rest := []) (st1 := [.int r]) hx hb hml hown hts hK X (k_X11_freed l G 101 (by decide) e1) (show kd 1 = 11 from rfl) (by decide) lc_X11_freed lv_L_90 (ci := 11) rfl rfl (by decide) rfl hl.1 (Nat.le_of_ble_eq_true rfl) dL_614 rfl ⟨by decide, by decide⟩ (fun H locs X => ?_)
  refine lv_aload_n hx hb dL_617 rfl (lv_at hl 2 rfl) ?_
  refine lv_aload_n hx hb dL_618 rfl (lv_at hl 0 rfl) ?_
  refine lv_iload_n hx hb dL_619 rfl (lv_at hl 3 rfl) ?_
  refine lv_iconst (v := 1) hx hb dL_620 (by decide) ?_
  refine lv_iadd hx hb dL_621 ?_
  refine va_sld hx hb hX hbl hbA X.2.1 hin1 dL_622 ?_
  refine c_V1 (As := [.int (xs (nI i + 1).toNatClampNeg)]) (rest := [.int r]) (st1 := [.int r, .int r]) hx hb hml hown hts hK X (k_X12_freed l G 101 (by decide) e2) (show kd 83 = 12 from rfl) (by decide) lc_X12_freed lv_L_93 (ci := 12) rfl rfl (by decide) rfl hl.1 (Nat.le_of_ble_eq_true rfl) dL_623 rfl ⟨by decide, by decide⟩ (fun H locs X => ?_)
  refine lv_icmp_eq (tgt := 999) hx hb dL_626 (by decide) (fun _ => ?_) (fun z => absurd rfl z)
  exact nxt hI X hl
theorem lc_case_19 {i : Nat} (C0 : LX p s m meth c G b L xs) (S19 : Sp1 Inv f_X11_order f_X12_order) (nxt : ∀ {h : Hp} {H : Heap} {locs : List Loc} {ls : Array Slot}, Inv h → XW G 101 h s 101 H locs → lv_has ls 4 [(0, .ref b), (1, .ref (bs G + 1)), (2, .ref (bs G + 83)), (3, .int (nI i))] → W p l e (rmC 1400 600000 7302250) s m #[Value.ref b] below meth c H locs 101 39951 (lw_Z below #[Value.ref b] s) (F0 m 999 ls [])) (hin1 : vp_in (nI i + 1) L) (hin2 : vp_in (nI i + 2) L) (hin3 : vp_in (nI i + 3) L) {h : Hp} {H : Heap} {locs : List Loc} {ls : Array Slot} (hI : Inv h) (X : XW G 101 h s 101 H locs) (hl : lv_has ls 4 [(0, .ref b), (1, .ref (bs G + 1)), (2, .ref (bs G + 83)), (3, .int (nI i))]) : W p l e (rmC 1400 600000 7302250) s m #[Value.ref b] below meth c H locs 101 39951 (lw_Z below #[Value.ref b] s) (F0 m 631 ls []) := by
  obtain ⟨hx, hb, hr, hml, hown, hts, hK, hX, hbl, hbA, hlocks, hL, hbs⟩ := C0
  refine lv_aload_n hx hb dL_631 rfl (lv_at hl 1 rfl) ?_
  refine lv_aload_n hx hb dL_632 rfl (lv_at hl 0 rfl) ?_
  refine lv_iload_n hx hb dL_633 rfl (lv_at hl 3 rfl) ?_
  refine lv_iconst (v := 1) hx hb dL_634 (by decide) ?_
  refine lv_iadd hx hb dL_635 ?_
  refine va_sld hx hb hX hbl hbA X.2.1 hin1 dL_636 ?_
  obtain ⟨r, h1, h2, e1, e2, hI⟩ := S19 h (xs (nI i + 1).toNatClampNeg) hI
  refine c_V1 (As := [.int (xs (nI i + 1).toNatClampNeg)]) (rest := []) (st1 := [.int r]) hx hb hml hown hts hK X (k_X11_order l G 101 (by decide) e1) (show kd 1 = 11 from rfl) (by decide) lc_X11_order lv_L_94 (ci := 11) rfl rfl (by decide) rfl hl.1 (Nat.le_of_ble_eq_true rfl) dL_637 rfl ⟨by decide, by decide⟩ (fun H locs X => ?_)
  refine lv_aload_n hx hb dL_640 rfl (lv_at hl 2 rfl) ?_
  refine lv_aload_n hx hb dL_641 rfl (lv_at hl 0 rfl) ?_
  refine lv_iload_n hx hb dL_642 rfl (lv_at hl 3 rfl) ?_
  refine lv_iconst (v := 1) hx hb dL_643 (by decide) ?_
  refine lv_iadd hx hb dL_644 ?_
  refine va_sld hx hb hX hbl hbA X.2.1 hin1 dL_645 ?_
  refine c_V1 (As := [.int (xs (nI i + 1).toNatClampNeg)]) (rest := [.int r]) (st1 := [.int r, .int r]) hx hb hml hown hts hK X (k_X12_order l G 101 (by decide) e2) (show kd 83 = 12 from rfl) (by decide) lc_X12_order lv_L_97 (ci := 12) rfl rfl (by decide) rfl hl.1 (Nat.le_of_ble_eq_true rfl) dL_646 rfl ⟨by decide, by decide⟩ (fun H locs X => ?_)
  refine lv_icmp_eq (tgt := 999) hx hb dL_649 (by decide) (fun _ => ?_) (fun z => absurd rfl z)
  exact nxt hI X hl
theorem lc_case_20 {i : Nat} (C0 : LX p s m meth c G b L xs) (S20 : Sp2 Inv f_X11_deny f_X12_deny) (nxt : ∀ {h : Hp} {H : Heap} {locs : List Loc} {ls : Array Slot}, Inv h → XW G 101 h s 101 H locs → lv_has ls 4 [(0, .ref b), (1, .ref (bs G + 1)), (2, .ref (bs G + 83)), (3, .int (nI i))] → W p l e (rmC 1400 600000 7302250) s m #[Value.ref b] below meth c H locs 101 39951 (lw_Z below #[Value.ref b] s) (F0 m 999 ls [])) (hin1 : vp_in (nI i + 1) L) (hin2 : vp_in (nI i + 2) L) (hin3 : vp_in (nI i + 3) L) {h : Hp} {H : Heap} {locs : List Loc} {ls : Array Slot} (hI : Inv h) (X : XW G 101 h s 101 H locs) (hl : lv_has ls 4 [(0, .ref b), (1, .ref (bs G + 1)), (2, .ref (bs G + 83)), (3, .int (nI i))]) : W p l e (rmC 1400 600000 7302250) s m #[Value.ref b] below meth c H locs 101 39951 (lw_Z below #[Value.ref b] s) (F0 m 654 ls []) := by
  obtain ⟨hx, hb, hr, hml, hown, hts, hK, hX, hbl, hbA, hlocks, hL, hbs⟩ := C0
  refine lv_aload_n hx hb dL_654 rfl (lv_at hl 1 rfl) ?_
  refine lv_aload_n hx hb dL_655 rfl (lv_at hl 0 rfl) ?_
  refine lv_iload_n hx hb dL_656 rfl (lv_at hl 3 rfl) ?_
  refine lv_iconst (v := 1) hx hb dL_657 (by decide) ?_
  refine lv_iadd hx hb dL_658 ?_
  refine va_sld hx hb hX hbl hbA X.2.1 hin1 dL_659 ?_
  refine lv_aload_n hx hb dL_660 rfl (lv_at hl 0 rfl) ?_
  refine lv_iload_n hx hb dL_661 rfl (lv_at hl 3 rfl) ?_
  refine lv_iconst (v := 2) hx hb dL_662 (by decide) ?_
  refine lv_iadd hx hb dL_663 ?_
  refine va_sld hx hb hX hbl hbA X.2.1 hin2 dL_664 ?_
  obtain ⟨r, h1, h2, e1, e2, hI⟩ := S20 h (xs (nI i + 1).toNatClampNeg) (xs (nI i + 2).toNatClampNeg) hI
  refine c_V1 (As := [.int (xs (nI i + 1).toNatClampNeg), .int (xs (nI i + 2).toNatClampNeg)]) (rest := []) (st1 := [.int r]) hx hb hml hown hts hK X (k_X11_deny l G 101 (by decide) e1) (show kd 1 = 11 from rfl) (by decide) lc_X11_deny lv_L_98 (ci := 11) rfl rfl (by decide) rfl hl.1 (Nat.le_of_ble_eq_true rfl) dL_665 rfl ⟨by decide, by decide⟩ (fun H locs X => ?_)
  refine lv_aload_n hx hb dL_668 rfl (lv_at hl 2 rfl) ?_
  refine lv_aload_n hx hb dL_669 rfl (lv_at hl 0 rfl) ?_
  refine lv_iload_n hx hb dL_670 rfl (lv_at hl 3 rfl) ?_
  refine lv_iconst (v := 1) hx hb dL_671 (by decide) ?_
  refine lv_iadd hx hb dL_672 ?_
  refine va_sld hx hb hX hbl hbA X.2.1 hin1 dL_673 ?_
  refine lv_aload_n hx hb dL_674 rfl (lv_at hl 0 rfl) ?_
  refine lv_iload_n hx hb dL_675 rfl (lv_at hl 3 rfl) ?_
  refine lv_iconst (v := 2) hx hb dL_676 (by decide) ?_
  refine lv_iadd hx hb dL_677 ?_
  refine va_sld hx hb hX hbl hbA X.2.1 hin2 dL_678 ?_
  refine c_V1 (As := [.int (xs (nI i + 1).toNatClampNeg), .int (xs (nI i + 2).toNatClampNeg)]) (rest := [.int r]) (st1 := [.int r, .int r]) hx hb hml hown hts hK X (k_X12_deny l G 101 (by decide) e2) (show kd 83 = 12 from rfl) (by decide) lc_X12_deny lv_L_101 (ci := 12) rfl rfl (by decide) rfl hl.1 (Nat.le_of_ble_eq_true rfl) dL_679 rfl ⟨by decide, by decide⟩ (fun H locs X => ?_)
  refine lv_icmp_eq (tgt := 999) hx hb dL_682 (by decide) (fun _ => ?_) (fun z => absurd rfl z)
  exact nxt hI X hl
theorem lc_case_21 {i : Nat} (C0 : LX p s m meth c G b L xs) (S21 : Sp0 Inv f_X11_guard f_X12_guard) (nxt : ∀ {h : Hp} {H : Heap} {locs : List Loc} {ls : Array Slot}, Inv h → XW G 101 h s 101 H locs → lv_has ls 4 [(0, .ref b), (1, .ref (bs G + 1)), (2, .ref (bs G + 83)), (3, .int (nI i))] → W p l e (rmC 1400 600000 7302250) s m #[Value.ref b] below meth c H locs 101 39951 (lw_Z below #[Value.ref b] s) (F0 m 999 ls [])) (hin1 : vp_in (nI i + 1) L) (hin2 : vp_in (nI i + 2) L) (hin3 : vp_in (nI i + 3) L) {h : Hp} {H : Heap} {locs : List Loc} {ls : Array Slot} (hI : Inv h) (X : XW G 101 h s 101 H locs) (hl : lv_has ls 4 [(0, .ref b), (1, .ref (bs G + 1)), (2, .ref (bs G + 83)), (3, .int (nI i))]) : W p l e (rmC 1400 600000 7302250) s m #[Value.ref b] below meth c H locs 101 39951 (lw_Z below #[Value.ref b] s) (F0 m 687 ls []) := by
  obtain ⟨hx, hb, hr, hml, hown, hts, hK, hX, hbl, hbA, hlocks, hL, hbs⟩ := C0
  refine lv_aload_n hx hb dL_687 rfl (lv_at hl 1 rfl) ?_
  obtain ⟨r, h1, h2, e1, e2, hI⟩ := S21 h hI
  refine c_V1 (As := []) (rest := []) (st1 := [.int r]) hx hb hml hown hts hK X (k_X11_guard l G 101 (by decide) e1) (show kd 1 = 11 from rfl) (by decide) lc_X11_guard lv_L_102 (ci := 11) rfl rfl (by decide) rfl hl.1 (Nat.le_of_ble_eq_true rfl) dL_688 rfl ⟨by decide, by decide⟩ (fun H locs X => ?_)
  refine lv_aload_n hx hb dL_691 rfl (lv_at hl 2 rfl) ?_
  refine c_V1 (As := []) (rest := [.int r]) (st1 := [.int r, .int r]) hx hb hml hown hts hK X (k_X12_guard l G 101 (by decide) e2) (show kd 83 = 12 from rfl) (by decide) lc_X12_guard lv_L_105 (ci := 12) rfl rfl (by decide) rfl hl.1 (Nat.le_of_ble_eq_true rfl) dL_692 rfl ⟨by decide, by decide⟩ (fun H locs X => ?_)
  refine lv_icmp_eq (tgt := 999) hx hb dL_695 (by decide) (fun _ => ?_) (fun z => absurd rfl z)
  exact nxt hI X hl
theorem lc_case_22 {i : Nat} (C0 : LX p s m meth c G b L xs) (S22 : Sp1 Inv f_X11_value f_X12_value) (nxt : ∀ {h : Hp} {H : Heap} {locs : List Loc} {ls : Array Slot}, Inv h → XW G 101 h s 101 H locs → lv_has ls 4 [(0, .ref b), (1, .ref (bs G + 1)), (2, .ref (bs G + 83)), (3, .int (nI i))] → W p l e (rmC 1400 600000 7302250) s m #[Value.ref b] below meth c H locs 101 39951 (lw_Z below #[Value.ref b] s) (F0 m 999 ls [])) (hin1 : vp_in (nI i + 1) L) (hin2 : vp_in (nI i + 2) L) (hin3 : vp_in (nI i + 3) L) {h : Hp} {H : Heap} {locs : List Loc} {ls : Array Slot} (hI : Inv h) (X : XW G 101 h s 101 H locs) (hl : lv_has ls 4 [(0, .ref b), (1, .ref (bs G + 1)), (2, .ref (bs G + 83)), (3, .int (nI i))]) : W p l e (rmC 1400 600000 7302250) s m #[Value.ref b] below meth c H locs 101 39951 (lw_Z below #[Value.ref b] s) (F0 m 700 ls []) := by
  obtain ⟨hx, hb, hr, hml, hown, hts, hK, hX, hbl, hbA, hlocks, hL, hbs⟩ := C0
  refine lv_aload_n hx hb dL_700 rfl (lv_at hl 1 rfl) ?_
  refine lv_aload_n hx hb dL_701 rfl (lv_at hl 0 rfl) ?_
  refine lv_iload_n hx hb dL_702 rfl (lv_at hl 3 rfl) ?_
  refine lv_iconst (v := 1) hx hb dL_703 (by decide) ?_
  refine lv_iadd hx hb dL_704 ?_
  refine va_sld hx hb hX hbl hbA X.2.1 hin1 dL_705 ?_
  obtain ⟨r, h1, h2, e1, e2, hI⟩ := S22 h (xs (nI i + 1).toNatClampNeg) hI
  refine c_V1 (As := [.int (xs (nI i + 1).toNatClampNeg)]) (rest := []) (st1 := [.int r]) hx hb hml hown hts hK X (k_X11_value l G 101 (by decide) e1) (show kd 1 = 11 from rfl) (by decide) lc_X11_value lv_L_106 (ci := 11) rfl rfl (by decide) rfl hl.1 (Nat.le_of_ble_eq_true rfl) dL_706 rfl ⟨by decide, by decide⟩ (fun H locs X => ?_)
  refine lv_aload_n hx hb dL_709 rfl (lv_at hl 2 rfl) ?_
  refine lv_aload_n hx hb dL_710 rfl (lv_at hl 0 rfl) ?_
  refine lv_iload_n hx hb dL_711 rfl (lv_at hl 3 rfl) ?_
  refine lv_iconst (v := 1) hx hb dL_712 (by decide) ?_
  refine lv_iadd hx hb dL_713 ?_
  refine va_sld hx hb hX hbl hbA X.2.1 hin1 dL_714 ?_
  refine c_V1 (As := [.int (xs (nI i + 1).toNatClampNeg)]) (rest := [.int r]) (st1 := [.int r, .int r]) hx hb hml hown hts hK X (k_X12_value l G 101 (by decide) e2) (show kd 83 = 12 from rfl) (by decide) lc_X12_value lv_L_109 (ci := 12) rfl rfl (by decide) rfl hl.1 (Nat.le_of_ble_eq_true rfl) dL_715 rfl ⟨by decide, by decide⟩ (fun H locs X => ?_)
  refine lv_icmp_eq (tgt := 999) hx hb dL_718 (by decide) (fun _ => ?_) (fun z => absurd rfl z)
  exact nxt hI X hl
theorem lc_case_23 {i : Nat} (C0 : LX p s m meth c G b L xs) (S23 : Sp0 Inv f_X11_changed f_X12_changed) (nxt : ∀ {h : Hp} {H : Heap} {locs : List Loc} {ls : Array Slot}, Inv h → XW G 101 h s 101 H locs → lv_has ls 4 [(0, .ref b), (1, .ref (bs G + 1)), (2, .ref (bs G + 83)), (3, .int (nI i))] → W p l e (rmC 1400 600000 7302250) s m #[Value.ref b] below meth c H locs 101 39951 (lw_Z below #[Value.ref b] s) (F0 m 999 ls [])) (hin1 : vp_in (nI i + 1) L) (hin2 : vp_in (nI i + 2) L) (hin3 : vp_in (nI i + 3) L) {h : Hp} {H : Heap} {locs : List Loc} {ls : Array Slot} (hI : Inv h) (X : XW G 101 h s 101 H locs) (hl : lv_has ls 4 [(0, .ref b), (1, .ref (bs G + 1)), (2, .ref (bs G + 83)), (3, .int (nI i))]) : W p l e (rmC 1400 600000 7302250) s m #[Value.ref b] below meth c H locs 101 39951 (lw_Z below #[Value.ref b] s) (F0 m 723 ls []) := by
  obtain ⟨hx, hb, hr, hml, hown, hts, hK, hX, hbl, hbA, hlocks, hL, hbs⟩ := C0
  refine lv_aload_n hx hb dL_723 rfl (lv_at hl 1 rfl) ?_
  obtain ⟨r, h1, h2, e1, e2, hI⟩ := S23 h hI
  refine c_V1 (As := []) (rest := []) (st1 := [.int r]) hx hb hml hown hts hK X (k_X11_changed l G 101 (by decide) e1) (show kd 1 = 11 from rfl) (by decide) lc_X11_changed lv_L_110 (ci := 11) rfl rfl (by decide) rfl hl.1 (Nat.le_of_ble_eq_true rfl) dL_724 rfl ⟨by decide, by decide⟩ (fun H locs X => ?_)
  refine lv_aload_n hx hb dL_727 rfl (lv_at hl 2 rfl) ?_
  refine c_V1 (As := []) (rest := [.int r]) (st1 := [.int r, .int r]) hx hb hml hown hts hK X (k_X12_changed l G 101 (by decide) e2) (show kd 83 = 12 from rfl) (by decide) lc_X12_changed lv_L_113 (ci := 12) rfl rfl (by decide) rfl hl.1 (Nat.le_of_ble_eq_true rfl) dL_728 rfl ⟨by decide, by decide⟩ (fun H locs X => ?_)
  refine lv_icmp_eq (tgt := 999) hx hb dL_731 (by decide) (fun _ => ?_) (fun z => absurd rfl z)
  exact nxt hI X hl
theorem lc_case_24 {i : Nat} (C0 : LX p s m meth c G b L xs) (S24 : Sp3 Inv f_X11_ways f_X12_ways) (nxt : ∀ {h : Hp} {H : Heap} {locs : List Loc} {ls : Array Slot}, Inv h → XW G 101 h s 101 H locs → lv_has ls 4 [(0, .ref b), (1, .ref (bs G + 1)), (2, .ref (bs G + 83)), (3, .int (nI i))] → W p l e (rmC 1400 600000 7302250) s m #[Value.ref b] below meth c H locs 101 39951 (lw_Z below #[Value.ref b] s) (F0 m 999 ls [])) (hin1 : vp_in (nI i + 1) L) (hin2 : vp_in (nI i + 2) L) (hin3 : vp_in (nI i + 3) L) {h : Hp} {H : Heap} {locs : List Loc} {ls : Array Slot} (hI : Inv h) (X : XW G 101 h s 101 H locs) (hl : lv_has ls 4 [(0, .ref b), (1, .ref (bs G + 1)), (2, .ref (bs G + 83)), (3, .int (nI i))]) : W p l e (rmC 1400 600000 7302250) s m #[Value.ref b] below meth c H locs 101 39951 (lw_Z below #[Value.ref b] s) (F0 m 736 ls []) := by
  obtain ⟨hx, hb, hr, hml, hown, hts, hK, hX, hbl, hbA, hlocks, hL, hbs⟩ := C0
  refine lv_aload_n hx hb dL_736 rfl (lv_at hl 1 rfl) ?_
  refine lv_aload_n hx hb dL_737 rfl (lv_at hl 0 rfl) ?_
  refine lv_iload_n hx hb dL_738 rfl (lv_at hl 3 rfl) ?_
  refine lv_iconst (v := 1) hx hb dL_739 (by decide) ?_
  refine lv_iadd hx hb dL_740 ?_
  refine va_sld hx hb hX hbl hbA X.2.1 hin1 dL_741 ?_
  refine lv_aload_n hx hb dL_742 rfl (lv_at hl 0 rfl) ?_
  refine lv_iload_n hx hb dL_743 rfl (lv_at hl 3 rfl) ?_
  refine lv_iconst (v := 2) hx hb dL_744 (by decide) ?_
  refine lv_iadd hx hb dL_745 ?_
  refine va_sld hx hb hX hbl hbA X.2.1 hin2 dL_746 ?_
  refine lv_aload_n hx hb dL_747 rfl (lv_at hl 0 rfl) ?_
  refine lv_iload_n hx hb dL_748 rfl (lv_at hl 3 rfl) ?_
  refine lv_iconst (v := 3) hx hb dL_749 (by decide) ?_
  refine lv_iadd hx hb dL_750 ?_
  refine va_sld hx hb hX hbl hbA X.2.1 hin3 dL_751 ?_
  obtain ⟨r, h1, h2, e1, e2, hI⟩ := S24 h (xs (nI i + 1).toNatClampNeg) (xs (nI i + 2).toNatClampNeg) (xs (nI i + 3).toNatClampNeg) hI
  refine c_V1 (As := [.int (xs (nI i + 1).toNatClampNeg), .int (xs (nI i + 2).toNatClampNeg), .int (xs (nI i + 3).toNatClampNeg)]) (rest := []) (st1 := [.int r]) hx hb hml hown hts hK X (k_X11_ways l G 101 (by decide) e1) (show kd 1 = 11 from rfl) (by decide) lc_X11_ways lv_L_114 (ci := 11) rfl rfl (by decide) rfl hl.1 (Nat.le_of_ble_eq_true rfl) dL_752 rfl ⟨by decide, by decide⟩ (fun H locs X => ?_)
  refine lv_aload_n hx hb dL_755 rfl (lv_at hl 2 rfl) ?_
  refine lv_aload_n hx hb dL_756 rfl (lv_at hl 0 rfl) ?_
  refine lv_iload_n hx hb dL_757 rfl (lv_at hl 3 rfl) ?_
  refine lv_iconst (v := 1) hx hb dL_758 (by decide) ?_
  refine lv_iadd hx hb dL_759 ?_
  refine va_sld hx hb hX hbl hbA X.2.1 hin1 dL_760 ?_
  refine lv_aload_n hx hb dL_761 rfl (lv_at hl 0 rfl) ?_
  refine lv_iload_n hx hb dL_762 rfl (lv_at hl 3 rfl) ?_
  refine lv_iconst (v := 2) hx hb dL_763 (by decide) ?_
  refine lv_iadd hx hb dL_764 ?_
  refine va_sld hx hb hX hbl hbA X.2.1 hin2 dL_765 ?_
  refine lv_aload_n hx hb dL_766 rfl (lv_at hl 0 rfl) ?_
  refine lv_iload_n hx hb dL_767 rfl (lv_at hl 3 rfl) ?_
  refine lv_iconst (v := 3) hx hb dL_768 (by decide) ?_
  refine lv_iadd hx hb dL_769 ?_
  refine va_sld hx hb hX hbl hbA X.2.1 hin3 dL_770 ?_
  refine c_V1 (As := [.int (xs (nI i + 1).toNatClampNeg), .int (xs (nI i + 2).toNatClampNeg), .int (xs (nI i + 3).toNatClampNeg)]) (rest := [.int r]) (st1 := [.int r, .int r]) hx hb hml hown hts hK X (k_X12_ways l G 101 (by decide) e2) (show kd 83 = 12 from rfl) (by decide) lc_X12_ways lv_L_117 (ci := 12) rfl rfl (by decide) rfl hl.1 (Nat.le_of_ble_eq_true rfl) dL_771 rfl ⟨by decide, by decide⟩ (fun H locs X => ?_)
  refine lv_icmp_eq (tgt := 999) hx hb dL_774 (by decide) (fun _ => ?_) (fun z => absurd rfl z)
  exact nxt hI X hl
theorem lc_case_25 {i : Nat} (C0 : LX p s m meth c G b L xs) (S25 : Sp1 Inv f_X11_lowest f_X12_lowest) (nxt : ∀ {h : Hp} {H : Heap} {locs : List Loc} {ls : Array Slot}, Inv h → XW G 101 h s 101 H locs → lv_has ls 4 [(0, .ref b), (1, .ref (bs G + 1)), (2, .ref (bs G + 83)), (3, .int (nI i))] → W p l e (rmC 1400 600000 7302250) s m #[Value.ref b] below meth c H locs 101 39951 (lw_Z below #[Value.ref b] s) (F0 m 999 ls [])) (hin1 : vp_in (nI i + 1) L) (hin2 : vp_in (nI i + 2) L) (hin3 : vp_in (nI i + 3) L) {h : Hp} {H : Heap} {locs : List Loc} {ls : Array Slot} (hI : Inv h) (X : XW G 101 h s 101 H locs) (hl : lv_has ls 4 [(0, .ref b), (1, .ref (bs G + 1)), (2, .ref (bs G + 83)), (3, .int (nI i))]) : W p l e (rmC 1400 600000 7302250) s m #[Value.ref b] below meth c H locs 101 39951 (lw_Z below #[Value.ref b] s) (F0 m 779 ls []) := by
  obtain ⟨hx, hb, hr, hml, hown, hts, hK, hX, hbl, hbA, hlocks, hL, hbs⟩ := C0
  refine lv_aload_n hx hb dL_779 rfl (lv_at hl 1 rfl) ?_
  refine lv_aload_n hx hb dL_780 rfl (lv_at hl 0 rfl) ?_
  refine lv_iload_n hx hb dL_781 rfl (lv_at hl 3 rfl) ?_
  refine lv_iconst (v := 1) hx hb dL_782 (by decide) ?_
  refine lv_iadd hx hb dL_783 ?_
  refine va_sld hx hb hX hbl hbA X.2.1 hin1 dL_784 ?_
  obtain ⟨r, h1, h2, e1, e2, hI⟩ := S25 h (xs (nI i + 1).toNatClampNeg) hI
  refine c_V1 (As := [.int (xs (nI i + 1).toNatClampNeg)]) (rest := []) (st1 := [.int r]) hx hb hml hown hts hK X (k_X11_lowest l G 101 (by decide) e1) (show kd 1 = 11 from rfl) (by decide) lc_X11_lowest lv_L_118 (ci := 11) rfl rfl (by decide) rfl hl.1 (Nat.le_of_ble_eq_true rfl) dL_785 rfl ⟨by decide, by decide⟩ (fun H locs X => ?_)
  refine lv_aload_n hx hb dL_788 rfl (lv_at hl 2 rfl) ?_
  refine lv_aload_n hx hb dL_789 rfl (lv_at hl 0 rfl) ?_
  refine lv_iload_n hx hb dL_790 rfl (lv_at hl 3 rfl) ?_
  refine lv_iconst (v := 1) hx hb dL_791 (by decide) ?_
  refine lv_iadd hx hb dL_792 ?_
  refine va_sld hx hb hX hbl hbA X.2.1 hin1 dL_793 ?_
  refine c_V1 (As := [.int (xs (nI i + 1).toNatClampNeg)]) (rest := [.int r]) (st1 := [.int r, .int r]) hx hb hml hown hts hK X (k_X12_lowest l G 101 (by decide) e2) (show kd 83 = 12 from rfl) (by decide) lc_X12_lowest lv_L_121 (ci := 12) rfl rfl (by decide) rfl hl.1 (Nat.le_of_ble_eq_true rfl) dL_794 rfl ⟨by decide, by decide⟩ (fun H locs X => ?_)
  refine lv_icmp_eq (tgt := 999) hx hb dL_797 (by decide) (fun _ => ?_) (fun z => absurd rfl z)
  exact nxt hI X hl
theorem lc_case_26 {i : Nat} (C0 : LX p s m meth c G b L xs) (S26 : Sp1 Inv f_X11_enter f_X12_enter) (nxt : ∀ {h : Hp} {H : Heap} {locs : List Loc} {ls : Array Slot}, Inv h → XW G 101 h s 101 H locs → lv_has ls 4 [(0, .ref b), (1, .ref (bs G + 1)), (2, .ref (bs G + 83)), (3, .int (nI i))] → W p l e (rmC 1400 600000 7302250) s m #[Value.ref b] below meth c H locs 101 39951 (lw_Z below #[Value.ref b] s) (F0 m 999 ls [])) (hin1 : vp_in (nI i + 1) L) (hin2 : vp_in (nI i + 2) L) (hin3 : vp_in (nI i + 3) L) {h : Hp} {H : Heap} {locs : List Loc} {ls : Array Slot} (hI : Inv h) (X : XW G 101 h s 101 H locs) (hl : lv_has ls 4 [(0, .ref b), (1, .ref (bs G + 1)), (2, .ref (bs G + 83)), (3, .int (nI i))]) : W p l e (rmC 1400 600000 7302250) s m #[Value.ref b] below meth c H locs 101 39951 (lw_Z below #[Value.ref b] s) (F0 m 802 ls []) := by
  obtain ⟨hx, hb, hr, hml, hown, hts, hK, hX, hbl, hbA, hlocks, hL, hbs⟩ := C0
  refine lv_aload_n hx hb dL_802 rfl (lv_at hl 1 rfl) ?_
  refine lv_aload_n hx hb dL_803 rfl (lv_at hl 0 rfl) ?_
  refine lv_iload_n hx hb dL_804 rfl (lv_at hl 3 rfl) ?_
  refine lv_iconst (v := 1) hx hb dL_805 (by decide) ?_
  refine lv_iadd hx hb dL_806 ?_
  refine va_sld hx hb hX hbl hbA X.2.1 hin1 dL_807 ?_
  obtain ⟨r, h1, h2, e1, e2, hI⟩ := S26 h (xs (nI i + 1).toNatClampNeg) hI
  refine c_V1 (As := [.int (xs (nI i + 1).toNatClampNeg)]) (rest := []) (st1 := [.int r]) hx hb hml hown hts hK X (k_X11_enter l G 101 (by decide) e1) (show kd 1 = 11 from rfl) (by decide) lc_X11_enter lv_L_122 (ci := 11) rfl rfl (by decide) rfl hl.1 (Nat.le_of_ble_eq_true rfl) dL_808 rfl ⟨by decide, by decide⟩ (fun H locs X => ?_)
  refine lv_aload_n hx hb dL_811 rfl (lv_at hl 2 rfl) ?_
  refine lv_aload_n hx hb dL_812 rfl (lv_at hl 0 rfl) ?_
  refine lv_iload_n hx hb dL_813 rfl (lv_at hl 3 rfl) ?_
  refine lv_iconst (v := 1) hx hb dL_814 (by decide) ?_
  refine lv_iadd hx hb dL_815 ?_
  refine va_sld hx hb hX hbl hbA X.2.1 hin1 dL_816 ?_
  refine c_V1 (As := [.int (xs (nI i + 1).toNatClampNeg)]) (rest := [.int r]) (st1 := [.int r, .int r]) hx hb hml hown hts hK X (k_X12_enter l G 101 (by decide) e2) (show kd 83 = 12 from rfl) (by decide) lc_X12_enter lv_L_125 (ci := 12) rfl rfl (by decide) rfl hl.1 (Nat.le_of_ble_eq_true rfl) dL_817 rfl ⟨by decide, by decide⟩ (fun H locs X => ?_)
  refine lv_icmp_eq (tgt := 999) hx hb dL_820 (by decide) (fun _ => ?_) (fun z => absurd rfl z)
  exact nxt hI X hl
theorem lc_case_27 {i : Nat} (C0 : LX p s m meth c G b L xs) (S27 : Sp0 Inv f_X11_close f_X12_close) (nxt : ∀ {h : Hp} {H : Heap} {locs : List Loc} {ls : Array Slot}, Inv h → XW G 101 h s 101 H locs → lv_has ls 4 [(0, .ref b), (1, .ref (bs G + 1)), (2, .ref (bs G + 83)), (3, .int (nI i))] → W p l e (rmC 1400 600000 7302250) s m #[Value.ref b] below meth c H locs 101 39951 (lw_Z below #[Value.ref b] s) (F0 m 999 ls [])) (hin1 : vp_in (nI i + 1) L) (hin2 : vp_in (nI i + 2) L) (hin3 : vp_in (nI i + 3) L) {h : Hp} {H : Heap} {locs : List Loc} {ls : Array Slot} (hI : Inv h) (X : XW G 101 h s 101 H locs) (hl : lv_has ls 4 [(0, .ref b), (1, .ref (bs G + 1)), (2, .ref (bs G + 83)), (3, .int (nI i))]) : W p l e (rmC 1400 600000 7302250) s m #[Value.ref b] below meth c H locs 101 39951 (lw_Z below #[Value.ref b] s) (F0 m 825 ls []) := by
  obtain ⟨hx, hb, hr, hml, hown, hts, hK, hX, hbl, hbA, hlocks, hL, hbs⟩ := C0
  refine lv_aload_n hx hb dL_825 rfl (lv_at hl 1 rfl) ?_
  obtain ⟨r, h1, h2, e1, e2, hI⟩ := S27 h hI
  refine c_V1 (As := []) (rest := []) (st1 := [.int r]) hx hb hml hown hts hK X (k_X11_close l G 101 (by decide) e1) (show kd 1 = 11 from rfl) (by decide) lc_X11_close lv_L_126 (ci := 11) rfl rfl (by decide) rfl hl.1 (Nat.le_of_ble_eq_true rfl) dL_826 rfl ⟨by decide, by decide⟩ (fun H locs X => ?_)
  refine lv_aload_n hx hb dL_829 rfl (lv_at hl 2 rfl) ?_
  refine c_V1 (As := []) (rest := [.int r]) (st1 := [.int r, .int r]) hx hb hml hown hts hK X (k_X12_close l G 101 (by decide) e2) (show kd 83 = 12 from rfl) (by decide) lc_X12_close lv_L_129 (ci := 12) rfl rfl (by decide) rfl hl.1 (Nat.le_of_ble_eq_true rfl) dL_830 rfl ⟨by decide, by decide⟩ (fun H locs X => ?_)
  refine lv_icmp_eq (tgt := 999) hx hb dL_833 (by decide) (fun _ => ?_) (fun z => absurd rfl z)
  exact nxt hI X hl
theorem lc_case_28 {i : Nat} (C0 : LX p s m meth c G b L xs) (S28 : Sp1 Inv f_X11_book f_X12_book) (nxt : ∀ {h : Hp} {H : Heap} {locs : List Loc} {ls : Array Slot}, Inv h → XW G 101 h s 101 H locs → lv_has ls 4 [(0, .ref b), (1, .ref (bs G + 1)), (2, .ref (bs G + 83)), (3, .int (nI i))] → W p l e (rmC 1400 600000 7302250) s m #[Value.ref b] below meth c H locs 101 39951 (lw_Z below #[Value.ref b] s) (F0 m 999 ls [])) (hin1 : vp_in (nI i + 1) L) (hin2 : vp_in (nI i + 2) L) (hin3 : vp_in (nI i + 3) L) {h : Hp} {H : Heap} {locs : List Loc} {ls : Array Slot} (hI : Inv h) (X : XW G 101 h s 101 H locs) (hl : lv_has ls 4 [(0, .ref b), (1, .ref (bs G + 1)), (2, .ref (bs G + 83)), (3, .int (nI i))]) : W p l e (rmC 1400 600000 7302250) s m #[Value.ref b] below meth c H locs 101 39951 (lw_Z below #[Value.ref b] s) (F0 m 838 ls []) := by
  obtain ⟨hx, hb, hr, hml, hown, hts, hK, hX, hbl, hbA, hlocks, hL, hbs⟩ := C0
  refine lv_aload_n hx hb dL_838 rfl (lv_at hl 1 rfl) ?_
  refine lv_aload_n hx hb dL_839 rfl (lv_at hl 0 rfl) ?_
  refine lv_iload_n hx hb dL_840 rfl (lv_at hl 3 rfl) ?_
  refine lv_iconst (v := 1) hx hb dL_841 (by decide) ?_
  refine lv_iadd hx hb dL_842 ?_
  refine va_sld hx hb hX hbl hbA X.2.1 hin1 dL_843 ?_
  obtain ⟨r, h1, h2, e1, e2, hI⟩ := S28 h (xs (nI i + 1).toNatClampNeg) hI
  refine c_V1 (As := [.int (xs (nI i + 1).toNatClampNeg)]) (rest := []) (st1 := [.int r]) hx hb hml hown hts hK X (k_X11_book l G 101 (by decide) e1) (show kd 1 = 11 from rfl) (by decide) lc_X11_book lv_L_130 (ci := 11) rfl rfl (by decide) rfl hl.1 (Nat.le_of_ble_eq_true rfl) dL_844 rfl ⟨by decide, by decide⟩ (fun H locs X => ?_)
  refine lv_aload_n hx hb dL_847 rfl (lv_at hl 2 rfl) ?_
  refine lv_aload_n hx hb dL_848 rfl (lv_at hl 0 rfl) ?_
  refine lv_iload_n hx hb dL_849 rfl (lv_at hl 3 rfl) ?_
  refine lv_iconst (v := 1) hx hb dL_850 (by decide) ?_
  refine lv_iadd hx hb dL_851 ?_
  refine va_sld hx hb hX hbl hbA X.2.1 hin1 dL_852 ?_
  refine c_V1 (As := [.int (xs (nI i + 1).toNatClampNeg)]) (rest := [.int r]) (st1 := [.int r, .int r]) hx hb hml hown hts hK X (k_X12_book l G 101 (by decide) e2) (show kd 83 = 12 from rfl) (by decide) lc_X12_book lv_L_133 (ci := 12) rfl rfl (by decide) rfl hl.1 (Nat.le_of_ble_eq_true rfl) dL_853 rfl ⟨by decide, by decide⟩ (fun H locs X => ?_)
  refine lv_icmp_eq (tgt := 999) hx hb dL_856 (by decide) (fun _ => ?_) (fun z => absurd rfl z)
  exact nxt hI X hl
theorem lc_case_29 {i : Nat} (C0 : LX p s m meth c G b L xs) (S29 : Sp0 Inv f_X11_twice f_X12_twice) (nxt : ∀ {h : Hp} {H : Heap} {locs : List Loc} {ls : Array Slot}, Inv h → XW G 101 h s 101 H locs → lv_has ls 4 [(0, .ref b), (1, .ref (bs G + 1)), (2, .ref (bs G + 83)), (3, .int (nI i))] → W p l e (rmC 1400 600000 7302250) s m #[Value.ref b] below meth c H locs 101 39951 (lw_Z below #[Value.ref b] s) (F0 m 999 ls [])) (hin1 : vp_in (nI i + 1) L) (hin2 : vp_in (nI i + 2) L) (hin3 : vp_in (nI i + 3) L) {h : Hp} {H : Heap} {locs : List Loc} {ls : Array Slot} (hI : Inv h) (X : XW G 101 h s 101 H locs) (hl : lv_has ls 4 [(0, .ref b), (1, .ref (bs G + 1)), (2, .ref (bs G + 83)), (3, .int (nI i))]) : W p l e (rmC 1400 600000 7302250) s m #[Value.ref b] below meth c H locs 101 39951 (lw_Z below #[Value.ref b] s) (F0 m 861 ls []) := by
  obtain ⟨hx, hb, hr, hml, hown, hts, hK, hX, hbl, hbA, hlocks, hL, hbs⟩ := C0
  refine lv_aload_n hx hb dL_861 rfl (lv_at hl 1 rfl) ?_
  obtain ⟨r, h1, h2, e1, e2, hI⟩ := S29 h hI
  refine c_V1 (As := []) (rest := []) (st1 := [.int r]) hx hb hml hown hts hK X (k_X11_twice l G 101 (by decide) e1) (show kd 1 = 11 from rfl) (by decide) lc_X11_twice lv_L_134 (ci := 11) rfl rfl (by decide) rfl hl.1 (Nat.le_of_ble_eq_true rfl) dL_862 rfl ⟨by decide, by decide⟩ (fun H locs X => ?_)
  refine lv_aload_n hx hb dL_865 rfl (lv_at hl 2 rfl) ?_
  refine c_V1 (As := []) (rest := [.int r]) (st1 := [.int r, .int r]) hx hb hml hown hts hK X (k_X12_twice l G 101 (by decide) e2) (show kd 83 = 12 from rfl) (by decide) lc_X12_twice lv_L_137 (ci := 12) rfl rfl (by decide) rfl hl.1 (Nat.le_of_ble_eq_true rfl) dL_866 rfl ⟨by decide, by decide⟩ (fun H locs X => ?_)
  refine lv_icmp_eq (tgt := 999) hx hb dL_869 (by decide) (fun _ => ?_) (fun z => absurd rfl z)
  exact nxt hI X hl
theorem lc_case_30 {i : Nat} (C0 : LX p s m meth c G b L xs) (S30 : Sp2 Inv f_X11_corner f_X12_corner) (nxt : ∀ {h : Hp} {H : Heap} {locs : List Loc} {ls : Array Slot}, Inv h → XW G 101 h s 101 H locs → lv_has ls 4 [(0, .ref b), (1, .ref (bs G + 1)), (2, .ref (bs G + 83)), (3, .int (nI i))] → W p l e (rmC 1400 600000 7302250) s m #[Value.ref b] below meth c H locs 101 39951 (lw_Z below #[Value.ref b] s) (F0 m 999 ls [])) (hin1 : vp_in (nI i + 1) L) (hin2 : vp_in (nI i + 2) L) (hin3 : vp_in (nI i + 3) L) {h : Hp} {H : Heap} {locs : List Loc} {ls : Array Slot} (hI : Inv h) (X : XW G 101 h s 101 H locs) (hl : lv_has ls 4 [(0, .ref b), (1, .ref (bs G + 1)), (2, .ref (bs G + 83)), (3, .int (nI i))]) : W p l e (rmC 1400 600000 7302250) s m #[Value.ref b] below meth c H locs 101 39951 (lw_Z below #[Value.ref b] s) (F0 m 874 ls []) := by
  obtain ⟨hx, hb, hr, hml, hown, hts, hK, hX, hbl, hbA, hlocks, hL, hbs⟩ := C0
  refine lv_aload_n hx hb dL_874 rfl (lv_at hl 1 rfl) ?_
  refine lv_aload_n hx hb dL_875 rfl (lv_at hl 0 rfl) ?_
  refine lv_iload_n hx hb dL_876 rfl (lv_at hl 3 rfl) ?_
  refine lv_iconst (v := 1) hx hb dL_877 (by decide) ?_
  refine lv_iadd hx hb dL_878 ?_
  refine va_sld hx hb hX hbl hbA X.2.1 hin1 dL_879 ?_
  refine lv_aload_n hx hb dL_880 rfl (lv_at hl 0 rfl) ?_
  refine lv_iload_n hx hb dL_881 rfl (lv_at hl 3 rfl) ?_
  refine lv_iconst (v := 2) hx hb dL_882 (by decide) ?_
  refine lv_iadd hx hb dL_883 ?_
  refine va_sld hx hb hX hbl hbA X.2.1 hin2 dL_884 ?_
  obtain ⟨r, h1, h2, e1, e2, hI⟩ := S30 h (xs (nI i + 1).toNatClampNeg) (xs (nI i + 2).toNatClampNeg) hI
  refine c_V1 (As := [.int (xs (nI i + 1).toNatClampNeg), .int (xs (nI i + 2).toNatClampNeg)]) (rest := []) (st1 := [.int r]) hx hb hml hown hts hK X (k_X11_corner l G 101 (by decide) e1) (show kd 1 = 11 from rfl) (by decide) lc_X11_corner lv_L_138 (ci := 11) rfl rfl (by decide) rfl hl.1 (Nat.le_of_ble_eq_true rfl) dL_885 rfl ⟨by decide, by decide⟩ (fun H locs X => ?_)
  refine lv_aload_n hx hb dL_888 rfl (lv_at hl 2 rfl) ?_
  refine lv_aload_n hx hb dL_889 rfl (lv_at hl 0 rfl) ?_
  refine lv_iload_n hx hb dL_890 rfl (lv_at hl 3 rfl) ?_
  refine lv_iconst (v := 1) hx hb dL_891 (by decide) ?_
  refine lv_iadd hx hb dL_892 ?_
  refine va_sld hx hb hX hbl hbA X.2.1 hin1 dL_893 ?_
  refine lv_aload_n hx hb dL_894 rfl (lv_at hl 0 rfl) ?_
  refine lv_iload_n hx hb dL_895 rfl (lv_at hl 3 rfl) ?_
  refine lv_iconst (v := 2) hx hb dL_896 (by decide) ?_
  refine lv_iadd hx hb dL_897 ?_
  refine va_sld hx hb hX hbl hbA X.2.1 hin2 dL_898 ?_
  refine c_V1 (As := [.int (xs (nI i + 1).toNatClampNeg), .int (xs (nI i + 2).toNatClampNeg)]) (rest := [.int r]) (st1 := [.int r, .int r]) hx hb hml hown hts hK X (k_X12_corner l G 101 (by decide) e2) (show kd 83 = 12 from rfl) (by decide) lc_X12_corner lv_L_141 (ci := 12) rfl rfl (by decide) rfl hl.1 (Nat.le_of_ble_eq_true rfl) dL_899 rfl ⟨by decide, by decide⟩ (fun H locs X => ?_)
  refine lv_icmp_eq (tgt := 999) hx hb dL_902 (by decide) (fun _ => ?_) (fun z => absurd rfl z)
  exact nxt hI X hl
theorem lc_case_31 {i : Nat} (C0 : LX p s m meth c G b L xs) (S31 : Sp3 Inv f_X11_year f_X12_year) (nxt : ∀ {h : Hp} {H : Heap} {locs : List Loc} {ls : Array Slot}, Inv h → XW G 101 h s 101 H locs → lv_has ls 4 [(0, .ref b), (1, .ref (bs G + 1)), (2, .ref (bs G + 83)), (3, .int (nI i))] → W p l e (rmC 1400 600000 7302250) s m #[Value.ref b] below meth c H locs 101 39951 (lw_Z below #[Value.ref b] s) (F0 m 999 ls [])) (hin1 : vp_in (nI i + 1) L) (hin2 : vp_in (nI i + 2) L) (hin3 : vp_in (nI i + 3) L) {h : Hp} {H : Heap} {locs : List Loc} {ls : Array Slot} (hI : Inv h) (X : XW G 101 h s 101 H locs) (hl : lv_has ls 4 [(0, .ref b), (1, .ref (bs G + 1)), (2, .ref (bs G + 83)), (3, .int (nI i))]) : W p l e (rmC 1400 600000 7302250) s m #[Value.ref b] below meth c H locs 101 39951 (lw_Z below #[Value.ref b] s) (F0 m 907 ls []) := by
  obtain ⟨hx, hb, hr, hml, hown, hts, hK, hX, hbl, hbA, hlocks, hL, hbs⟩ := C0
  refine lv_aload_n hx hb dL_907 rfl (lv_at hl 1 rfl) ?_
  refine lv_aload_n hx hb dL_908 rfl (lv_at hl 0 rfl) ?_
  refine lv_iload_n hx hb dL_909 rfl (lv_at hl 3 rfl) ?_
  refine lv_iconst (v := 1) hx hb dL_910 (by decide) ?_
  refine lv_iadd hx hb dL_911 ?_
  refine va_sld hx hb hX hbl hbA X.2.1 hin1 dL_912 ?_
  refine lv_aload_n hx hb dL_913 rfl (lv_at hl 0 rfl) ?_
  refine lv_iload_n hx hb dL_914 rfl (lv_at hl 3 rfl) ?_
  refine lv_iconst (v := 2) hx hb dL_915 (by decide) ?_
  refine lv_iadd hx hb dL_916 ?_
  refine va_sld hx hb hX hbl hbA X.2.1 hin2 dL_917 ?_
  refine lv_aload_n hx hb dL_918 rfl (lv_at hl 0 rfl) ?_
  refine lv_iload_n hx hb dL_919 rfl (lv_at hl 3 rfl) ?_
  refine lv_iconst (v := 3) hx hb dL_920 (by decide) ?_
  refine lv_iadd hx hb dL_921 ?_
  refine va_sld hx hb hX hbl hbA X.2.1 hin3 dL_922 ?_
  obtain ⟨r, h1, h2, e1, e2, hI⟩ := S31 h (xs (nI i + 1).toNatClampNeg) (xs (nI i + 2).toNatClampNeg) (xs (nI i + 3).toNatClampNeg) hI
  refine c_V1 (As := [.int (xs (nI i + 1).toNatClampNeg), .int (xs (nI i + 2).toNatClampNeg), .int (xs (nI i + 3).toNatClampNeg)]) (rest := []) (st1 := [.int r]) hx hb hml hown hts hK X (k_X11_year l G 101 (by decide) e1) (show kd 1 = 11 from rfl) (by decide) lc_X11_year lv_L_142 (ci := 11) rfl rfl (by decide) rfl hl.1 (Nat.le_of_ble_eq_true rfl) dL_923 rfl ⟨by decide, by decide⟩ (fun H locs X => ?_)
  refine lv_aload_n hx hb dL_926 rfl (lv_at hl 2 rfl) ?_
  refine lv_aload_n hx hb dL_927 rfl (lv_at hl 0 rfl) ?_
  refine lv_iload_n hx hb dL_928 rfl (lv_at hl 3 rfl) ?_
  refine lv_iconst (v := 1) hx hb dL_929 (by decide) ?_
  refine lv_iadd hx hb dL_930 ?_
  refine va_sld hx hb hX hbl hbA X.2.1 hin1 dL_931 ?_
  refine lv_aload_n hx hb dL_932 rfl (lv_at hl 0 rfl) ?_
  refine lv_iload_n hx hb dL_933 rfl (lv_at hl 3 rfl) ?_
  refine lv_iconst (v := 2) hx hb dL_934 (by decide) ?_
  refine lv_iadd hx hb dL_935 ?_
  refine va_sld hx hb hX hbl hbA X.2.1 hin2 dL_936 ?_
  refine lv_aload_n hx hb dL_937 rfl (lv_at hl 0 rfl) ?_
  refine lv_iload_n hx hb dL_938 rfl (lv_at hl 3 rfl) ?_
  refine lv_iconst (v := 3) hx hb dL_939 (by decide) ?_
  refine lv_iadd hx hb dL_940 ?_
  refine va_sld hx hb hX hbl hbA X.2.1 hin3 dL_941 ?_
  refine c_V1 (As := [.int (xs (nI i + 1).toNatClampNeg), .int (xs (nI i + 2).toNatClampNeg), .int (xs (nI i + 3).toNatClampNeg)]) (rest := [.int r]) (st1 := [.int r, .int r]) hx hb hml hown hts hK X (k_X12_year l G 101 (by decide) e2) (show kd 83 = 12 from rfl) (by decide) lc_X12_year lv_L_145 (ci := 12) rfl rfl (by decide) rfl hl.1 (Nat.le_of_ble_eq_true rfl) dL_942 rfl ⟨by decide, by decide⟩ (fun H locs X => ?_)
  refine lv_icmp_eq (tgt := 999) hx hb dL_945 (by decide) (fun _ => ?_) (fun z => absurd rfl z)
  exact nxt hI X hl
theorem lc_case_32 {i : Nat} (C0 : LX p s m meth c G b L xs) (S32 : Sp0 Inv f_X11_keep f_X12_keep) (nxt : ∀ {h : Hp} {H : Heap} {locs : List Loc} {ls : Array Slot}, Inv h → XW G 101 h s 101 H locs → lv_has ls 4 [(0, .ref b), (1, .ref (bs G + 1)), (2, .ref (bs G + 83)), (3, .int (nI i))] → W p l e (rmC 1400 600000 7302250) s m #[Value.ref b] below meth c H locs 101 39951 (lw_Z below #[Value.ref b] s) (F0 m 999 ls [])) (hin1 : vp_in (nI i + 1) L) (hin2 : vp_in (nI i + 2) L) (hin3 : vp_in (nI i + 3) L) {h : Hp} {H : Heap} {locs : List Loc} {ls : Array Slot} (hI : Inv h) (X : XW G 101 h s 101 H locs) (hl : lv_has ls 4 [(0, .ref b), (1, .ref (bs G + 1)), (2, .ref (bs G + 83)), (3, .int (nI i))]) : W p l e (rmC 1400 600000 7302250) s m #[Value.ref b] below meth c H locs 101 39951 (lw_Z below #[Value.ref b] s) (F0 m 950 ls []) := by
  obtain ⟨hx, hb, hr, hml, hown, hts, hK, hX, hbl, hbA, hlocks, hL, hbs⟩ := C0
  refine lv_aload_n hx hb dL_950 rfl (lv_at hl 1 rfl) ?_
  obtain ⟨r, h1, h2, e1, e2, hI⟩ := S32 h hI
  refine c_V1 (As := []) (rest := []) (st1 := [.int r]) hx hb hml hown hts hK X (k_X11_keep l G 101 (by decide) e1) (show kd 1 = 11 from rfl) (by decide) lc_X11_keep lv_L_146 (ci := 11) rfl rfl (by decide) rfl hl.1 (Nat.le_of_ble_eq_true rfl) dL_951 rfl ⟨by decide, by decide⟩ (fun H locs X => ?_)
  refine lv_aload_n hx hb dL_954 rfl (lv_at hl 2 rfl) ?_
  refine c_V1 (As := []) (rest := [.int r]) (st1 := [.int r, .int r]) hx hb hml hown hts hK X (k_X12_keep l G 101 (by decide) e2) (show kd 83 = 12 from rfl) (by decide) lc_X12_keep lv_L_149 (ci := 12) rfl rfl (by decide) rfl hl.1 (Nat.le_of_ble_eq_true rfl) dL_955 rfl ⟨by decide, by decide⟩ (fun H locs X => ?_)
  refine lv_icmp_eq (tgt := 999) hx hb dL_958 (by decide) (fun _ => ?_) (fun z => absurd rfl z)
  exact nxt hI X hl
theorem lc_case_33 {i : Nat} (C0 : LX p s m meth c G b L xs) (S33 : Sp0 Inv f_X11_back f_X12_back) (nxt : ∀ {h : Hp} {H : Heap} {locs : List Loc} {ls : Array Slot}, Inv h → XW G 101 h s 101 H locs → lv_has ls 4 [(0, .ref b), (1, .ref (bs G + 1)), (2, .ref (bs G + 83)), (3, .int (nI i))] → W p l e (rmC 1400 600000 7302250) s m #[Value.ref b] below meth c H locs 101 39951 (lw_Z below #[Value.ref b] s) (F0 m 999 ls [])) (hin1 : vp_in (nI i + 1) L) (hin2 : vp_in (nI i + 2) L) (hin3 : vp_in (nI i + 3) L) {h : Hp} {H : Heap} {locs : List Loc} {ls : Array Slot} (hI : Inv h) (X : XW G 101 h s 101 H locs) (hl : lv_has ls 4 [(0, .ref b), (1, .ref (bs G + 1)), (2, .ref (bs G + 83)), (3, .int (nI i))]) : W p l e (rmC 1400 600000 7302250) s m #[Value.ref b] below meth c H locs 101 39951 (lw_Z below #[Value.ref b] s) (F0 m 963 ls []) := by
  obtain ⟨hx, hb, hr, hml, hown, hts, hK, hX, hbl, hbA, hlocks, hL, hbs⟩ := C0
  refine lv_aload_n hx hb dL_963 rfl (lv_at hl 1 rfl) ?_
  obtain ⟨r, h1, h2, e1, e2, hI⟩ := S33 h hI
  refine c_V1 (As := []) (rest := []) (st1 := [.int r]) hx hb hml hown hts hK X (k_X11_back l G 101 (by decide) e1) (show kd 1 = 11 from rfl) (by decide) lc_X11_back lv_L_150 (ci := 11) rfl rfl (by decide) rfl hl.1 (Nat.le_of_ble_eq_true rfl) dL_964 rfl ⟨by decide, by decide⟩ (fun H locs X => ?_)
  refine lv_aload_n hx hb dL_967 rfl (lv_at hl 2 rfl) ?_
  refine c_V1 (As := []) (rest := [.int r]) (st1 := [.int r, .int r]) hx hb hml hown hts hK X (k_X12_back l G 101 (by decide) e2) (show kd 83 = 12 from rfl) (by decide) lc_X12_back lv_L_153 (ci := 12) rfl rfl (by decide) rfl hl.1 (Nat.le_of_ble_eq_true rfl) dL_968 rfl ⟨by decide, by decide⟩ (fun H locs X => ?_)
  refine lv_icmp_eq (tgt := 999) hx hb dL_971 (by decide) (fun _ => ?_) (fun z => absurd rfl z)
  exact nxt hI X hl
theorem lc_case_34 {i : Nat} (C0 : LX p s m meth c G b L xs) (S34 : Sp1 Inv f_X11_count f_X12_count) (nxt : ∀ {h : Hp} {H : Heap} {locs : List Loc} {ls : Array Slot}, Inv h → XW G 101 h s 101 H locs → lv_has ls 4 [(0, .ref b), (1, .ref (bs G + 1)), (2, .ref (bs G + 83)), (3, .int (nI i))] → W p l e (rmC 1400 600000 7302250) s m #[Value.ref b] below meth c H locs 101 39951 (lw_Z below #[Value.ref b] s) (F0 m 999 ls [])) (hin1 : vp_in (nI i + 1) L) (hin2 : vp_in (nI i + 2) L) (hin3 : vp_in (nI i + 3) L) {h : Hp} {H : Heap} {locs : List Loc} {ls : Array Slot} (hI : Inv h) (X : XW G 101 h s 101 H locs) (hl : lv_has ls 4 [(0, .ref b), (1, .ref (bs G + 1)), (2, .ref (bs G + 83)), (3, .int (nI i))]) : W p l e (rmC 1400 600000 7302250) s m #[Value.ref b] below meth c H locs 101 39951 (lw_Z below #[Value.ref b] s) (F0 m 976 ls []) := by
  obtain ⟨hx, hb, hr, hml, hown, hts, hK, hX, hbl, hbA, hlocks, hL, hbs⟩ := C0
  refine lv_aload_n hx hb dL_976 rfl (lv_at hl 1 rfl) ?_
  refine lv_aload_n hx hb dL_977 rfl (lv_at hl 0 rfl) ?_
  refine lv_iload_n hx hb dL_978 rfl (lv_at hl 3 rfl) ?_
  refine lv_iconst (v := 1) hx hb dL_979 (by decide) ?_
  refine lv_iadd hx hb dL_980 ?_
  refine va_sld hx hb hX hbl hbA X.2.1 hin1 dL_981 ?_
  obtain ⟨r, h1, h2, e1, e2, hI⟩ := S34 h (xs (nI i + 1).toNatClampNeg) hI
  refine c_V1 (As := [.int (xs (nI i + 1).toNatClampNeg)]) (rest := []) (st1 := [.int r]) hx hb hml hown hts hK X (k_X11_count l G 101 (by decide) e1) (show kd 1 = 11 from rfl) (by decide) lc_X11_count lv_L_154 (ci := 11) rfl rfl (by decide) rfl hl.1 (Nat.le_of_ble_eq_true rfl) dL_982 rfl ⟨by decide, by decide⟩ (fun H locs X => ?_)
  refine lv_aload_n hx hb dL_985 rfl (lv_at hl 2 rfl) ?_
  refine lv_aload_n hx hb dL_986 rfl (lv_at hl 0 rfl) ?_
  refine lv_iload_n hx hb dL_987 rfl (lv_at hl 3 rfl) ?_
  refine lv_iconst (v := 1) hx hb dL_988 (by decide) ?_
  refine lv_iadd hx hb dL_989 ?_
  refine va_sld hx hb hX hbl hbA X.2.1 hin1 dL_990 ?_
  refine c_V1 (As := [.int (xs (nI i + 1).toNatClampNeg)]) (rest := [.int r]) (st1 := [.int r, .int r]) hx hb hml hown hts hK X (k_X12_count l G 101 (by decide) e2) (show kd 83 = 12 from rfl) (by decide) lc_X12_count lv_L_157 (ci := 12) rfl rfl (by decide) rfl hl.1 (Nat.le_of_ble_eq_true rfl) dL_991 rfl ⟨by decide, by decide⟩ (fun H locs X => ?_)
  refine lv_icmp_eq (tgt := 999) hx hb dL_994 (by decide) (fun _ => ?_) (fun z => absurd rfl z)
  exact nxt hI X hl
theorem law_loop (C0 : LX p s m meth c G b L xs) (S : AllSp Inv) : ∀ (n i : Nat) {h : Hp} {H : Heap} {locs : List Loc} {ls : Array Slot}, L + 4 ≤ i + 4 * n ∧ i ≤ L + 3 → Inv h → XW G 101 h s 101 H locs → lv_has ls 4 [(0, .ref b), (1, .ref (bs G + 1)), (2, .ref (bs G + 83)), (3, .int (nI i))] → W p l e (rmC 1400 600000 7302250) s m #[Value.ref b] below meth c H locs 101 39951 (lw_Z below #[Value.ref b] s) (F0 m 18 ls []) := by
  obtain ⟨hx, hb, hr, hml, hown, hts, hK, hX, hbl, hbA, hlocks, hL, hbs⟩ := id C0
  obtain ⟨S0, S1, S2, S3, S4, S5, S6, S7, S8, S9, S10, S11, S12, S13, S14, S15, S16, S17, S18, S19, S20, S21, S22, S23, S24, S25, S26, S27, S28, S29, S30, S31, S32, S33, S34⟩ := S
  intro n
  induction n with
  | zero => intro i h H locs ls hi hI X hl; exact absurd hi (by omega)
  | succ n ih =>
    intro i h H locs ls hi hI X hl
    by_cases hend : i + 4 ≤ L
    · have hlt : (nI L - 4) = nI (L - 4) := pk_sub (b := 4) (by omega)
      have hin0 : vp_in (nI i) L := vp_in_nI (by omega) (by omega)
      have hin1 : vp_in (nI i + 1) L := by rw [show nI i + 1 = nI (i + 1) from nI_add i 1]; exact vp_in_nI (by omega) (by omega)
      have hin2 : vp_in (nI i + 2) L := by rw [show nI i + 2 = nI (i + 2) from nI_add i 2]; exact vp_in_nI (by omega) (by omega)
      have hin3 : vp_in (nI i + 3) L := by rw [show nI i + 3 = nI (i + 3) from nI_add i 3]; exact vp_in_nI (by omega) (by omega)
      refine lv_iload_n hx hb dL_18 rfl (lv_at hl 3 rfl) ?_
      refine lv_aload_n hx hb dL_19 rfl (lv_at hl 0 rfl) ?_
      refine va_slen hx hb hX hbl hbA X.2.1 dL_20 ?_
      refine lv_iconst (v := 4) hx hb dL_21 (by decide) ?_
      refine lv_isub hx hb dL_22 ?_
      refine lv_icmp_gt (tgt := 1005) hx hb dL_23 (by decide) (fun z => absurd z (by show ¬ (nI L - 4 < nI i); rw [hlt]; exact nI_nlt (by omega) (by omega))) (fun _ => ?_)
      refine lv_aload_n hx hb dL_26 rfl (lv_at hl 0 rfl) ?_
      refine lv_iload_n hx hb dL_27 rfl (lv_at hl 3 rfl) ?_
      refine va_sld hx hb hX hbl hbA X.2.1 hin0 dL_28 ?_
      refine lv_bipush (v := 63) hx hb dL_29 (by decide) ?_
      refine lv_iand hx hb dL_31 ?_
      have nxt : ∀ {h : Hp} {H : Heap} {locs : List Loc} {ls : Array Slot}, Inv h → XW G 101 h s 101 H locs → lv_has ls 4 [(0, .ref b), (1, .ref (bs G + 1)), (2, .ref (bs G + 83)), (3, .int (nI i))] → W p l e (rmC 1400 600000 7302250) s m #[Value.ref b] below meth c H locs 101 39951 (lw_Z below #[Value.ref b] s) (F0 m 999 ls []) := by
        intro h H locs ls hI X hl
        refine lv_iinc (v := nI (i + 4)) (lv' := [(3, .int (nI (i + 4))), (0, .ref b), (1, .ref (bs G + 1)), (2, .ref (bs G + 83))]) hx hb dL_999 hl (k := 3) rfl (nI_add i 4) (by decide) rfl (fun ls hl => ?_)
        refine lv_goto (tgt := 18) hx hb dL_1002 (by decide) ?_
        exact ih (i + 4) (by omega) hI X (lv_sub hl [1, 2, 3, 0] rfl)
      refine lv_topi (fun sel esel => ?_)
      by_cases z0 : sel = (0 : Int32)
      · refine sw_in (k := (0 : Int32)) (off := 156) (tgt := 188) hx hb dL_32 z0 (by decide) (by decide) (by decide) (by decide) ?_
        exact lc_case_0 C0 S0 @nxt hin1 hin2 hin3 hI X hl
      by_cases z1 : sel = (1 : Int32)
      · refine sw_in (k := (1 : Int32)) (off := 179) (tgt := 211) hx hb dL_32 z1 (by decide) (by decide) (by decide) (by decide) ?_
        exact lc_case_1 C0 S1 @nxt hin1 hin2 hin3 hI X hl
      by_cases z2 : sel = (2 : Int32)
      · refine sw_in (k := (2 : Int32)) (off := 192) (tgt := 224) hx hb dL_32 z2 (by decide) (by decide) (by decide) (by decide) ?_
        exact lc_case_2 C0 S2 @nxt hin1 hin2 hin3 hI X hl
      by_cases z3 : sel = (3 : Int32)
      · refine sw_in (k := (3 : Int32)) (off := 205) (tgt := 237) hx hb dL_32 z3 (by decide) (by decide) (by decide) (by decide) ?_
        exact lc_case_3 C0 S3 @nxt hin1 hin2 hin3 hI X hl
      by_cases z4 : sel = (4 : Int32)
      · refine sw_in (k := (4 : Int32)) (off := 218) (tgt := 250) hx hb dL_32 z4 (by decide) (by decide) (by decide) (by decide) ?_
        exact lc_case_4 C0 S4 @nxt hin1 hin2 hin3 hI X hl
      by_cases z5 : sel = (5 : Int32)
      · refine sw_in (k := (5 : Int32)) (off := 251) (tgt := 283) hx hb dL_32 z5 (by decide) (by decide) (by decide) (by decide) ?_
        exact lc_case_5 C0 S5 @nxt hin1 hin2 hin3 hI X hl
      by_cases z6 : sel = (6 : Int32)
      · refine sw_in (k := (6 : Int32)) (off := 284) (tgt := 316) hx hb dL_32 z6 (by decide) (by decide) (by decide) (by decide) ?_
        exact lc_case_6 C0 S6 @nxt hin1 hin2 hin3 hI X hl
      by_cases z7 : sel = (7 : Int32)
      · refine sw_in (k := (7 : Int32)) (off := 307) (tgt := 339) hx hb dL_32 z7 (by decide) (by decide) (by decide) (by decide) ?_
        exact lc_case_7 C0 S7 @nxt hin1 hin2 hin3 hI X hl
      by_cases z8 : sel = (8 : Int32)
      · refine sw_in (k := (8 : Int32)) (off := 340) (tgt := 372) hx hb dL_32 z8 (by decide) (by decide) (by decide) (by decide) ?_
        exact lc_case_8 C0 S8 @nxt hin1 hin2 hin3 hI X hl
      by_cases z9 : sel = (9 : Int32)
      · refine sw_in (k := (9 : Int32)) (off := 353) (tgt := 385) hx hb dL_32 z9 (by decide) (by decide) (by decide) (by decide) ?_
        exact lc_case_9 C0 S9 @nxt hin1 hin2 hin3 hI X hl
      by_cases z10 : sel = (10 : Int32)
      · refine sw_in (k := (10 : Int32)) (off := 376) (tgt := 408) hx hb dL_32 z10 (by decide) (by decide) (by decide) (by decide) ?_
        exact lc_case_10 C0 S10 @nxt hin1 hin2 hin3 hI X hl
      by_cases z11 : sel = (11 : Int32)
      · refine sw_in (k := (11 : Int32)) (off := 399) (tgt := 431) hx hb dL_32 z11 (by decide) (by decide) (by decide) (by decide) ?_
        exact lc_case_11 C0 S11 @nxt hin1 hin2 hin3 hI X hl
      by_cases z12 : sel = (12 : Int32)
      · refine sw_in (k := (12 : Int32)) (off := 422) (tgt := 454) hx hb dL_32 z12 (by decide) (by decide) (by decide) (by decide) ?_
        exact lc_case_12 C0 S12 @nxt hin1 hin2 hin3 hI X hl
      by_cases z13 : sel = (13 : Int32)
      · refine sw_in (k := (13 : Int32)) (off := 455) (tgt := 487) hx hb dL_32 z13 (by decide) (by decide) (by decide) (by decide) ?_
        exact lc_case_13 C0 S13 @nxt hin1 hin2 hin3 hI X hl
      by_cases z14 : sel = (14 : Int32)
      · refine sw_in (k := (14 : Int32)) (off := 468) (tgt := 500) hx hb dL_32 z14 (by decide) (by decide) (by decide) (by decide) ?_
        exact lc_case_14 C0 S14 @nxt hin1 hin2 hin3 hI X hl
      by_cases z15 : sel = (15 : Int32)
      · refine sw_in (k := (15 : Int32)) (off := 507) (tgt := 539) hx hb dL_32 z15 (by decide) (by decide) (by decide) (by decide) ?_
        exact lc_case_15 C0 S15 @nxt hin1 hin2 hin3 hI X hl
      by_cases z16 : sel = (16 : Int32)
      · refine sw_in (k := (16 : Int32)) (off := 520) (tgt := 552) hx hb dL_32 z16 (by decide) (by decide) (by decide) (by decide) ?_
        exact lc_case_16 C0 S16 @nxt hin1 hin2 hin3 hI X hl
      by_cases z17 : sel = (17 : Int32)
      · refine sw_in (k := (17 : Int32)) (off := 563) (tgt := 595) hx hb dL_32 z17 (by decide) (by decide) (by decide) (by decide) ?_
        exact lc_case_17 C0 S17 @nxt hin1 hin2 hin3 hI X hl
      by_cases z18 : sel = (18 : Int32)
      · refine sw_in (k := (18 : Int32)) (off := 576) (tgt := 608) hx hb dL_32 z18 (by decide) (by decide) (by decide) (by decide) ?_
        exact lc_case_18 C0 S18 @nxt hin1 hin2 hin3 hI X hl
      by_cases z19 : sel = (19 : Int32)
      · refine sw_in (k := (19 : Int32)) (off := 599) (tgt := 631) hx hb dL_32 z19 (by decide) (by decide) (by decide) (by decide) ?_
        exact lc_case_19 C0 S19 @nxt hin1 hin2 hin3 hI X hl
      by_cases z20 : sel = (20 : Int32)
      · refine sw_in (k := (20 : Int32)) (off := 622) (tgt := 654) hx hb dL_32 z20 (by decide) (by decide) (by decide) (by decide) ?_
        exact lc_case_20 C0 S20 @nxt hin1 hin2 hin3 hI X hl
      by_cases z21 : sel = (21 : Int32)
      · refine sw_in (k := (21 : Int32)) (off := 655) (tgt := 687) hx hb dL_32 z21 (by decide) (by decide) (by decide) (by decide) ?_
        exact lc_case_21 C0 S21 @nxt hin1 hin2 hin3 hI X hl
      by_cases z22 : sel = (22 : Int32)
      · refine sw_in (k := (22 : Int32)) (off := 668) (tgt := 700) hx hb dL_32 z22 (by decide) (by decide) (by decide) (by decide) ?_
        exact lc_case_22 C0 S22 @nxt hin1 hin2 hin3 hI X hl
      by_cases z23 : sel = (23 : Int32)
      · refine sw_in (k := (23 : Int32)) (off := 691) (tgt := 723) hx hb dL_32 z23 (by decide) (by decide) (by decide) (by decide) ?_
        exact lc_case_23 C0 S23 @nxt hin1 hin2 hin3 hI X hl
      by_cases z24 : sel = (24 : Int32)
      · refine sw_in (k := (24 : Int32)) (off := 704) (tgt := 736) hx hb dL_32 z24 (by decide) (by decide) (by decide) (by decide) ?_
        exact lc_case_24 C0 S24 @nxt hin1 hin2 hin3 hI X hl
      by_cases z25 : sel = (25 : Int32)
      · refine sw_in (k := (25 : Int32)) (off := 747) (tgt := 779) hx hb dL_32 z25 (by decide) (by decide) (by decide) (by decide) ?_
        exact lc_case_25 C0 S25 @nxt hin1 hin2 hin3 hI X hl
      by_cases z26 : sel = (26 : Int32)
      · refine sw_in (k := (26 : Int32)) (off := 770) (tgt := 802) hx hb dL_32 z26 (by decide) (by decide) (by decide) (by decide) ?_
        exact lc_case_26 C0 S26 @nxt hin1 hin2 hin3 hI X hl
      by_cases z27 : sel = (27 : Int32)
      · refine sw_in (k := (27 : Int32)) (off := 793) (tgt := 825) hx hb dL_32 z27 (by decide) (by decide) (by decide) (by decide) ?_
        exact lc_case_27 C0 S27 @nxt hin1 hin2 hin3 hI X hl
      by_cases z28 : sel = (28 : Int32)
      · refine sw_in (k := (28 : Int32)) (off := 806) (tgt := 838) hx hb dL_32 z28 (by decide) (by decide) (by decide) (by decide) ?_
        exact lc_case_28 C0 S28 @nxt hin1 hin2 hin3 hI X hl
      by_cases z29 : sel = (29 : Int32)
      · refine sw_in (k := (29 : Int32)) (off := 829) (tgt := 861) hx hb dL_32 z29 (by decide) (by decide) (by decide) (by decide) ?_
        exact lc_case_29 C0 S29 @nxt hin1 hin2 hin3 hI X hl
      by_cases z30 : sel = (30 : Int32)
      · refine sw_in (k := (30 : Int32)) (off := 842) (tgt := 874) hx hb dL_32 z30 (by decide) (by decide) (by decide) (by decide) ?_
        exact lc_case_30 C0 S30 @nxt hin1 hin2 hin3 hI X hl
      by_cases z31 : sel = (31 : Int32)
      · refine sw_in (k := (31 : Int32)) (off := 875) (tgt := 907) hx hb dL_32 z31 (by decide) (by decide) (by decide) (by decide) ?_
        exact lc_case_31 C0 S31 @nxt hin1 hin2 hin3 hI X hl
      by_cases z32 : sel = (32 : Int32)
      · refine sw_in (k := (32 : Int32)) (off := 918) (tgt := 950) hx hb dL_32 z32 (by decide) (by decide) (by decide) (by decide) ?_
        exact lc_case_32 C0 S32 @nxt hin1 hin2 hin3 hI X hl
      by_cases z33 : sel = (33 : Int32)
      · refine sw_in (k := (33 : Int32)) (off := 931) (tgt := 963) hx hb dL_32 z33 (by decide) (by decide) (by decide) (by decide) ?_
        exact lc_case_33 C0 S33 @nxt hin1 hin2 hin3 hI X hl
      by_cases z34 : sel = (34 : Int32)
      · refine sw_in (k := (34 : Int32)) (off := 944) (tgt := 976) hx hb dL_32 z34 (by decide) (by decide) (by decide) (by decide) ?_
        exact lc_case_34 C0 S34 @nxt hin1 hin2 hin3 hI X hl
      refine sw_df (ex := [(0 : Int32), (1 : Int32), (2 : Int32), (3 : Int32), (4 : Int32), (5 : Int32), (6 : Int32), (7 : Int32), (8 : Int32), (9 : Int32), (10 : Int32), (11 : Int32), (12 : Int32), (13 : Int32), (14 : Int32), (15 : Int32), (16 : Int32), (17 : Int32), (18 : Int32), (19 : Int32), (20 : Int32), (21 : Int32), (22 : Int32), (23 : Int32), (24 : Int32), (25 : Int32), (26 : Int32), (27 : Int32), (28 : Int32), (29 : Int32), (30 : Int32), (31 : Int32), (32 : Int32), (33 : Int32), (34 : Int32)]) (tgt := 999) hx hb dL_32 (by decide) (by decide) (List.forall_mem_cons.mpr ⟨z0, List.forall_mem_cons.mpr ⟨z1, List.forall_mem_cons.mpr ⟨z2, List.forall_mem_cons.mpr ⟨z3, List.forall_mem_cons.mpr ⟨z4, List.forall_mem_cons.mpr ⟨z5, List.forall_mem_cons.mpr ⟨z6, List.forall_mem_cons.mpr ⟨z7, List.forall_mem_cons.mpr ⟨z8, List.forall_mem_cons.mpr ⟨z9, List.forall_mem_cons.mpr ⟨z10, List.forall_mem_cons.mpr ⟨z11, List.forall_mem_cons.mpr ⟨z12, List.forall_mem_cons.mpr ⟨z13, List.forall_mem_cons.mpr ⟨z14, List.forall_mem_cons.mpr ⟨z15, List.forall_mem_cons.mpr ⟨z16, List.forall_mem_cons.mpr ⟨z17, List.forall_mem_cons.mpr ⟨z18, List.forall_mem_cons.mpr ⟨z19, List.forall_mem_cons.mpr ⟨z20, List.forall_mem_cons.mpr ⟨z21, List.forall_mem_cons.mpr ⟨z22, List.forall_mem_cons.mpr ⟨z23, List.forall_mem_cons.mpr ⟨z24, List.forall_mem_cons.mpr ⟨z25, List.forall_mem_cons.mpr ⟨z26, List.forall_mem_cons.mpr ⟨z27, List.forall_mem_cons.mpr ⟨z28, List.forall_mem_cons.mpr ⟨z29, List.forall_mem_cons.mpr ⟨z30, List.forall_mem_cons.mpr ⟨z31, List.forall_mem_cons.mpr ⟨z32, List.forall_mem_cons.mpr ⟨z33, List.forall_mem_cons.mpr ⟨z34, (fun _ hz => absurd hz List.not_mem_nil)⟩⟩⟩⟩⟩⟩⟩⟩⟩⟩⟩⟩⟩⟩⟩⟩⟩⟩⟩⟩⟩⟩⟩⟩⟩⟩⟩⟩⟩⟩⟩⟩⟩⟩⟩) (by decide) ?_
      exact nxt hI X hl
    · refine lv_iload_n hx hb dL_18 rfl (lv_at hl 3 rfl) ?_
      refine lv_aload_n hx hb dL_19 rfl (lv_at hl 0 rfl) ?_
      refine va_slen hx hb hX hbl hbA X.2.1 dL_20 ?_
      refine lv_iconst (v := 4) hx hb dL_21 (by decide) ?_
      refine lv_isub hx hb dL_22 ?_
      have hgt : nI L - 4 < nI i := by
        have e1 : (nI L - nI 4).toInt = (L : Int) - 4 := pk_sub_toInt (by omega) (by omega)
        refine Int32.lt_iff_toInt_lt.mpr ?_
        rw [show nI L - 4 = nI L - nI 4 from rfl, e1, nI_toInt (by omega)]
        omega
      refine lv_icmp_gt (tgt := 1005) hx hb dL_23 (by decide) (fun _ => ?_) (fun z => absurd hgt z)
      refine lv_iconst (v := 1) hx hb dL_1005 (by decide) ?_
      refine va_forget (fun q hq => by have := X.2.1.2.2 q hq; show s.heap.size ≤ q.base; have h3 : bs G < q.base := this; omega) ?_
      refine W.widen (k := 600000) (n := 7302250) (by decide) (by decide) ?_
      exact lw_retR hx hb hr hlocks dL_1006
end
