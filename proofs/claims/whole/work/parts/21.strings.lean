/-! the class's one String constant: String.length and charAt over it, by the JDK's own code -/
def txt0 : List Int32 := [110, 57, 59, 112, 52, 59, 112, 52, 59, 112, 55, 59, 112, 49, 50, 59, 99, 55, 44, 51, 59, 104, 53, 44, 48, 59]
def txl (j : Nat) : Int32 := txt0.getD j 0
theorem txl_b : ∀ j, j < 26 → ((txl j &&& 255).toUInt32 % 65536).toInt32 = txl j ∧ narrow .char (.int (txl j)) = .int (txl j) := by decide +kernel
def StrW (G : GG) (sK sV : Nat) (U : State) (H : Heap) : Prop :=
  va_O "java/lang/String" sK (Ab G) U H ∧ va_OF "java/lang/String" "coder" "B" (.int 0) sK (Ab G) U H ∧ va_OF "java/lang/String" "value" "[B" (.ref sV) sK (Ab G) U H ∧ va_T .byte sV 26 (fun j => .int (txl j)) (Ab G) U H ∧ va_Z "java/lang/String" "COMPACT_STRINGS" "Z" (.int 1) (Ab G) U H ∧ va_Zq "jdk/internal/util/Preconditions" "SIOOBE_FORMATTER" "Ljava/util/function/BiFunction;" (Ab G) U H
theorem StrW.moved {G : GG} {sK sV : Nat} {u U : State} {H : Heap} (hvm : u.vm.Alike U.vm) (h : StrW G sK sV u H) : StrW G sK sV U H := ⟨h.1.moved hvm, h.2.1.moved hvm, h.2.2.1.moved hvm, h.2.2.2.1.moved hvm, h.2.2.2.2.1.moved hvm, h.2.2.2.2.2.moved hvm⟩
theorem StrW.kept {G : GG} {sK sV : Nat} {U : State} {H H1 : Heap} (h : StrW G sK sV U H) (hq : ∀ a : Nat, a < H.size → ¬ Ab G a → H1[a]? = H[a]?) : StrW G sK sV U H1 := ⟨h.1.kept hq, h.2.1.kept hq, h.2.2.1.kept hq, h.2.2.2.1.kept hq, h.2.2.2.2.1.kept hq, h.2.2.2.2.2.kept hq⟩
def StrOK (G : GG) (sK sV : Nat) (s : State) : Prop := vk_R RX11 89 "n9;p4;p4;p7;p12;c7,3;h5,0;" sK s ∧ StrW G sK sV s s.heap
/-- a contract of a method that leaves the heap -/
def CJ (l : Launch) (y : MethodName) (cd : Cond) (d : Nat) (av : List Value) (P : State → Prop) (r : Option Value) : Prop := Met l y (cd :: TT) (rmC d 0 0) (va_Pc av P) (fun _ st o t => o = .returned r ∧ t.heap = st.heap) 0 0 (fun _ => False)
def Cj (p : Program) (s : State) (m : MethodId) (args : Array Value) (meth : Method) (c : Code) (bytes : ByteArray) (own : String) (nL : Nat) (ret : Option FieldType) : Prop :=
  p.tables.exec = Jvm.exec ∧ c.code = bytes ∧ meth.sig.returnType = ret ∧ c.maxLocals = nL ∧ s.vm.findClass own = some m.cls ∧ (∀ w ∈ TT, w.before args s = true) ∧ meth.locks = false
theorem cj_of {l : Launch} {y : MethodName} {bytes : ByteArray} {maxL : Nat} {ret : Option FieldType} {d : Nat} {av : List Value} {P : State → Prop} {r : Option Value} (hy : plainName y.cls = true) (hav : (lg_sl av).length ≤ maxL)
    (body : ∀ (p : Program) (e : Env) (s : State) (m : MethodId) (below : List Frame) (meth : Method) (c : Code), Cj p s m av.toArray meth c bytes y.cls maxL ret → P s → ∀ ls : Array Slot, lv_has ls maxL (lv_args 0 av) →
      W p l e (rmC d 0 0) s m av.toArray below meth c s.heap [] 0 0 (MQ below (fun _ st o t => o = .returned r ∧ t.heap = st.heap) av.toArray s 0 0 (fun _ => False)) (F0 m 0 ls [])) :
    CJ l y (.code y bytes maxL ret) d av P r := by
  refine Met.ofW (cc := bytes) (maxL := maxL) (ret := ret) hy rfl ?_
  intro p e s m args below meth c s₁ B hml hv
  obtain ⟨rfl, hP⟩ := hv
  have hts := atoms_spec (ws := Cond.code y bytes maxL ret :: TT) B.pre
  have hl := lv_entry av (n := maxL) hav
  rw [lg_entry_eq]
  exact body p e s m below meth c ⟨B.exec, B.bytes, B.returns, hml, findClass_of_methodNamed B.named, fun w hw => hts w (List.mem_cons_of_mem _ hw), B.notSynchronized⟩ hP _ hl
section STRS
variable {p : Program} {l : Launch} {e : Env} {R : Room} {s : State} {m : MethodId} {args : Array Value} {below : List Frame} {meth : Method} {c : Code} {H : Heap} {locs : List Loc} {cells slots : Nat} {Q : State → Prop}
variable {cc : ByteArray} {pc : Nat} {ls : Array Slot} {rest st1 : List Value} {G : GG} {n : Nat} {h : Hp} {r : Option Value} {d d' mcR msR nL : Nat} {own : String} {idx : Nat} {y : MethodName} {bytes : ByteArray} {maxL np : Nat} {ret : Option FieldType} {As : List Value} {P : State → Prop} {sK sV : Nat}
theorem cj_go {st0 : List Value} {Qa : State → Outcome → State → Prop} (hQ : ∀ st o t, Qa st o t → o = .returned r ∧ t.heap = st.heap) (hr : va_Run p l e R s m args below meth c H locs cells slots 0 0 (F0 m pc ls st0) rest Qa (fun _ => False))
    (kk : W p l e R s m args below meth c H locs cells slots Q (F0 m (pc + 3) ls (r.toList ++ rest))) : W p l e R s m args below meth c H locs cells slots Q (F0 m pc ls st0) := by
  intro T hT XS
  obtain ⟨v, st₀, t, T', L, h0, X', hL, e1, e2, hq, st⟩ := hr T hT XS
  obtain ⟨hv, hh⟩ := hQ _ _ _ hq
  cases hv
  have hLn : L = [] := by
    cases L with
    | nil => rfl
    | cons a L => exact absurd (hL a List.mem_cons_self) id
  subst hLn
  rw [List.append_nil] at X'
  obtain ⟨t2, a1, b1⟩ := kk T' (by rw [e1, hh, h0]) X'
  exact ⟨t2, st t2 a1, b1⟩
theorem cj_pre {av : List Value} (hbl : ∀ (U : State) (g : JFrame) (mk : MethodId) (a : Array Value), P U → P (U.calling g mk a)) (hP : ∀ U : State, U.heap = H → s.WarmedH U.vm → P U) : PreS s H (va_Pc av P) av := ⟨fun a U g mk q => ⟨q.1, hbl U g mk a q.2⟩, fun U hU hW => ⟨rfl, hP U hU hW⟩⟩
theorem cj_S (hx : p.tables.exec = Jvm.exec) (hb : c.code = cc) (hml : c.maxLocals = nL) (hown : s.vm.findClass own = some m.cls) (hts : ∀ w ∈ TT, w.before args s = true) (hM : CJ l y (.code y bytes maxL ret) d' As P r) (hbl : ∀ (U : State) (g : JFrame) (mk : MethodId) (a : Array Value), P U → P (U.calling g mk a)) (hP : ∀ U : State, U.heap = H → s.WarmedH U.vm → P U)
    (hc : LC y bytes maxL ret np) (hl : LSt own idx y) (hd : d' < d) (hAs : As.length = np) (hls : ls.size = nL) (hrs : (rest.map fun v => v.category).sum ≤ 8) (hdg : decode cc pc = .ok (.invokestatic idx, 3)) (hst : r.toList ++ rest = st1) (hf : cells ≤ mcR ∧ slots ≤ msR)
    (kk : W p l e (rmC d mcR msR) s m args below meth c H locs cells slots Q (F0 m (pc + 3) ls st1)) : W p l e (rmC d mcR msR) s m args below meth c H locs cells slots Q (F0 m pc ls (As.reverse ++ rest)) := by
  subst hst
  exact cj_go (fun _ _ _ q => q) (va_runS (As := As) (rest := rest) ⟨hx, hb, hml, hown, hts⟩ hM ⟨c_B hts hc hl.1 hd, hts _ hl.2⟩ (cj_pre hbl hP) rfl hAs hls rfl (lv_room hrs) hdg hf) kk
theorem cj_V {a : Nat} (hx : p.tables.exec = Jvm.exec) (hb : c.code = cc) (hml : c.maxLocals = nL) (hown : s.vm.findClass own = some m.cls) (hts : ∀ w ∈ TT, w.before args s = true) (hM : CJ l y (.code y bytes maxL ret) d' (.ref a :: As) P r) (hbl : ∀ (U : State) (g : JFrame) (mk : MethodId) (a : Array Value), P U → P (U.calling g mk a)) (hP : ∀ U : State, U.heap = H → s.WarmedH U.vm → P U)
    (hrc : ∃ cell : Cell, H[a]? = some cell ∧ cell.vm.isStatics = false ∧ s.vm.findClass y.cls = some cell.cls) (hc : LC y bytes maxL ret np) (hl : LV own idx y) (hd : d' < d) (hAs : As.length = np) (hls : ls.size = nL) (hrs : (rest.map fun v => v.category).sum ≤ 8) (hdg : decode cc pc = .ok (.invokevirtual idx, 3)) (hst : r.toList ++ rest = st1) (hf : cells ≤ mcR ∧ slots ≤ msR)
    (kk : W p l e (rmC d mcR msR) s m args below meth c H locs cells slots Q (F0 m (pc + 3) ls st1)) : W p l e (rmC d mcR msR) s m args below meth c H locs cells slots Q (F0 m pc ls (As.reverse ++ .ref a :: rest)) := by
  subst hst
  exact cj_go (fun _ _ _ q => q) (va_runV (C := y.cls) (As := As) (rest := rest) ⟨hx, hb, hml, hown, hts⟩ hM ⟨c_B hts hc hl.1 hd, hts _ hl.2.1, hts _ hl.2.2⟩ ⟨(cj_pre (av := .ref a :: As) hbl hP).1, hrc, (cj_pre (av := .ref a :: As) hbl hP).2⟩ rfl hAs hls rfl (lv_room hrs) hdg hf) kk
theorem StrW.blind (G : GG) (sK sV : Nat) : ∀ (U : State) (g : JFrame) (mk : MethodId) (a : Array Value), StrW G sK sV U U.heap → StrW G sK sV (U.calling g mk a) (U.calling g mk a).heap := fun U g mk a q => q.moved (u := U) (U := U.calling g mk a) (Vm.Alike.refl U.vm)
theorem StrW.at (hS : StrW G sK sV s s.heap) (hV : va_S (Ab G) s.heap H locs) : ∀ U : State, U.heap = H → s.WarmedH U.vm → StrW G sK sV U U.heap := fun U hU hW => by
  rw [hU]
  exact (hS.kept hV.2.1).moved hW.alike
theorem s_fin {v : Int32} {ty : FieldType} (hx : p.tables.exec = Jvm.exec) (hb : c.code = cc) (hr : meth.sig.returnType = some ty) (hlocks : meth.locks = false) (hz : narrow ty (.int v) = .int v) (hdg : decode cc pc = .ok (.ireturn, 1)) :
    W p l e R s m args below meth c s.heap [] 0 0 (MQ below (fun _ st o t => o = .returned (some (.int v)) ∧ t.heap = st.heap) args s 0 0 (fun _ => False)) (F0 m pc ls [.int v]) :=
  W.zret hx hb hr hz (fun t ht hW => ⟨rfl, ht⟩) (fun q hq => absurd hq List.not_mem_nil) hdg hlocks
end STRS
def yJ0_length : MethodName := ⟨"java/lang/String", "length", "()I"⟩
abbrev bJ0_length : ByteArray := prog_17_method_54_code
theorem dJ0_length_0 : decode bJ0_length 0 = .ok (.aload_n 0, 1) := by decide +kernel
theorem dJ0_length_1 : decode bJ0_length 1 = .ok (.getfield 9, 3) := by decide +kernel
theorem dJ0_length_4 : decode bJ0_length 4 = .ok (.arraylength, 1) := by decide +kernel
theorem dJ0_length_5 : decode bJ0_length 5 = .ok (.aload_n 0, 1) := by decide +kernel
theorem dJ0_length_6 : decode bJ0_length 6 = .ok (.invokevirtual 335, 3) := by decide +kernel
theorem dJ0_length_9 : decode bJ0_length 9 = .ok (.ishr, 1) := by decide +kernel
theorem dJ0_length_10 : decode bJ0_length 10 = .ok (.ireturn, 1) := by decide +kernel
def yJ0_coder : MethodName := ⟨"java/lang/String", "coder", "()B"⟩
abbrev bJ0_coder : ByteArray := prog_17_method_152_code
theorem dJ0_coder_0 : decode bJ0_coder 0 = .ok (.getstatic 38, 3) := by decide +kernel
theorem dJ0_coder_3 : decode bJ0_coder 3 = .ok (.ifCond .eq 10, 3) := by decide +kernel
theorem dJ0_coder_6 : decode bJ0_coder 6 = .ok (.aload_n 0, 1) := by decide +kernel
theorem dJ0_coder_7 : decode bJ0_coder 7 = .ok (.getfield 15, 3) := by decide +kernel
theorem dJ0_coder_10 : decode bJ0_coder 10 = .ok (.goto 4, 3) := by decide +kernel
theorem dJ0_coder_13 : decode bJ0_coder 13 = .ok (.iconst 1, 1) := by decide +kernel
theorem dJ0_coder_14 : decode bJ0_coder 14 = .ok (.ireturn, 1) := by decide +kernel
def yJ0_charAt : MethodName := ⟨"java/lang/String", "charAt", "(I)C"⟩
abbrev bJ0_charAt : ByteArray := prog_17_method_56_code
theorem dJ0_charAt_0 : decode bJ0_charAt 0 = .ok (.aload_n 0, 1) := by decide +kernel
theorem dJ0_charAt_1 : decode bJ0_charAt 1 = .ok (.invokevirtual 492, 3) := by decide +kernel
theorem dJ0_charAt_4 : decode bJ0_charAt 4 = .ok (.ifCond .eq 12, 3) := by decide +kernel
theorem dJ0_charAt_7 : decode bJ0_charAt 7 = .ok (.aload_n 0, 1) := by decide +kernel
theorem dJ0_charAt_8 : decode bJ0_charAt 8 = .ok (.getfield 9, 3) := by decide +kernel
theorem dJ0_charAt_11 : decode bJ0_charAt 11 = .ok (.iload_n 1, 1) := by decide +kernel
theorem dJ0_charAt_12 : decode bJ0_charAt 12 = .ok (.invokestatic 495, 3) := by decide +kernel
theorem dJ0_charAt_15 : decode bJ0_charAt 15 = .ok (.ireturn, 1) := by decide +kernel
theorem dJ0_charAt_16 : decode bJ0_charAt 16 = .ok (.aload_n 0, 1) := by decide +kernel
theorem dJ0_charAt_17 : decode bJ0_charAt 17 = .ok (.getfield 9, 3) := by decide +kernel
theorem dJ0_charAt_20 : decode bJ0_charAt 20 = .ok (.iload_n 1, 1) := by decide +kernel
theorem dJ0_charAt_21 : decode bJ0_charAt 21 = .ok (.invokestatic 498, 3) := by decide +kernel
theorem dJ0_charAt_24 : decode bJ0_charAt 24 = .ok (.ireturn, 1) := by decide +kernel
def yJ0_isLatin1 : MethodName := ⟨"java/lang/String", "isLatin1", "()Z"⟩
abbrev bJ0_isLatin1 : ByteArray := prog_17_method_154_code
theorem dJ0_isLatin1_0 : decode bJ0_isLatin1 0 = .ok (.getstatic 38, 3) := by decide +kernel
theorem dJ0_isLatin1_3 : decode bJ0_isLatin1 3 = .ok (.ifCond .eq 14, 3) := by decide +kernel
theorem dJ0_isLatin1_6 : decode bJ0_isLatin1 6 = .ok (.aload_n 0, 1) := by decide +kernel
theorem dJ0_isLatin1_7 : decode bJ0_isLatin1 7 = .ok (.getfield 15, 3) := by decide +kernel
theorem dJ0_isLatin1_10 : decode bJ0_isLatin1 10 = .ok (.ifCond .ne 7, 3) := by decide +kernel
theorem dJ0_isLatin1_13 : decode bJ0_isLatin1 13 = .ok (.iconst 1, 1) := by decide +kernel
theorem dJ0_isLatin1_14 : decode bJ0_isLatin1 14 = .ok (.goto 4, 3) := by decide +kernel
theorem dJ0_isLatin1_17 : decode bJ0_isLatin1 17 = .ok (.iconst 0, 1) := by decide +kernel
theorem dJ0_isLatin1_18 : decode bJ0_isLatin1 18 = .ok (.ireturn, 1) := by decide +kernel
def yJ1_charAt : MethodName := ⟨"java/lang/StringLatin1", "charAt", "([BI)C"⟩
abbrev bJ1_charAt : ByteArray := prog_18_method_2_code
theorem dJ1_charAt_0 : decode bJ1_charAt 0 = .ok (.iload_n 1, 1) := by decide +kernel
theorem dJ1_charAt_1 : decode bJ1_charAt 1 = .ok (.aload_n 0, 1) := by decide +kernel
theorem dJ1_charAt_2 : decode bJ1_charAt 2 = .ok (.arraylength, 1) := by decide +kernel
theorem dJ1_charAt_3 : decode bJ1_charAt 3 = .ok (.invokestatic 9, 3) := by decide +kernel
theorem dJ1_charAt_6 : decode bJ1_charAt 6 = .ok (.aload_n 0, 1) := by decide +kernel
theorem dJ1_charAt_7 : decode bJ1_charAt 7 = .ok (.iload_n 1, 1) := by decide +kernel
theorem dJ1_charAt_8 : decode bJ1_charAt 8 = .ok (.baload, 1) := by decide +kernel
theorem dJ1_charAt_9 : decode bJ1_charAt 9 = .ok (.sipush 255, 3) := by decide +kernel
theorem dJ1_charAt_12 : decode bJ1_charAt 12 = .ok (.iand, 1) := by decide +kernel
theorem dJ1_charAt_13 : decode bJ1_charAt 13 = .ok (.i2c, 1) := by decide +kernel
theorem dJ1_charAt_14 : decode bJ1_charAt 14 = .ok (.ireturn, 1) := by decide +kernel
def yJ0_checkIndex : MethodName := ⟨"java/lang/String", "checkIndex", "(II)V"⟩
abbrev bJ0_checkIndex : ByteArray := prog_17_method_155_code
theorem dJ0_checkIndex_0 : decode bJ0_checkIndex 0 = .ok (.iload_n 0, 1) := by decide +kernel
theorem dJ0_checkIndex_1 : decode bJ0_checkIndex 1 = .ok (.iload_n 1, 1) := by decide +kernel
theorem dJ0_checkIndex_2 : decode bJ0_checkIndex 2 = .ok (.getstatic 1053, 3) := by decide +kernel
theorem dJ0_checkIndex_5 : decode bJ0_checkIndex 5 = .ok (.invokestatic 1059, 3) := by decide +kernel
theorem dJ0_checkIndex_8 : decode bJ0_checkIndex 8 = .ok (.pop, 1) := by decide +kernel
theorem dJ0_checkIndex_9 : decode bJ0_checkIndex 9 = .ok (.return_, 1) := by decide +kernel
def yJ3_checkIndex : MethodName := ⟨"jdk/internal/util/Preconditions", "checkIndex", "(IILjava/util/function/BiFunction;)I"⟩
abbrev bJ3_checkIndex : ByteArray := prog_21_method_11_code
theorem dJ3_checkIndex_0 : decode bJ3_checkIndex 0 = .ok (.iload_n 0, 1) := by decide +kernel
theorem dJ3_checkIndex_1 : decode bJ3_checkIndex 1 = .ok (.ifCond .lt 8, 3) := by decide +kernel
theorem dJ3_checkIndex_4 : decode bJ3_checkIndex 4 = .ok (.iload_n 0, 1) := by decide +kernel
theorem dJ3_checkIndex_5 : decode bJ3_checkIndex 5 = .ok (.iload_n 1, 1) := by decide +kernel
theorem dJ3_checkIndex_6 : decode bJ3_checkIndex 6 = .ok (.if_icmp .lt 10, 3) := by decide +kernel
theorem dJ3_checkIndex_9 : decode bJ3_checkIndex 9 = .ok (.aload_n 2, 1) := by decide +kernel
theorem dJ3_checkIndex_10 : decode bJ3_checkIndex 10 = .ok (.iload_n 0, 1) := by decide +kernel
theorem dJ3_checkIndex_11 : decode bJ3_checkIndex 11 = .ok (.iload_n 1, 1) := by decide +kernel
theorem dJ3_checkIndex_12 : decode bJ3_checkIndex 12 = .ok (.invokestatic 95, 3) := by decide +kernel
theorem dJ3_checkIndex_16 : decode bJ3_checkIndex 16 = .ok (.iload_n 0, 1) := by decide +kernel
theorem dJ3_checkIndex_17 : decode bJ3_checkIndex 17 = .ok (.ireturn, 1) := by decide +kernel
set_option maxRecDepth 100000 in
theorem lc_coder : LC yJ0_coder bJ0_coder 1 (some .byte) 0 := ⟨mt (i := 429) (by first | rfl | decide +kernel) (by decide +kernel), mt (i := 65) (by decide +kernel) (by decide +kernel), ⟨by decide +kernel, by decide +kernel, by decide +kernel⟩, by decide⟩
set_option maxRecDepth 100000 in
theorem lc_isLatin1 : LC yJ0_isLatin1 bJ0_isLatin1 1 (some .boolean) 0 := ⟨mt (i := 439) (by first | rfl | decide +kernel) (by decide +kernel), mt (i := 65) (by decide +kernel) (by decide +kernel), ⟨by decide +kernel, by decide +kernel, by decide +kernel⟩, by decide⟩
set_option maxRecDepth 100000 in
theorem lc_length : LC yJ0_length bJ0_length 1 (some .int) 0 := ⟨mt (i := 425) (by first | rfl | decide +kernel) (by decide +kernel), mt (i := 65) (by decide +kernel) (by decide +kernel), ⟨by decide +kernel, by decide +kernel, by decide +kernel⟩, by decide⟩
set_option maxRecDepth 100000 in
theorem lc_charAt : LC yJ0_charAt bJ0_charAt 2 (some .char) 1 := ⟨mt (i := 435) (by first | rfl | decide +kernel) (by decide +kernel), mt (i := 65) (by decide +kernel) (by decide +kernel), ⟨by decide +kernel, by decide +kernel, by decide +kernel⟩, by decide⟩
set_option maxRecDepth 100000 in
theorem lc_chL : LC yJ1_charAt bJ1_charAt 2 (some .char) 2 := ⟨mt (i := 442) (by first | rfl | decide +kernel) (by decide +kernel), mt (i := 66) (by decide +kernel) (by decide +kernel), ⟨by decide +kernel, by decide +kernel, by decide +kernel⟩, by decide⟩
set_option maxRecDepth 100000 in
theorem lc_chk0 : LC yJ0_checkIndex bJ0_checkIndex 2 none 2 := ⟨mt (i := 445) (by first | rfl | decide +kernel) (by decide +kernel), mt (i := 65) (by decide +kernel) (by decide +kernel), ⟨by decide +kernel, by decide +kernel, by decide +kernel⟩, by decide⟩
set_option maxRecDepth 100000 in
theorem lc_chk3 : LC yJ3_checkIndex bJ3_checkIndex 3 (some .int) 3 := ⟨mt (i := 450) (by first | rfl | decide +kernel) (by decide +kernel), mt (i := 67) (by decide +kernel) (by decide +kernel), ⟨by decide +kernel, by decide +kernel, by decide +kernel⟩, by decide⟩
theorem lv_coder : LV "java/lang/String" 335 yJ0_coder := ⟨mt (i := 426) (by decide +kernel) (by decide +kernel), mt (i := 427) (by decide +kernel) (by decide +kernel), mt (i := 428) (by decide +kernel) (by decide +kernel)⟩
theorem lv_isLatin1 : LV "java/lang/String" 492 yJ0_isLatin1 := ⟨mt (i := 436) (by decide +kernel) (by decide +kernel), mt (i := 437) (by decide +kernel) (by decide +kernel), mt (i := 438) (by decide +kernel) (by decide +kernel)⟩
theorem lv_length : LV RX11 91 yJ0_length := ⟨mt (i := 422) (by decide +kernel) (by decide +kernel), mt (i := 423) (by decide +kernel) (by decide +kernel), mt (i := 424) (by decide +kernel) (by decide +kernel)⟩
theorem lv_charAt : LV RX11 97 yJ0_charAt := ⟨mt (i := 432) (by decide +kernel) (by decide +kernel), mt (i := 433) (by decide +kernel) (by decide +kernel), mt (i := 434) (by decide +kernel) (by decide +kernel)⟩
theorem ls_chL : LSt "java/lang/String" 495 yJ1_charAt := ⟨mt (i := 440) (by decide +kernel) (by decide +kernel), mt (i := 441) (by decide +kernel) (by decide +kernel)⟩
theorem ls_chk0 : LSt "java/lang/StringLatin1" 9 yJ0_checkIndex := ⟨mt (i := 443) (by decide +kernel) (by decide +kernel), mt (i := 444) (by decide +kernel) (by decide +kernel)⟩
theorem ls_chk3 : LSt "java/lang/String" 1059 yJ3_checkIndex := ⟨mt (i := 448) (by decide +kernel) (by decide +kernel), mt (i := 449) (by decide +kernel) (by decide +kernel)⟩
theorem ls_cs : Cond.fieldLink "java/lang/String" 38 "java/lang/String" "COMPACT_STRINGS" "Z" ∈ TT := mt (i := 430) (by decide +kernel) (by decide +kernel)
theorem ls_co : Cond.fieldLink "java/lang/String" 15 "java/lang/String" "coder" "B" ∈ TT := mt (i := 1380) (by decide +kernel) (by decide +kernel)
theorem ls_va : Cond.fieldLink "java/lang/String" 9 "java/lang/String" "value" "[B" ∈ TT := mt (i := 1379) (by decide +kernel) (by decide +kernel)
theorem ls_si : Cond.fieldLink "java/lang/String" 1053 "jdk/internal/util/Preconditions" "SIOOBE_FORMATTER" "Ljava/util/function/BiFunction;" ∈ TT := mt (i := 446) (by decide +kernel) (by decide +kernel)
set_option maxRecDepth 100000
theorem k_coder (l : Launch) (G : GG) (sK sV : Nat) : CJ l yJ0_coder (.code yJ0_coder bJ0_coder 1 (some .byte)) 0 [.ref sK] (fun U => StrW G sK sV U U.heap) (some (.int 0)) := by
  refine cj_of (by decide) (Nat.le_of_ble_eq_true rfl) (fun p e s m below meth c C0 hS ls hl => ?_)
  have hl : lv_has ls 1 [(0, .ref sK)] := hl
  obtain ⟨hx, hb, hr, hml, hown, hts, hlocks⟩ := C0
  refine va_gets hx hb hS.2.2.2.2.1 va_S.rf hown (hts _ ls_cs) (fun _ z => z) dJ0_coder_0 ?_
  refine lv_if_eq (tgt := 13) hx hb dJ0_coder_3 (by decide) (fun z => absurd z (by decide)) (fun _ => ?_)
  refine lv_aload_n hx hb dJ0_coder_6 rfl (lv_at hl 0 rfl) ?_
  refine vk_getf hx hb hS.2.1 va_S.rf hown (hts _ ls_co) (fun _ z => z) dJ0_coder_7 ?_
  refine lv_goto (tgt := 14) hx hb dJ0_coder_10 (by decide) ?_
  exact s_fin hx hb hr hlocks rfl dJ0_coder_14
theorem k_isLatin1 (l : Launch) (G : GG) (sK sV : Nat) : CJ l yJ0_isLatin1 (.code yJ0_isLatin1 bJ0_isLatin1 1 (some .boolean)) 0 [.ref sK] (fun U => StrW G sK sV U U.heap) (some (.int 1)) := by
  refine cj_of (by decide) (Nat.le_of_ble_eq_true rfl) (fun p e s m below meth c C0 hS ls hl => ?_)
  have hl : lv_has ls 1 [(0, .ref sK)] := hl
  obtain ⟨hx, hb, hr, hml, hown, hts, hlocks⟩ := C0
  refine va_gets hx hb hS.2.2.2.2.1 va_S.rf hown (hts _ ls_cs) (fun _ z => z) dJ0_isLatin1_0 ?_
  refine lv_if_eq (tgt := 17) hx hb dJ0_isLatin1_3 (by decide) (fun z => absurd z (by decide)) (fun _ => ?_)
  refine lv_aload_n hx hb dJ0_isLatin1_6 rfl (lv_at hl 0 rfl) ?_
  refine vk_getf hx hb hS.2.1 va_S.rf hown (hts _ ls_co) (fun _ z => z) dJ0_isLatin1_7 ?_
  refine lv_if_ne (tgt := 17) hx hb dJ0_isLatin1_10 (by decide) (fun z => absurd rfl z) (fun _ => ?_)
  refine lv_iconst (v := 1) hx hb dJ0_isLatin1_13 (by decide) ?_
  refine lv_goto (tgt := 18) hx hb dJ0_isLatin1_14 (by decide) ?_
  exact s_fin hx hb hr hlocks rfl dJ0_isLatin1_18
theorem k_length (l : Launch) (G : GG) (sK sV : Nat) : CJ l yJ0_length (.code yJ0_length bJ0_length 1 (some .int)) 1 [.ref sK] (fun U => StrW G sK sV U U.heap) (some (.int 26)) := by
  refine cj_of (by decide) (Nat.le_of_ble_eq_true rfl) (fun p e s m below meth c C0 hS ls hl => ?_)
  have hl : lv_has ls 1 [(0, .ref sK)] := hl
  obtain ⟨hx, hb, hr, hml, hown, hts, hlocks⟩ := C0
  refine lv_aload_n hx hb dJ0_length_0 rfl (lv_at hl 0 rfl) ?_
  refine vk_getf hx hb hS.2.2.1 va_S.rf hown (hts _ ls_va) (fun _ z => z) dJ0_length_1 ?_
  refine va_tlen (v := 26) hx hb hS.2.2.2.1 va_S.rf rfl dJ0_length_4 ?_
  refine lv_aload_n hx hb dJ0_length_5 rfl (lv_at hl 0 rfl) ?_
  obtain ⟨cell, g1, g2, g3, g4⟩ := hS.1
  refine cj_V (As := []) (rest := [.int 26]) (st1 := [.int 0, .int 26]) hx hb hml hown hts (k_coder l G sK sV) (StrW.blind G sK sV) (StrW.at hS va_S.rf) ⟨cell, g1, g2, g3⟩ lc_coder lv_coder (by decide) rfl hl.1 (Nat.le_of_ble_eq_true rfl) dJ0_length_6 rfl ⟨by decide, by decide⟩ ?_
  refine lv_ishr hx hb dJ0_length_9 ?_
  exact s_fin hx hb hr hlocks rfl dJ0_length_10
theorem k_chk3 (l : Launch) (i : Int32) (v : Value) (hv : v = .null ∨ ∃ t, v = .ref t) (hi : inr i 26 = true) : CJ l yJ3_checkIndex (.code yJ3_checkIndex bJ3_checkIndex 3 (some .int)) 0 [.int i, .int 26, v] (fun _ => True) (some (.int i)) := by
  have hz : ¬ i < 0 ∧ i < 26 := by
    simp only [inr, Bool.and_eq_true, decide_eq_true_eq] at hi
    refine ⟨fun q => ?_, ?_⟩
    · have := Int32.lt_iff_toInt_lt.mp q
      have : (0 : Int32).toInt = 0 := rfl
      omega
    · refine Int32.lt_iff_toInt_lt.mpr ?_
      have : (26 : Int32).toInt = 26 := rfl
      omega
  refine cj_of (by decide) ?_ (fun p e s m below meth c C0 hS ls hl => ?_)
  · rcases hv with rfl | ⟨t, rfl⟩ <;> exact Nat.le_of_ble_eq_true rfl
  have hl : lv_has ls 3 [(0, .int i), (1, .int 26)] := by
    rcases hv with rfl | ⟨t, rfl⟩ <;> exact lv_sub hl [0, 1] rfl
  obtain ⟨hx, hb, hr, hml, hown, hts, hlocks⟩ := C0
  refine lv_iload_n hx hb dJ3_checkIndex_0 rfl (lv_at hl 0 rfl) ?_
  refine lv_if_lt (tgt := 9) hx hb dJ3_checkIndex_1 (by decide) (fun z => absurd z hz.1) (fun _ => ?_)
  refine lv_iload_n hx hb dJ3_checkIndex_4 rfl (lv_at hl 0 rfl) ?_
  refine lv_iload_n hx hb dJ3_checkIndex_5 rfl (lv_at hl 1 rfl) ?_
  refine lv_icmp_lt (tgt := 16) hx hb dJ3_checkIndex_6 (by decide) (fun _ => ?_) (fun z => absurd hz.2 z)
  refine lv_iload_n hx hb dJ3_checkIndex_16 rfl (lv_at hl 0 rfl) ?_
  exact s_fin hx hb hr hlocks rfl dJ3_checkIndex_17
theorem k_chk0 (l : Launch) (G : GG) (sK sV : Nat) (i : Int32) (hi : inr i 26 = true) : CJ l yJ0_checkIndex (.code yJ0_checkIndex bJ0_checkIndex 2 none) 1 [.int i, .int 26] (fun U => StrW G sK sV U U.heap) none := by
  refine cj_of (by decide) (Nat.le_of_ble_eq_true rfl) (fun p e s m below meth c C0 hS ls hl => ?_)
  have hl : lv_has ls 2 [(0, .int i), (1, .int 26)] := hl
  obtain ⟨hx, hb, hr, hml, hown, hts, hlocks⟩ := C0
  refine lv_iload_n hx hb dJ0_checkIndex_0 rfl (lv_at hl 0 rfl) ?_
  refine lv_iload_n hx hb dJ0_checkIndex_1 rfl (lv_at hl 1 rfl) ?_
  have fin : ∀ v : Value, (v = .null ∨ ∃ t, v = .ref t) → va_Z "jdk/internal/util/Preconditions" "SIOOBE_FORMATTER" "Ljava/util/function/BiFunction;" v (Ab G) s s.heap → W p l e (rmC 1 0 0) s m #[.int i, .int 26] below meth c s.heap [] 0 0 (MQ below (fun _ st o t => o = .returned none ∧ t.heap = st.heap) #[.int i, .int 26] s 0 0 (fun _ => False)) (F0 m 2 ls [.int 26, .int i]) := by
    intro v hv hZ
    refine va_gets hx hb hZ va_S.rf hown (hts _ ls_si) (fun _ z => z) dJ0_checkIndex_2 ?_
    refine cj_S (As := [.int i, .int 26, v]) (rest := []) (st1 := [.int i]) hx hb hml hown hts (k_chk3 l i v hv hi) (fun _ _ _ _ _ => trivial) (fun _ _ _ => trivial) lc_chk3 ls_chk3 (by decide) rfl hl.1 (Nat.le_of_ble_eq_true rfl) dJ0_checkIndex_5 rfl ⟨by decide, by decide⟩ ?_
    refine lv_pop hx hb dJ0_checkIndex_8 rfl ?_
    exact W.vret hx hb hr (fun t ht hW => ⟨rfl, ht⟩) (fun q hq => absurd hq List.not_mem_nil) dJ0_checkIndex_9 hlocks
  rcases hS.2.2.2.2.2 with hZ | ⟨t, hZ⟩
  · exact fin _ (Or.inl rfl) hZ
  · exact fin _ (Or.inr ⟨t, rfl⟩) hZ
theorem k_chL (l : Launch) (G : GG) (sK sV : Nat) (i : Int32) (hi : inr i 26 = true) : CJ l yJ1_charAt (.code yJ1_charAt bJ1_charAt 2 (some .char)) 2 [.ref sV, .int i] (fun U => StrW G sK sV U U.heap) (some (.int (txl i.toNatClampNeg))) := by
  have hin := inr_in hi
  have hlt : i.toNatClampNeg < 26 := Nat.not_le.mp fun q => hin (Or.inr q)
  have hb2 := txl_b i.toNatClampNeg hlt
  refine cj_of (by decide) (Nat.le_of_ble_eq_true rfl) (fun p e s m below meth c C0 hS ls hl => ?_)
  have hl : lv_has ls 2 [(0, .ref sV), (1, .int i)] := hl
  obtain ⟨hx, hb, hr, hml, hown, hts, hlocks⟩ := C0
  refine lv_iload_n hx hb dJ1_charAt_0 rfl (lv_at hl 1 rfl) ?_
  refine lv_aload_n hx hb dJ1_charAt_1 rfl (lv_at hl 0 rfl) ?_
  refine va_tlen (v := 26) hx hb hS.2.2.2.1 va_S.rf rfl dJ1_charAt_2 ?_
  refine cj_S (As := [.int i, .int 26]) (rest := []) (st1 := []) hx hb hml hown hts (k_chk0 l G sK sV i hi) (StrW.blind G sK sV) (StrW.at hS va_S.rf) lc_chk0 ls_chk0 (by decide) rfl hl.1 (Nat.le_of_ble_eq_true rfl) dJ1_charAt_3 rfl ⟨by decide, by decide⟩ ?_
  refine lv_aload_n hx hb dJ1_charAt_6 rfl (lv_at hl 0 rfl) ?_
  refine lv_iload_n hx hb dJ1_charAt_7 rfl (lv_at hl 1 rfl) ?_
  refine va_tb (v := .int (txl i.toNatClampNeg)) hx hb hS.2.2.2.1 va_S.rf hin rfl dJ1_charAt_8 ?_
  refine lv_sipush (v := 255) hx hb dJ1_charAt_9 (by decide) ?_
  refine lv_iand hx hb dJ1_charAt_12 ?_
  refine lv_i2c (v := txl i.toNatClampNeg) hx hb dJ1_charAt_13 hb2.1 ?_
  exact s_fin hx hb hr hlocks hb2.2 dJ1_charAt_14
theorem k_charAt (l : Launch) (G : GG) (sK sV : Nat) (i : Int32) (hi : inr i 26 = true) : CJ l yJ0_charAt (.code yJ0_charAt bJ0_charAt 2 (some .char)) 3 [.ref sK, .int i] (fun U => StrW G sK sV U U.heap) (some (.int (txl i.toNatClampNeg))) := by
  have hin := inr_in hi
  have hlt : i.toNatClampNeg < 26 := Nat.not_le.mp fun q => hin (Or.inr q)
  refine cj_of (by decide) (Nat.le_of_ble_eq_true rfl) (fun p e s m below meth c C0 hS ls hl => ?_)
  have hl : lv_has ls 2 [(0, .ref sK), (1, .int i)] := hl
  obtain ⟨hx, hb, hr, hml, hown, hts, hlocks⟩ := C0
  obtain ⟨cell, g1, g2, g3, g4⟩ := hS.1
  refine lv_aload_n hx hb dJ0_charAt_0 rfl (lv_at hl 0 rfl) ?_
  refine cj_V (As := []) (rest := []) (st1 := [.int 1]) hx hb hml hown hts (k_isLatin1 l G sK sV) (StrW.blind G sK sV) (StrW.at hS va_S.rf) ⟨cell, g1, g2, g3⟩ lc_isLatin1 lv_isLatin1 (by decide) rfl hl.1 (Nat.le_of_ble_eq_true rfl) dJ0_charAt_1 rfl ⟨by decide, by decide⟩ ?_
  refine lv_if_eq (tgt := 16) hx hb dJ0_charAt_4 (by decide) (fun z => absurd z (by decide)) (fun _ => ?_)
  refine lv_aload_n hx hb dJ0_charAt_7 rfl (lv_at hl 0 rfl) ?_
  refine vk_getf hx hb hS.2.2.1 va_S.rf hown (hts _ ls_va) (fun _ z => z) dJ0_charAt_8 ?_
  refine lv_iload_n hx hb dJ0_charAt_11 rfl (lv_at hl 1 rfl) ?_
  refine cj_S (As := [.ref sV, .int i]) (rest := []) (st1 := [.int (txl i.toNatClampNeg)]) hx hb hml hown hts (k_chL l G sK sV i hi) (StrW.blind G sK sV) (StrW.at hS va_S.rf) lc_chL ls_chL (by decide) rfl hl.1 (Nat.le_of_ble_eq_true rfl) dJ0_charAt_12 rfl ⟨by decide, by decide⟩ ?_
  exact s_fin hx hb hr hlocks (txl_b _ hlt).2 dJ0_charAt_15
section STRC
variable {p : Program} {l : Launch} {e : Env} {s : State} {m : MethodId} {args : Array Value} {below : List Frame} {meth : Method} {c : Code} {H : Heap} {locs : List Loc} {cells slots : Nat} {Q : State → Prop}
variable {cc : ByteArray} {pc : Nat} {ls : Array Slot} {rest : List Value} {G : GG} {n : Nat} {h : Hp} {d mcR msR nL : Nat} {sK sV : Nat} {R : Room}
theorem s_ldc (hx : p.tables.exec = Jvm.exec) (hb : c.code = cc) (hown : s.vm.findClass RX11 = some m.cls) (hS : StrOK G sK sV s) (hdg : decode cc pc = .ok (.ldc 89, 2))
    (kk : W p l e R s m args below meth c H locs cells slots Q (F0 m (pc + 2) ls (.ref sK :: rest))) : W p l e R s m args below meth c H locs cells slots Q (F0 m pc ls rest) := va_ldcS hx hb hown hS.1 hdg kk
theorem s_len (hx : p.tables.exec = Jvm.exec) (hb : c.code = cc) (hml : c.maxLocals = nL) (hls : ls.size = nL) (hown : s.vm.findClass RX11 = some m.cls) (hts : ∀ w ∈ TT, w.before args s = true) (hS : StrOK G sK sV s) (X : XW G n h s cells H locs) (hd : 1 < d) (hrs : (rest.map fun v => v.category).sum ≤ 8) (hf : cells ≤ mcR ∧ slots ≤ msR) (hdg : decode cc pc = .ok (.invokevirtual 91, 3))
    (kk : W p l e (rmC d mcR msR) s m args below meth c H locs cells slots Q (F0 m (pc + 3) ls (.int 26 :: rest))) : W p l e (rmC d mcR msR) s m args below meth c H locs cells slots Q (F0 m pc ls (.ref sK :: rest)) := by
  obtain ⟨cell, g1, g2, g3, g4⟩ := hS.2.1.kept X.2.1.2.1
  exact cj_V (As := []) (rest := rest) (st1 := .int 26 :: rest) hx hb hml hown hts (k_length l G sK sV) (StrW.blind G sK sV) (StrW.at hS.2 X.2.1) ⟨cell, g1, g2, g3⟩ lc_length lv_length hd rfl hls hrs hdg rfl hf kk
theorem s_chr {i : Int32} (hx : p.tables.exec = Jvm.exec) (hb : c.code = cc) (hml : c.maxLocals = nL) (hls : ls.size = nL) (hown : s.vm.findClass RX11 = some m.cls) (hts : ∀ w ∈ TT, w.before args s = true) (hS : StrOK G sK sV s) (X : XW G n h s cells H locs) (hi : inr i 26 = true) (hd : 3 < d) (hrs : (rest.map fun v => v.category).sum ≤ 8) (hf : cells ≤ mcR ∧ slots ≤ msR) (hdg : decode cc pc = .ok (.invokevirtual 97, 3))
    (kk : W p l e (rmC d mcR msR) s m args below meth c H locs cells slots Q (F0 m (pc + 3) ls (.int (txl i.toNatClampNeg) :: rest))) : W p l e (rmC d mcR msR) s m args below meth c H locs cells slots Q (F0 m pc ls (.int i :: .ref sK :: rest)) := by
  obtain ⟨cell, g1, g2, g3, g4⟩ := hS.2.1.kept X.2.1.2.1
  exact cj_V (As := [.int i]) (rest := rest) (st1 := .int (txl i.toNatClampNeg) :: rest) hx hb hml hown hts (k_charAt l G sK sV i hi) (StrW.blind G sK sV) (StrW.at hS.2 X.2.1) ⟨cell, g1, g2, g3⟩ lc_charAt lv_charAt hd rfl hls hrs hdg rfl hf kk
end STRC
/-- the contract of the constructor that reads the constant -/
def CTS (sK sV : Nat) (l : Launch) (G : GG) (n n' : Nat) (y : MethodName) (cd : Cond) (d mc ms : Nat) (av : List Value) (h h' : Hp) (r : Option Value) : Prop :=
  Met l y (cd :: TT) (rmC d mc ms) (va_Pc av (fun U => Wd G n h U.heap ∧ Ks G U ∧ StrOK G sK sV U)) (QP G n' h' r) mc ms (Ab G)
theorem cts_of {sK sV : Nat} {l : Launch} {G : GG} {n n' : Nat} {y : MethodName} {bytes : ByteArray} {maxL : Nat} {ret : Option FieldType} {d mc ms : Nat} {av : List Value} {h h' : Hp} {r : Option Value} (hy : plainName y.cls = true) (hav : (lg_sl av).length ≤ maxL)
    (body : ∀ (p : Program) (e : Env) (s : State) (m : MethodId) (below : List Frame) (meth : Method) (c : Code), Cx p s m av.toArray meth c G bytes y.cls maxL ret y.name → XW G n h s 0 s.heap [] → StrOK G sK sV s → ∀ ls : Array Slot, lv_has ls maxL (lv_args 0 av) →
      W p l e (rmC d mc ms) s m av.toArray below meth c s.heap [] 0 0 (MQ below (QP G n' h' r) av.toArray s mc ms (Ab G)) (F0 m 0 ls [])) :
    CTS sK sV l G n n' y (.code y bytes maxL ret) d mc ms av h h' r := by
  refine Met.ofW (cc := bytes) (maxL := maxL) (ret := ret) hy rfl ?_
  intro p e s m args below meth c s₁ B hml hv
  obtain ⟨rfl, hW, hK, hS⟩ := hv
  have hts := atoms_spec (ws := Cond.code y bytes maxL ret :: TT) B.pre
  have hl := lv_entry av (n := maxL) hav
  rw [lg_entry_eq]
  exact body p e s m below meth c ⟨B.exec, B.bytes, B.returns, hml, findClass_of_methodNamed B.named, fun w hw => hts w (List.mem_cons_of_mem _ hw), hK, B.notSynchronized, (name_of_methodNamed B.named B.method).1⟩
    ⟨hW.1, va_S.rf, hW.2, by rw [hW.2]; omega⟩ hS _ hl
