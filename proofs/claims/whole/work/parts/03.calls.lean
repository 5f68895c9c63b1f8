/-! calls and returns over the flat picture -/
def LC (y : MethodName) (bytes : ByteArray) (maxL : Nat) (ret : Option FieldType) (np : Nat) : Prop := Cond.code y bytes maxL ret ∈ TT ∧ Cond.initialized y.cls ∈ TT ∧ (y.cls ≠ "java/lang/invoke/MethodHandle" ∧ y.cls ≠ "java/lang/invoke/VarHandle" ∧ (parseMethodDescriptor y.desc).map (fun d => d.parameters.length) = some np) ∧ maxL ≤ 41
/-- by a plain link, or by a nest mate's -/
def LV (own : String) (idx : Nat) (y : MethodName) : Prop := Cond.methodLink own idx y ∈ TT ∧ Cond.instanceMethod y ∈ TT ∧ Cond.selects y.cls y y ∈ TT
def LSt (own : String) (idx : Nat) (y : MethodName) : Prop := Cond.methodLink own idx y ∈ TT ∧ Cond.static y ∈ TT
def LSN (own : String) (idx : Nat) (y : MethodName) : Prop := Cond.methodLinkNest own idx y RX11 ∈ lw_tbl ∧ Cond.static y ∈ TT
def LI (own : String) (idx : Nat) (y : MethodName) : Prop := Cond.methodLink own idx y ∈ TT ∧ Cond.instanceMethod y ∈ TT ∧ y.name = "<init>"
def LIN (own : String) (idx : Nat) (y : MethodName) : Prop := Cond.methodLinkNest own idx y RX11 ∈ lw_tbl ∧ Cond.instanceMethod y ∈ TT ∧ y.name = "<init>"
section CALLS
variable {p : Program} {l : Launch} {e : Env} {R : Room} {s : State} {m : MethodId} {args : Array Value} {below : List Frame} {meth : Method} {c : Code} {H : Heap} {locs : List Loc} {cells slots : Nat} {Q : State → Prop}
variable {cc : ByteArray} {pc : Nat} {ls : Array Slot} {rest : List Value} {G : GG} {n n' : Nat} {h h' : Hp} {r : Option Value} {mc ms d d' mcR msR nL : Nat} {own : String} {idx : Nat} {y : MethodName} {bytes : ByteArray} {maxL np : Nat} {ret : Option FieldType} {As : List Value}
theorem c_go {a : Array Value} {st0 : List Value} (X : XW G n h s cells H locs) (hn : n' = n + mc) (hr : va_Run p l e R s m args below meth c H locs cells slots mc ms (F0 m pc ls st0) rest (QP G n' h' r a) (Ab G))
    (kk : ∀ (H1 : Heap) (locs1 : List Loc), XW G n' h' s (cells + mc) H1 locs1 → W p l e R s m args below meth c H1 locs1 (cells + mc) (slots + ms) Q (F0 m (pc + 3) ls (r.toList ++ rest))) : W p l e R s m args below meth c H locs cells slots Q (F0 m pc ls st0) := by
  intro T hT XS
  obtain ⟨v, st₀, t, T', L, h0, X', hL, e1, e2, ⟨hv, hP, hz, hk⟩, st⟩ := hr T hT XS
  cases hv
  obtain ⟨x1, x2, x3, x4⟩ := X
  rw [h0] at hz hk
  obtain ⟨t2, a1, b1⟩ := kk T'.heap (locs ++ L) ⟨by rw [e1]; exact hP, ⟨Nat.le_trans x2.1 (by rw [e1]; exact hz), fun q h1 h2 => by rw [e1, hk q (Nat.lt_of_lt_of_le h1 x2.1) h2]; exact x2.2.1 q h1 h2, fun q hq => by
      rcases List.mem_append.mp hq with h | h
      · exact x2.2.2 q h
      · exact hL q h⟩, by omega, x4⟩ T' rfl X'
  exact ⟨t2, st t2 a1, b1⟩
theorem c_pre {av : List Value} (hK : Ks G s) (X : XW G n h s cells H locs) (hu : H.size ≤ s.heap.size + cells) : PreS s H (va_Pc av (fun U => Wd G n h U.heap ∧ Ks G U)) av :=
  ⟨fun _ _ _ _ q => ⟨q.1, q.2.1, q.2.2.call⟩, fun _ hU hW => ⟨rfl, ⟨by rw [hU]; exact X.1, by rw [hU]; exact X.sz hu⟩, hK.warm hW⟩⟩
theorem c_B (hts : ∀ w ∈ TT, w.before args s = true) (hc : LC y bytes maxL ret np) (hl : Cond.methodLink own idx y ∈ TT) (hd : d' < d) : CallB (rmC d mcR msR) s args own idx y bytes maxL ret (.code y bytes maxL ret :: TT) (rmC d' mc ms) mc ms np :=
  callB_of np hts (TT_in hc.1) rfl rfl rfl (hts _ hc.2.1) (hts _ hl) hc.2.2.1 ⟨hd, by show 8 + (maxL + 11) + 60 * d' ≤ 60 * d; have := hc.2.2.2; omega⟩
theorem c_BN (hts : ∀ w ∈ TT, w.before args s = true) (hK : Ks G s) (hc : LC y bytes maxL ret np) (hl : Cond.methodLinkNest own idx y RX11 ∈ lw_tbl) (hd : d' < d) : va_CN (rmC d mcR msR) s args own idx y RX11 bytes maxL ret (.code y bytes maxL ret :: TT) (rmC d' mc ms) mc ms np :=
  va_cnB np hts (TT_in hc.1) rfl rfl rfl (hK.2 _ hl rfl) (hts _ hc.2.1) hc.2.2.1 ⟨hd, by show 8 + (maxL + 11) + 60 * d' ≤ 60 * d; have := hc.2.2.2; omega⟩
theorem c_V {a ci : Nat} {C : String} {T : u_T} {N : Nat} (hx : p.tables.exec = Jvm.exec) (hb : c.code = cc) (hml : c.maxLocals = nL) (hown : s.vm.findClass own = some m.cls) (hts : ∀ w ∈ TT, w.before args s = true) (hK : Ks G s) (X : XW G n h s cells H locs)
    (hM : CT l G n n' y (.code y bytes maxL ret) d' mc ms (.ref (bs G + a) :: As) h h' r) (hn : n' = n + mc) (hk : kd a = ci) (ha : 1 ≤ a ∧ a ≤ n) (hc : LC y bytes maxL ret np) (hl : LV own idx y) (hcl : cls[ci]? = some (C, T, N)) (hC : y.cls = C) (hd : d' < d) (hAs : As.length = np) (hls : ls.size = nL) (hrs : (rest.map fun v => v.category).sum ≤ 8)
    (hdg : decode cc pc = .ok (.invokevirtual idx, 3)) (hf : cells + mc ≤ mcR ∧ slots + ms ≤ msR)
    (kk : ∀ (H1 : Heap) (locs1 : List Loc), XW G n' h' s (cells + mc) H1 locs1 → W p l e (rmC d mcR msR) s m args below meth c H1 locs1 (cells + mc) (slots + ms) Q (F0 m (pc + 3) ls (r.toList ++ rest))) :
    W p l e (rmC d mcR msR) s m args below meth c H locs cells slots Q (F0 m pc ls (As.reverse ++ .ref (bs G + a) :: rest)) := by
  refine w_size (fun hu => ?_)
  have he := wl_at G h ha.1 ha.2
  have hc13 : ci < 13 := by
    have := (List.getElem?_eq_some_iff.mp hcl).1
    exact this
  rw [cE_o G h hk hc13] at he
  subst hC
  exact c_go X hn (va_runV (C := y.cls) (As := As) (rest := rest) ⟨hx, hb, hml, hown, hts⟩ hM ⟨c_B hts hc hl.1 hd, hts _ hl.2.1, hts _ hl.2.2⟩ ⟨(c_pre hK X hu).1, va_recv hK.1 X.1 hcl he, (c_pre hK X hu).2⟩ rfl hAs hls rfl (lv_room hrs) hdg hf) kk
theorem c_S (hx : p.tables.exec = Jvm.exec) (hb : c.code = cc) (hml : c.maxLocals = nL) (hown : s.vm.findClass own = some m.cls) (hts : ∀ w ∈ TT, w.before args s = true) (hK : Ks G s) (X : XW G n h s cells H locs)
    (hM : CT l G n n' y (.code y bytes maxL ret) d' mc ms As h h' r) (hn : n' = n + mc) (hc : LC y bytes maxL ret np) (hl : LSt own idx y) (hd : d' < d) (hAs : As.length = np) (hls : ls.size = nL) (hrs : (rest.map fun v => v.category).sum ≤ 8)
    (hdg : decode cc pc = .ok (.invokestatic idx, 3)) (hf : cells + mc ≤ mcR ∧ slots + ms ≤ msR)
    (kk : ∀ (H1 : Heap) (locs1 : List Loc), XW G n' h' s (cells + mc) H1 locs1 → W p l e (rmC d mcR msR) s m args below meth c H1 locs1 (cells + mc) (slots + ms) Q (F0 m (pc + 3) ls (r.toList ++ rest))) :
    W p l e (rmC d mcR msR) s m args below meth c H locs cells slots Q (F0 m pc ls (As.reverse ++ rest)) := by
  refine w_size (fun hu => ?_)
  exact c_go X hn (va_runS (As := As) (rest := rest) ⟨hx, hb, hml, hown, hts⟩ hM ⟨c_B hts hc hl.1 hd, hts _ hl.2⟩ (c_pre hK X hu) rfl hAs hls rfl (lv_room hrs) hdg hf) kk
theorem c_SN (hx : p.tables.exec = Jvm.exec) (hb : c.code = cc) (hml : c.maxLocals = nL) (hown : s.vm.findClass own = some m.cls) (hts : ∀ w ∈ TT, w.before args s = true) (hK : Ks G s) (X : XW G n h s cells H locs)
    (hM : CT l G n n' y (.code y bytes maxL ret) d' mc ms As h h' r) (hn : n' = n + mc) (hc : LC y bytes maxL ret np) (hl : LSN own idx y) (hd : d' < d) (hAs : As.length = np) (hls : ls.size = nL) (hrs : (rest.map fun v => v.category).sum ≤ 8)
    (hdg : decode cc pc = .ok (.invokestatic idx, 3)) (hf : cells + mc ≤ mcR ∧ slots + ms ≤ msR)
    (kk : ∀ (H1 : Heap) (locs1 : List Loc), XW G n' h' s (cells + mc) H1 locs1 → W p l e (rmC d mcR msR) s m args below meth c H1 locs1 (cells + mc) (slots + ms) Q (F0 m (pc + 3) ls (r.toList ++ rest))) :
    W p l e (rmC d mcR msR) s m args below meth c H locs cells slots Q (F0 m pc ls (As.reverse ++ rest)) := by
  refine w_size (fun hu => ?_)
  exact c_go X hn (va_runSN (As := As) (rest := rest) ⟨hx, hb, hml, hown, hts⟩ hM ⟨c_BN hts hK hc hl.1 hd, hts _ hl.2, trivial⟩ (c_pre hK X hu) rfl hAs hls rfl (lv_room hrs) hdg hf) kk
theorem c_I {a : Nat} (hx : p.tables.exec = Jvm.exec) (hb : c.code = cc) (hml : c.maxLocals = nL) (hown : s.vm.findClass own = some m.cls) (hts : ∀ w ∈ TT, w.before args s = true) (hK : Ks G s) (X : XW G n h s cells H locs)
    (hM : CT l G n n' y (.code y bytes maxL none) d' mc ms (.ref (bs G + a) :: As) h h' r) (hn : n' = n + mc) (hc : LC y bytes maxL none np) (hl : LI own idx y) (hd : d' < d) (hAs : As.length = np) (hls : ls.size = nL) (hrs : (rest.map fun v => v.category).sum ≤ 8)
    (hdg : decode cc pc = .ok (.invokespecial idx, 3)) (hf : cells + mc ≤ mcR ∧ slots + ms ≤ msR)
    (kk : ∀ (H1 : Heap) (locs1 : List Loc), XW G n' h' s (cells + mc) H1 locs1 → W p l e (rmC d mcR msR) s m args below meth c H1 locs1 (cells + mc) (slots + ms) Q (F0 m (pc + 3) ls (r.toList ++ rest))) :
    W p l e (rmC d mcR msR) s m args below meth c H locs cells slots Q (F0 m pc ls (As.reverse ++ .ref (bs G + a) :: rest)) := by
  refine w_size (fun hu => ?_)
  exact c_go X hn (va_runI (As := As) (rest := rest) ⟨hx, hb, hml, hown, hts⟩ hM ⟨c_B hts hc hl.1 hd, hl.2.2, hts _ hl.2.1⟩ (c_pre hK X hu) rfl hAs hls rfl (lv_room hrs) hdg hf) kk
theorem c_IN {a : Nat} (hx : p.tables.exec = Jvm.exec) (hb : c.code = cc) (hml : c.maxLocals = nL) (hown : s.vm.findClass own = some m.cls) (hts : ∀ w ∈ TT, w.before args s = true) (hK : Ks G s) (X : XW G n h s cells H locs)
    (hM : CT l G n n' y (.code y bytes maxL none) d' mc ms (.ref (bs G + a) :: As) h h' r) (hn : n' = n + mc) (hc : LC y bytes maxL none np) (hl : LIN own idx y) (hd : d' < d) (hAs : As.length = np) (hls : ls.size = nL) (hrs : (rest.map fun v => v.category).sum ≤ 8)
    (hdg : decode cc pc = .ok (.invokespecial idx, 3)) (hf : cells + mc ≤ mcR ∧ slots + ms ≤ msR)
    (kk : ∀ (H1 : Heap) (locs1 : List Loc), XW G n' h' s (cells + mc) H1 locs1 → W p l e (rmC d mcR msR) s m args below meth c H1 locs1 (cells + mc) (slots + ms) Q (F0 m (pc + 3) ls (r.toList ++ rest))) :
    W p l e (rmC d mcR msR) s m args below meth c H locs cells slots Q (F0 m pc ls (As.reverse ++ .ref (bs G + a) :: rest)) := by
  refine w_size (fun hu => ?_)
  exact c_go X hn (va_runIN (As := As) (rest := rest) ⟨hx, hb, hml, hown, hts⟩ hM ⟨c_BN hts hK hc hl.1 hd, hl.2.2, hts _ hl.2.1⟩ (c_pre hK X hu) rfl hAs hls rfl (lv_room hrs) hdg hf) kk
theorem r_I {v v' : Int32} (hx : p.tables.exec = Jvm.exec) (hb : c.code = cc) (hr : meth.sig.returnType = some .int) (hlocks : meth.locks = false) (X : XW G n h s cells H locs) (hf : some (v, h) = some (v', h')) (hdg : decode cc pc = .ok (.ireturn, 1)) :
    W p l e R s m args below meth c H locs cells slots (MQ below (QP G n h' (some (.int v'))) args s cells slots (Ab G)) (F0 m pc ls [.int v]) := by
  cases hf
  exact W.iret hx hb hr (fun t ht hW => ⟨rfl, by rw [ht]; exact X.1, X.2.1.F ht⟩) X.2.1.2.2 hdg hlocks
theorem r_Z {v v' : Int32} {ty : FieldType} (hx : p.tables.exec = Jvm.exec) (hb : c.code = cc) (hr : meth.sig.returnType = some ty) (hlocks : meth.locks = false) (X : XW G n h s cells H locs) (hz : narrow ty (.int v) = .int v) (hf : some (v, h) = some (v', h')) (hdg : decode cc pc = .ok (.ireturn, 1)) :
    W p l e R s m args below meth c H locs cells slots (MQ below (QP G n h' (some (.int v'))) args s cells slots (Ab G)) (F0 m pc ls [.int v]) := by
  cases hf
  exact W.zret hx hb hr hz (fun t ht hW => ⟨rfl, by rw [ht]; exact X.1, X.2.1.F ht⟩) X.2.1.2.2 hdg hlocks
theorem r_V {v v' : Unit} (hx : p.tables.exec = Jvm.exec) (hb : c.code = cc) (hr : meth.sig.returnType = none) (hlocks : meth.locks = false) (X : XW G n h s cells H locs) (hf : some (v, h) = some (v', h')) (hdg : decode cc pc = .ok (.return_, 1)) :
    W p l e R s m args below meth c H locs cells slots (MQ below (QP G n h' none) args s cells slots (Ab G)) (F0 m pc ls []) := by
  cases hf
  exact W.vret hx hb hr (fun t ht hW => ⟨rfl, by rw [ht]; exact X.1, X.2.1.F ht⟩) X.2.1.2.2 hdg hlocks
theorem r_A {v v' : Nat} {nm : String} (hx : p.tables.exec = Jvm.exec) (hb : c.code = cc) (hr : meth.sig.returnType = some (.object nm)) (hlocks : meth.locks = false) (X : XW G n h s cells H locs) (hf : some (v, h) = some (v', h')) (hdg : decode cc pc = .ok (.areturn, 1)) :
    W p l e R s m args below meth c H locs cells slots (MQ below (QP G n h' (some (.ref (bs G + v')))) args s cells slots (Ab G)) (F0 m pc ls [.ref (bs G + v)]) := by
  cases hf
  exact W.aret hx hb hr (Or.inl ⟨_, rfl⟩) (Or.inr ⟨_, rfl⟩) (fun t ht hW => ⟨rfl, by rw [ht]; exact X.1, X.2.1.F ht⟩) X.2.1.2.2 hdg hlocks
/-- System.arraycopy between two rows of ints, the first k places -/
theorem g_copy {a b K1 K2 : Nat} {k : Int32} (hx : p.tables.exec = Jvm.exec) (hb : c.code = cc) (hml : c.maxLocals = ls.size) (hown : s.vm.findClass own = some m.cls) (hts : ∀ w ∈ TT, w.before args s = true) (hK : Ks G s) (X : XW G n h s cells H locs)
    (hl : Cond.methodLink own idx arraycopyName ∈ TT) (hnat : Cond.native arraycopyName ∈ TT) (hst : Cond.static arraycopyName ∈ TT) (hini : Cond.initialized "java/lang/System" ∈ TT)
    (hka : kd a = K1) (hkb : kd b = K2) (hna : kmx K1 ≤ n) (hnb : kmx K2 ≤ n) (h1 : K1 = 13 ∨ K1 = 16) (h2 : K2 = 13 ∨ K2 = 16) (hk0 : ¬ k < 0) (hka2 : k.toNatClampNeg ≤ ln a) (hkb2 : k.toNatClampNeg ≤ ln b) (hd : 0 < d) (hrs : (rest.map fun v => v.category).sum ≤ 8)
    (hdg : decode cc pc = .ok (.invokestatic idx, 3))
    (kk : ∀ (H1 : Heap) (locs1 : List Loc), XW G n (sc h b (va_cpy (h.1 a) (h.1 b) 0 0 k.toNatClampNeg)) s cells H1 locs1 → W p l e (rmC d mcR msR) s m args below meth c H1 locs1 cells slots Q (F0 m (pc + 3) ls rest)) :
    W p l e (rmC d mcR msR) s m args below meth c H locs cells slots Q (F0 m pc ls (.int k :: .int 0 :: .ref (bs G + b) :: .int 0 :: .ref (bs G + a) :: rest)) := by
  have ha := kd_in hka hna (by omega)
  have hb1 := kd_in hkb hnb (by omega)
  have he := wl_at G h ha.1 ha.2
  have heb := wl_at G h hb1.1 hb1.2
  have hk2 : kd b = 13 ∨ kd b = 16 := by rw [hkb]; exact h2
  rw [cE_i G h (by rw [hka]; exact h1)] at he
  rw [cE_i G h hk2] at heb
  have z0 : (0 : Int32).toNatClampNeg = 0 := rfl
  have hloc : (rest.map fun v => v.category).sum + (nativeFrameWords "java/lang/System" "arraycopy" 5 + 11) ≤ (rmC d mcR msR).locals := by
    have h41 : nativeFrameWords "java/lang/System" "arraycopy" 5 ≤ 41 := by decide +kernel
    show _ ≤ 60 * d
    omega
  refine va_copyi (ty := .int) (sp := 0) (dp := 0) (n := k) hx hb hml hown (hts _ hl) (hts _ hnat) (hts _ hst) (hts _ hini) hK.1 X.1 (wl_D G n h) X.2.1 (a - 1) (b - 1) 0 0 he heb rfl rfl rfl (by decide) (by decide) hk0 (by rw [z0]; omega) (by rw [z0]; omega) (fun _ _ => rfl) (show 1 ≤ (rmC d mcR msR).frames from hd) hloc hdg (fun H1 locs1 hP hD hS => ?_)
  rw [z0] at hP
  rw [show va_cpy (h.1 a) (h.1 b) 0 0 k.toNatClampNeg = (sc h b (va_cpy (h.1 a) (h.1 b) 0 0 k.toNatClampNeg)).1 b from (sc_1 _ _ _).symm, ← cE_i G _ hk2, wl_set G h _ hb1.1 (cE_sc G h b _)] at hP
  exact kk H1 locs1 ⟨hP, hS, X.2.2.1, X.2.2.2⟩
theorem i32n {x k : Int32} (h : ¬ x = k) : x.toInt ≠ k.toInt := fun e => h (Int32.toInt_inj.mp e)
end CALLS
theorem lm_native : Cond.native arraycopyName ∈ TT := mt (i := 705) (by decide +kernel) (by decide +kernel)
theorem lm_static : Cond.static arraycopyName ∈ TT := mt (i := 704) (by decide +kernel) (by decide +kernel)
theorem lm_system : Cond.initialized "java/lang/System" ∈ TT := mt (i := 70) (by decide +kernel) (by decide +kernel)
theorem lm_math : Cond.initialized "java/lang/Math" ∈ TT := mt (i := 57) (by decide +kernel) (by decide +kernel)
theorem lm_maxS : Cond.static Lib.Math.max.name ∈ TT := mt (i := 187) (by decide +kernel) (by decide +kernel)
theorem lm_minS : Cond.static Lib.Math.min.name ∈ TT := mt (i := 744) (by decide +kernel) (by decide +kernel)
theorem lm_maxC : Cond.code Lib.Math.max.name Lib.Math.max.code 2 (some .int) ∈ TT := mt (i := 188) (by decide +kernel) (by decide +kernel)
theorem lm_minC : Cond.code Lib.Math.min.name Lib.Math.min.code 2 (some .int) ∈ TT := mt (i := 745) (by decide +kernel) (by decide +kernel)
theorem lk_df {ps : List (Int × Int)} {ex : List Int32} {x : Int32} {dflt : Int} (h : ps.map (·.1) = ex.map (·.toInt)) (hne : ∀ k ∈ ex, ¬ x = k) : Op.lookupswitch.offset ps dflt x.toInt = dflt := by
  induction ps generalizing ex with
  | nil => rfl
  | cons a r ih =>
    cases ex with
    | nil => cases h
    | cons k ex =>
      simp only [List.map_cons, List.cons.injEq] at h
      obtain ⟨a1, a2⟩ := a
      rw [Op.lookupswitch.offset_cons, if_neg]
      · exact ih h.2 (fun z hz => hne z (List.mem_cons_of_mem _ hz))
      · intro e
        exact hne k List.mem_cons_self (Int32.toInt_inj.mp (by rw [← h.1, ← e]))
section CALLS0
variable {p : Program} {l : Launch} {e : Env} {s : State} {m : MethodId} {args : Array Value} {below : List Frame} {meth : Method} {c : Code} {H : Heap} {locs : List Loc} {cells slots : Nat} {Q : State → Prop}
variable {cc : ByteArray} {pc : Nat} {ls : Array Slot} {rest st1 : List Value} {G : GG} {n : Nat} {h h' : Hp} {r : Option Value} {d d' mcR msR nL : Nat} {own : String} {idx : Nat} {y : MethodName} {bytes : ByteArray} {maxL np : Nat} {ret : Option FieldType} {As : List Value}
/-- calls that make no cell -/
theorem c_V0 {a ci : Nat} {C : String} {T : u_T} {N : Nat} (hx : p.tables.exec = Jvm.exec) (hb : c.code = cc) (hml : c.maxLocals = nL) (hown : s.vm.findClass own = some m.cls) (hts : ∀ w ∈ TT, w.before args s = true) (hK : Ks G s) (X : XW G n h s 0 H locs)
    (hM : CT l G n n y (.code y bytes maxL ret) d' 0 0 (.ref (bs G + a) :: As) h h' r) (hk : kd a = ci) (hn : kmx ci ≤ n) (hc : LC y bytes maxL ret np) (hl : LV own idx y) (hcl : cls[ci]? = some (C, T, N)) (hC : y.cls = C) (hd : d' < d) (hAs : As.length = np) (hls : ls.size = nL) (hrs : (rest.map fun v => v.category).sum ≤ 8)
    (hdg : decode cc pc = .ok (.invokevirtual idx, 3)) (hst : r.toList ++ rest = st1)
    (kk : ∀ (H1 : Heap) (locs1 : List Loc), XW G n h' s 0 H1 locs1 → W p l e (rmC d 0 0) s m args below meth c H1 locs1 0 0 Q (F0 m (pc + 3) ls st1)) :
    W p l e (rmC d 0 0) s m args below meth c H locs 0 0 Q (F0 m pc ls (As.reverse ++ .ref (bs G + a) :: rest)) := by
  subst hst
  have h99 : ci ≠ 99 := by
    have : ci < 13 := (List.getElem?_eq_some_iff.mp hcl).1
    omega
  exact c_V hx hb hml hown hts hK X hM rfl hk (kd_in hk hn h99) hc hl hcl hC hd hAs hls hrs hdg ⟨Nat.le_refl 0, Nat.le_refl 0⟩ kk
theorem c_S0 (hx : p.tables.exec = Jvm.exec) (hb : c.code = cc) (hml : c.maxLocals = nL) (hown : s.vm.findClass own = some m.cls) (hts : ∀ w ∈ TT, w.before args s = true) (hK : Ks G s) (X : XW G n h s 0 H locs)
    (hM : CT l G n n y (.code y bytes maxL ret) d' 0 0 As h h' r) (hc : LC y bytes maxL ret np) (hl : LSt own idx y) (hd : d' < d) (hAs : As.length = np) (hls : ls.size = nL) (hrs : (rest.map fun v => v.category).sum ≤ 8)
    (hdg : decode cc pc = .ok (.invokestatic idx, 3)) (hst : r.toList ++ rest = st1)
    (kk : ∀ (H1 : Heap) (locs1 : List Loc), XW G n h' s 0 H1 locs1 → W p l e (rmC d 0 0) s m args below meth c H1 locs1 0 0 Q (F0 m (pc + 3) ls st1)) :
    W p l e (rmC d 0 0) s m args below meth c H locs 0 0 Q (F0 m pc ls (As.reverse ++ rest)) := by
  subst hst
  exact c_S hx hb hml hown hts hK X hM rfl hc hl hd hAs hls hrs hdg ⟨Nat.le_refl 0, Nat.le_refl 0⟩ kk
theorem c_SN0 (hx : p.tables.exec = Jvm.exec) (hb : c.code = cc) (hml : c.maxLocals = nL) (hown : s.vm.findClass own = some m.cls) (hts : ∀ w ∈ TT, w.before args s = true) (hK : Ks G s) (X : XW G n h s 0 H locs)
    (hM : CT l G n n y (.code y bytes maxL ret) d' 0 0 As h h' r) (hc : LC y bytes maxL ret np) (hl : LSN own idx y) (hd : d' < d) (hAs : As.length = np) (hls : ls.size = nL) (hrs : (rest.map fun v => v.category).sum ≤ 8)
    (hdg : decode cc pc = .ok (.invokestatic idx, 3)) (hst : r.toList ++ rest = st1)
    (kk : ∀ (H1 : Heap) (locs1 : List Loc), XW G n h' s 0 H1 locs1 → W p l e (rmC d 0 0) s m args below meth c H1 locs1 0 0 Q (F0 m (pc + 3) ls st1)) :
    W p l e (rmC d 0 0) s m args below meth c H locs 0 0 Q (F0 m pc ls (As.reverse ++ rest)) := by
  subst hst
  exact c_SN hx hb hml hown hts hK X hM rfl hc hl hd hAs hls hrs hdg ⟨Nat.le_refl 0, Nat.le_refl 0⟩ kk
theorem g_mmax {x z : Int32} (hx : p.tables.exec = Jvm.exec) (hb : c.code = cc) (hml : c.maxLocals = ls.size) (hown : s.vm.findClass own = some m.cls) (hts : ∀ w ∈ TT, w.before args s = true) (hl : Cond.methodLink own idx Lib.Math.max.name ∈ TT) (hd : 0 < d) (hrs : (rest.map fun v => v.category).sum ≤ 8) (hdg : decode cc pc = .ok (.invokestatic idx, 3))
    (kk : W p l e (rmC d 0 0) s m args below meth c H locs 0 0 Q (F0 m (pc + 3) ls (.int (if x < z then z else x) :: rest))) : W p l e (rmC d 0 0) s m args below meth c H locs 0 0 Q (F0 m pc ls (.int z :: .int x :: rest)) :=
  va_mmax (R := rmC d 0 0) hx hb hml hown (hts _ hl) (hts _ lm_maxS) (hts _ lm_math) (hts _ lm_maxC) (show 1 ≤ (rmC d 0 0).frames from hd) (by show _ ≤ 60 * d; omega) (Nat.le_refl 0) (Nat.le_refl 0) hdg kk
theorem g_mmin {x z : Int32} (hx : p.tables.exec = Jvm.exec) (hb : c.code = cc) (hml : c.maxLocals = ls.size) (hown : s.vm.findClass own = some m.cls) (hts : ∀ w ∈ TT, w.before args s = true) (hl : Cond.methodLink own idx Lib.Math.min.name ∈ TT) (hd : 0 < d) (hrs : (rest.map fun v => v.category).sum ≤ 8) (hdg : decode cc pc = .ok (.invokestatic idx, 3))
    (kk : W p l e (rmC d 0 0) s m args below meth c H locs 0 0 Q (F0 m (pc + 3) ls (.int (if z < x then z else x) :: rest))) : W p l e (rmC d 0 0) s m args below meth c H locs 0 0 Q (F0 m pc ls (.int z :: .int x :: rest)) :=
  va_mmin (R := rmC d 0 0) hx hb hml hown (hts _ hl) (hts _ lm_minS) (hts _ lm_math) (hts _ lm_minC) (show 1 ≤ (rmC d 0 0).frames from hd) (by show _ ≤ 60 * d; omega) (Nat.le_refl 0) (Nat.le_refl 0) hdg kk
variable {R : Room}
theorem sw_in {dflt lo hi : Int} {offs : Array Int} {len : Nat} {x k : Int32} {off : Int} {tgt : Nat} (hx : p.tables.exec = Jvm.exec) (hb : c.code = cc) (hdg : decode cc pc = .ok (.tableswitch dflt lo hi offs, len)) (he : x = k) (h1 : ¬ k.toInt < lo) (h2 : ¬ hi < k.toInt) (ho : offs[(k.toInt - lo).toNat]? = some off) (ht : (pc : Int) + off = (tgt : Int))
    (kk : W p l e R s m args below meth c H locs cells slots Q (F0 m tgt ls rest)) : W p l e R s m args below meth c H locs cells slots Q (F0 m pc ls (.int x :: rest)) := by
  subst he
  exact lv_tableIn hx hb hdg h1 h2 ho ht kk
theorem sw_df {dflt lo hi : Int} {offs : Array Int} {len : Nat} {x : Int32} {ex : List Int32} {tgt : Nat} (hx : p.tables.exec = Jvm.exec) (hb : c.code = cc) (hdg : decode cc pc = .ok (.tableswitch dflt lo hi offs, len)) (hsz : hi + 1 = lo + offs.size) (hall : ∀ i, i < offs.size → ((∃ k ∈ ex, k.toInt = lo + i) ∨ offs[i]? = some dflt)) (hne : ∀ k ∈ ex, ¬ x = k) (ht : (pc : Int) + dflt = (tgt : Int))
    (kk : W p l e R s m args below meth c H locs cells slots Q (F0 m tgt ls rest)) : W p l e R s m args below meth c H locs cells slots Q (F0 m pc ls (.int x :: rest)) := by
  by_cases h1 : x.toInt < lo
  · exact lv_tableOut hx hb hdg (Or.inl h1) ht kk
  · by_cases h2 : hi < x.toInt
    · exact lv_tableOut hx hb hdg (Or.inr h2) ht kk
    · refine lv_tableIn hx hb hdg h1 h2 ?_ ht kk
      rcases hall (x.toInt - lo).toNat (by omega) with ⟨k, hk, ek⟩ | h
      · exact absurd (Int32.toInt_inj.mp (by rw [ek]; omega)) (hne k hk)
      · exact h
end CALLS0
