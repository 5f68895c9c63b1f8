def tyAll : Nat → Nat → FieldType := fun ci => match ci with
  | 0 => tX0
  | 1 => tX1
  | 2 => tX2
  | 3 => tX3
  | 4 => tX4
  | 5 => tX5
  | 6 => tX6
  | 7 => tX7
  | 8 => tX8
  | 9 => tX9
  | 10 => tX10
  | 11 => tX11
  | _ => tX12
theorem lo_inst : Cond.instanceMethod Lib.objectInit ∈ TT := mt (i := 78) (by decide +kernel) (by decide +kernel)
theorem lo_code : Cond.code Lib.objectInit ⟨#[0xb1]⟩ 1 none ∈ TT := mt (i := 79) (by decide +kernel) (by decide +kernel)
/-! making cells; constructors -/
theorem cls_df : ∀ ci, ci < 13 → ∀ k, k < nf ci → defaultValue ((tyAll ci) k) = (if fr ci k = true then Value.null else .int 0) := by decide +kernel
theorem cls_ty (ci : Nat) (C : String) (T : u_T) (N : Nat) (h : cls[ci]? = some (C, T, N)) : ∀ k, k < N → parseFieldDescriptor (T k).2.2.1 = some ((tyAll ci) k) := by
  match ci, h with
  | 0, h => cases h; exact tX0_ok
  | 1, h => cases h; exact tX1_ok
  | 2, h => cases h; exact tX2_ok
  | 3, h => cases h; exact tX3_ok
  | 4, h => cases h; exact tX4_ok
  | 5, h => cases h; exact tX5_ok
  | 6, h => cases h; exact tX6_ok
  | 7, h => cases h; exact tX7_ok
  | 8, h => cases h; exact tX8_ok
  | 9, h => cases h; exact tX9_ok
  | 10, h => cases h; exact tX10_ok
  | 11, h => cases h; exact tX11_ok
  | 12, h => cases h; exact tX12_ok
  | k + 13, h => simp [cls] at h
def LN (own : String) (idx : Nat) (C : String) (N : Nat) : Prop := Cond.classLink own idx C ∈ TT ∧ Cond.instantiable C N ∈ TT ∧ Cond.initialized C ∈ TT
theorem wl_kept {G : GG} {n : Nat} {h : Hp} {H H1 : Heap} (hP : va_P G.1 cls (wl G n h) H) (o1 : ∀ q, q < H.size → H1[q]? = H[q]?) : va_P G.1 cls (wl G n h) H1 := hP.kept (fun k x hx => o1 x.1 ((hP k x hx).lt))
section INITS
variable {p : Program} {l : Launch} {e : Env} {R : Room} {s : State} {m : MethodId} {args : Array Value} {below : List Frame} {meth : Method} {c : Code} {H : Heap} {locs : List Loc} {cells slots cells1 slots1 : Nat} {Q : State → Prop}
variable {cc : ByteArray} {pc : Nat} {ls : Array Slot} {rest st1 : List Value} {G : GG} {n n1 : Nat} {h h' : Hp} {r : Option Value} {mc ms d d' mcR msR nL : Nat} {own : String} {idx : Nat} {y : MethodName} {bytes : ByteArray} {maxL np : Nat} {ret : Option FieldType} {As : List Value}
theorem n_ext (X : XW G n h s cells H locs) (hu : H.size ≤ s.heap.size + cells) {H1 : Heap} (z1 : H1.size = H.size + 1) (o1 : ∀ q, q < H.size → H1[q]? = H[q]?) (e1 : va_at G.1 cls (bs G + (n + 1), cE G (sz h (n + 1)) (n + 1)) H1) : XW G (n + 1) (sz h (n + 1)) s (cells + 1) H1 locs := by
  have hz := X.sz hu
  obtain ⟨x1, x2, x3, x4⟩ := X
  refine ⟨?_, ⟨Nat.le_trans x2.1 (by omega), fun q h1 h2 => (o1 q (Nat.lt_of_lt_of_le h1 x2.1)).trans (x2.2.1 q h1 h2), x2.2.2⟩, by omega, x4⟩
  rw [← wl_push G h (sz h (n + 1)) (fun b hb => cE_sz G h (n + 1) b (by omega))]
  refine (wl_kept x1 o1).app (fun k q hk => ?_)
  have hk0 : k = 0 := by
    have := (List.getElem?_eq_some_iff.mp hk).1
    simp at this
    omega
  subst hk0
  cases hk
  exact e1
theorem fv_sz (b : Nat) (h : Hp) (a ci k : Nat) : fv b (sz h a) a ci k = if fr ci k = true then Value.null else .int 0 := by simp [fv, sz, ro, va_rf]
theorem n_new {ci : Nat} {C : String} {T : u_T} {N : Nat} (hx : p.tables.exec = Jvm.exec) (hb : c.code = cc) (hts : ∀ w ∈ TT, w.before args s = true) (hown : s.vm.findClass own = some m.cls) (hK : Ks G s) (X : XW G n h s cells H locs) (hk : kd (n + 1) = ci) (hcl : cls[ci]? = some (C, T, N)) (hl : LN own idx C N)
    (hcs : cells + 1 = cells1) (hss : slots + N = slots1) (hn1 : n + 1 = n1) (hcR : cells1 ≤ R.cells) (hsR : slots1 ≤ R.slots) (hdg : decode cc pc = .ok (.new idx, 3))
    (kk : ∀ H1 : Heap, XW G n1 (sz h n1) s cells1 H1 locs → W p l e R s m args below meth c H1 locs cells1 slots1 Q (F0 m (pc + 3) ls (.ref (bs G + n1) :: rest))) : W p l e R s m args below meth c H locs cells slots Q (F0 m pc ls rest) := by
  subst hcs; subst hss; subst hn1
  have hc13 : ci < 13 := (List.getElem?_eq_some_iff.mp hcl).1
  have hok := cls_ok ci C T N hcl
  have hnf : nf ci = N := hok.2.1
  refine w_size (fun hu => ?_)
  have hz := X.sz hu
  have hKn := hK.1.1 ci _ hcl
  refine W.newcK hx hb hown (hts _ hl.1) (hts _ hl.2.1) (hts _ hl.2.2) rfl hdg hcR hsR hKn.2.1 (show H.size = bs G + (n + 1) by omega) fun H1 kC hkC e1 z1 o1 => ?_
  refine kk H1 (n_ext X hu (by omega) (fun q hq => o1 q (by omega)) ?_)
  rw [cE_o G _ hk hc13]
  refine ⟨_, hcl, (u_born (tyAll ci) hts hok.1 hKn hkC e1 (cls_ty ci C T N hcl)).to (fun j hj => ?_)⟩
  have hj : j < N := hj
  show defaultValue (tyAll ci j) = vp_V _ j
  rw [cls_df ci hc13 j (by omega), vp_V, List.getD_eq_getElem?_getD, List.getElem?_map, List.getElem?_range (by omega)]
  exact (fv_sz _ _ _ _ _).symm
theorem n_arr {at0 : ArrayType} {ty : FieldType} {t0 : Nat} {cA0 : ClassId} {v : Int32} {N : Nat} (hx : p.tables.exec = Jvm.exec) (hb : c.code = cc) (hts : ∀ w ∈ TT, w.before args s = true) (hK : Ks G s) (X : XW G n h s cells H locs) (hty : newarray.typeOf at0 = ty) (ht0 : (tyl G)[t0]? = some (cA0, ty)) (hra : ∀ U cA, va_RA U cA ty → U.vm.findClass ("[" ++ ty.toString) = some cA) (hw : Cond.arrayClass ty ∈ TT) (hdv : defaultValue ty = .int 0)
    (hE : cE G (sz h n1) n1 = .inl (cA0, N, .inl (fun _ => 0))) (hv : ¬ v < 0) (hvN : v.toNatClampNeg = N) (hby : N * componentBytes ty ≤ 536870912)
    (hcs : cells + 1 = cells1) (hss : slots + N = slots1) (hn1 : n + 1 = n1) (hcR : cells1 ≤ R.cells) (hsR : slots1 ≤ R.slots) (hdg : decode cc pc = .ok (.newarray at0, 2))
    (kk : ∀ H1 : Heap, XW G n1 (sz h n1) s cells1 H1 locs → W p l e R s m args below meth c H1 locs cells1 slots1 Q (F0 m (pc + 2) ls (.ref (bs G + n1) :: rest))) : W p l e R s m args below meth c H locs cells slots Q (F0 m pc ls (.int v :: rest)) := by
  subst hcs; subst hss; subst hn1; subst hty
  refine w_size (fun hu => ?_)
  have hz := X.sz hu
  refine va_newaK hx hb (hts _ hw) rfl hdg rfl hv hvN hby hcR hsR (show H.size = bs G + (n + 1) by omega) fun H1 cA e1 z1 o1 hAr hNm => ?_
  refine kk H1 (n_ext X hu (by omega) (fun q hq => o1 q (by omega)) ?_)
  rw [hE]
  have h1 := hra s cA0 (hK.1.2 t0 _ ht0).2
  have hAA : cA = cA0 := Option.some.inj (hNm.symm.trans h1)
  subst hAA
  show H1[bs G + (n + 1)]? = some (vp_cell _ _)
  rw [vp_cell_i, e1, hdv]
theorem n_arrD {v : Int32} {N : Nat} (hx : p.tables.exec = Jvm.exec) (hb : c.code = cc) (hown : s.vm.findClass own = some m.cls) (hts : ∀ w ∈ TT, w.before args s = true) (hK : Ks G s) (X : XW G n h s cells H locs) (hcl : Cond.classLink own idx RX2 ∈ TT) (hov : Cond.arrayOver (.object RX2) ∈ lw_tbl)
    (hk : kd n1 = 15) (hln : ln n1 = N) (hv : ¬ v < 0) (hvN : v.toNatClampNeg = N) (hby : N * 4 ≤ 536870912)
    (hcs : cells + 1 = cells1) (hss : slots + N = slots1) (hn1 : n + 1 = n1) (hcR : cells1 ≤ R.cells) (hsR : slots1 ≤ R.slots) (hdg : decode cc pc = .ok (.anewarray idx, 3))
    (kk : ∀ H1 : Heap, XW G n1 (sz h n1) s cells1 H1 locs → W p l e R s m args below meth c H1 locs cells1 slots1 Q (F0 m (pc + 3) ls (.ref (bs G + n1) :: rest))) : W p l e R s m args below meth c H locs cells slots Q (F0 m pc ls (.int v :: rest)) := by
  subst hcs; subst hss; subst hn1; subst hvN
  refine w_size (fun hu => ?_)
  have hz := X.sz hu
  refine W.anew hx hb hown (hts _ hcl) (va_AO.use (hK.2 _ hov rfl)) rfl hdg rfl hv hby hcR hsR fun cA kA comp f1 f2 f3 f4 => ?_
  have hza : H.size = bs G + (n + 1) := by omega
  rw [hza]
  generalize hH1 : H.push ({ cls := cA, slots := Array.replicate v.toNatClampNeg .null, vm := .none } : Cell) = H1
  have z1 : H1.size = H.size + 1 := by rw [← hH1, Array.size_push]
  have e1 : H1[H.size]? = some (arrV cA v.toNatClampNeg (fun _ => .null)) := by rw [← hH1, Array.getElem?_push_size, ← arrV_new]
  have o1 : ∀ q : Nat, q < H.size → H1[q]? = H[q]? := fun q hq => by rw [← hH1, Array.getElem?_push, if_neg (Nat.ne_of_lt hq)]
  refine kk H1 (n_ext X hu z1 o1 ?_)
  rw [cE_d G _ hk]
  obtain ⟨kA', comp', -, -, -, h4⟩ := (hK.1.2 2 _ rfl).2
  have hAA : cA = G.2.2.2.1 := Option.some.inj (f1.symm.trans h4)
  subst hAA
  show H1[bs G + (n + 1)]? = some (vp_cell _ _)
  rw [vp_cell_q, hln, ← hza, e1]
  congr 2
  funext j
  simp [sz, ro, va_rf]
theorem n_obj {a : Nat} (hx : p.tables.exec = Jvm.exec) (hb : c.code = cc) (hml : c.maxLocals = ls.size) (hown : s.vm.findClass own = some m.cls) (hts : ∀ w ∈ TT, w.before args s = true) (hl : Cond.methodLink own idx Lib.objectInit ∈ TT) (hd : 0 < d) (hrs : (rest.map fun v => v.category).sum ≤ 8) (hdg : decode cc pc = .ok (.invokespecial idx, 3))
    (kk : W p l e (rmC d mcR msR) s m args below meth c H locs cells slots Q (F0 m (pc + 3) ls rest)) : W p l e (rmC d mcR msR) s m args below meth c H locs cells slots Q (F0 m pc ls (.ref a :: rest)) :=
  W.objInit (R := rmC d mcR msR) hx hb hown (hts _ hl) (hts _ lo_inst) (hts _ lo_code) rfl hml.symm rfl hdg (show 1 ≤ (rmC d mcR msR).frames from hd) (by show 2 * 0 + _ + 12 ≤ 60 * d; omega) kk
theorem g_Ia (hx : p.tables.exec = Jvm.exec) (hb : c.code = cc) {ci k a : Nat} (hts : ∀ w ∈ TT, w.before args s = true) (hown : s.vm.findClass own = some m.cls) (hK : Ks G s) (X : XW G n h s cells H locs) (hk : kd a = ci) (ha : 1 ≤ a ∧ a ≤ n) (hl : FL own idx ci k) (hc : ci < 13) (hfr : fr ci k = false)
    (hdg : decode cc pc = .ok (.getfield idx, 3)) (kk : W p l e R s m args below meth c H locs cells slots Q (F0 m (pc + 3) ls (.int (h.1 a k) :: rest))) : W p l e R s m args below meth c H locs cells slots Q (F0 m pc ls (.ref (bs G + a) :: rest)) :=
  g_get hx hb hts hown hK X hk ha hl hc hdg (by rw [fv_int _ _ _ hfr]; exact kk)
theorem g_Ra (hx : p.tables.exec = Jvm.exec) (hb : c.code = cc) {ci k a K : Nat} (hts : ∀ w ∈ TT, w.before args s = true) (hown : s.vm.findClass own = some m.cls) (hK : Ks G s) (X : XW G n h s cells H locs) (hk : kd a = ci) (ha : 1 ≤ a ∧ a ≤ n) (hq : kd (h.2 a k) = K) (hl : FL own idx ci k) (hc : ci < 13) (hfr : fr ci k = true) (hK9 : K ≠ 99)
    (hdg : decode cc pc = .ok (.getfield idx, 3)) (kk : W p l e R s m args below meth c H locs cells slots Q (F0 m (pc + 3) ls (.ref (bs G + h.2 a k) :: rest))) : W p l e R s m args below meth c H locs cells slots Q (F0 m pc ls (.ref (bs G + a) :: rest)) :=
  g_get hx hb hts hown hK X hk ha hl hc hdg (by rw [fv_ref _ _ _ hfr (kd_n0 hq hK9)]; exact kk)
theorem g_PRa (hx : p.tables.exec = Jvm.exec) (hb : c.code = cc) {ci k a q : Nat} {ty : FieldType} (hts : ∀ w ∈ TT, w.before args s = true) (hown : s.vm.findClass own = some m.cls) (hK : Ks G s) (X : XW G n h s cells H locs) (hk : kd a = ci) (ha : 1 ≤ a ∧ a ≤ n) (hq : q ≠ 0) (hl : FL own idx ci k) (hty : FT ci k ty false) (hc : ci < 13) (hfr : fr ci k = true) (hnr : ∀ z : Nat, narrow ty (.ref z) = .ref z) (hfit : ∀ z : Nat, fits ty (.ref z) = true)
    (hdg : decode cc pc = .ok (.putfield idx, 3)) (kk : ∀ (H1 : Heap) (locs1 : List Loc), XW G n (sr h a k q) s cells H1 locs1 → W p l e R s m args below meth c H1 locs1 cells slots Q (F0 m (pc + 3) ls rest)) : W p l e R s m args below meth c H locs cells slots Q (F0 m pc ls (.ref (bs G + q) :: .ref (bs G + a) :: rest)) :=
  g_put hx hb hts hown hK X hk ha hl hty hc (hnr _) (hfit _) (cE_sr G h a k q) (fv_sr _ _ _ hq hfr) hdg kk
theorem g_PFa (hx : p.tables.exec = Jvm.exec) (hb : c.code = cc) {ci k a q : Nat} {ty : FieldType} (hts : ∀ w ∈ TT, w.before args s = true) (hown : s.vm.findClass own = some m.cls) (hK : Ks G s) (X : XW G n h s cells H locs) (hk : kd a = ci) (ha : 1 ≤ a ∧ a ≤ n) (hq : q ≠ 0) (hl : FL own idx ci k) (hty : FT ci k ty true) (hc : ci < 13) (hfr : fr ci k = true) (hin : meth.name = "<init>") (hdecl : FO ci k own) (hnr : ∀ z : Nat, narrow ty (.ref z) = .ref z) (hfit : ∀ z : Nat, fits ty (.ref z) = true)
    (hdg : decode cc pc = .ok (.putfield idx, 3)) (kk : ∀ (H1 : Heap) (locs1 : List Loc), XW G n (sr h a k q) s cells H1 locs1 → W p l e R s m args below meth c H1 locs1 cells slots Q (F0 m (pc + 3) ls rest)) : W p l e R s m args below meth c H locs cells slots Q (F0 m pc ls (.ref (bs G + q) :: .ref (bs G + a) :: rest)) :=
  g_putF hx hb hts hown hK X hk ha hl hty hc hin hdecl (hnr _) (hfit _) (cE_sr G h a k q) (fv_sr _ _ _ hq hfr) hdg kk
/-- calls of constructors, that make mc cells -/
theorem c_I1 {a : Nat} (hx : p.tables.exec = Jvm.exec) (hb : c.code = cc) (hml : c.maxLocals = nL) (hown : s.vm.findClass own = some m.cls) (hts : ∀ w ∈ TT, w.before args s = true) (hK : Ks G s) (X : XW G n h s cells H locs)
    (hM : CT l G n n1 y (.code y bytes maxL none) d' mc ms (.ref (bs G + a) :: As) h h' none) (hn : n1 = n + mc) (hc : LC y bytes maxL none np) (hl : LI own idx y) (hd : d' < d) (hAs : As.length = np) (hls : ls.size = nL) (hrs : (rest.map fun v => v.category).sum ≤ 8)
    (hdg : decode cc pc = .ok (.invokespecial idx, 3)) (hcs : cells + mc = cells1) (hss : slots + ms = slots1) (hf : cells1 ≤ mcR ∧ slots1 ≤ msR)
    (kk : ∀ (H1 : Heap) (locs1 : List Loc), XW G n1 h' s cells1 H1 locs1 → W p l e (rmC d mcR msR) s m args below meth c H1 locs1 cells1 slots1 Q (F0 m (pc + 3) ls rest)) :
    W p l e (rmC d mcR msR) s m args below meth c H locs cells slots Q (F0 m pc ls (As.reverse ++ .ref (bs G + a) :: rest)) := by
  subst hcs; subst hss
  exact c_I hx hb hml hown hts hK X hM hn hc hl hd hAs hls hrs hdg hf kk
theorem c_IN1 {a : Nat} (hx : p.tables.exec = Jvm.exec) (hb : c.code = cc) (hml : c.maxLocals = nL) (hown : s.vm.findClass own = some m.cls) (hts : ∀ w ∈ TT, w.before args s = true) (hK : Ks G s) (X : XW G n h s cells H locs)
    (hM : CT l G n n1 y (.code y bytes maxL none) d' mc ms (.ref (bs G + a) :: As) h h' none) (hn : n1 = n + mc) (hc : LC y bytes maxL none np) (hl : LIN own idx y) (hd : d' < d) (hAs : As.length = np) (hls : ls.size = nL) (hrs : (rest.map fun v => v.category).sum ≤ 8)
    (hdg : decode cc pc = .ok (.invokespecial idx, 3)) (hcs : cells + mc = cells1) (hss : slots + ms = slots1) (hf : cells1 ≤ mcR ∧ slots1 ≤ msR)
    (kk : ∀ (H1 : Heap) (locs1 : List Loc), XW G n1 h' s cells1 H1 locs1 → W p l e (rmC d mcR msR) s m args below meth c H1 locs1 cells1 slots1 Q (F0 m (pc + 3) ls rest)) :
    W p l e (rmC d mcR msR) s m args below meth c H locs cells slots Q (F0 m pc ls (As.reverse ++ .ref (bs G + a) :: rest)) := by
  subst hcs; subst hss
  exact c_IN hx hb hml hown hts hK X hM hn hc hl hd hAs hls hrs hdg hf kk
theorem c_V1 {a ci : Nat} {C : String} {T : u_T} {N : Nat} (hx : p.tables.exec = Jvm.exec) (hb : c.code = cc) (hml : c.maxLocals = nL) (hown : s.vm.findClass own = some m.cls) (hts : ∀ w ∈ TT, w.before args s = true) (hK : Ks G s) (X : XW G n h s cells H locs)
    (hM : CT l G n n y (.code y bytes maxL ret) d' 0 0 (.ref (bs G + a) :: As) h h' r) (hk : kd a = ci) (hn : kmx ci ≤ n) (hc : LC y bytes maxL ret np) (hl : LV own idx y) (hcl : cls[ci]? = some (C, T, N)) (hC : y.cls = C) (hd : d' < d) (hAs : As.length = np) (hls : ls.size = nL) (hrs : (rest.map fun v => v.category).sum ≤ 8)
    (hdg : decode cc pc = .ok (.invokevirtual idx, 3)) (hst : r.toList ++ rest = st1) (hf : cells ≤ mcR ∧ slots ≤ msR)
    (kk : ∀ (H1 : Heap) (locs1 : List Loc), XW G n h' s cells H1 locs1 → W p l e (rmC d mcR msR) s m args below meth c H1 locs1 cells slots Q (F0 m (pc + 3) ls st1)) :
    W p l e (rmC d mcR msR) s m args below meth c H locs cells slots Q (F0 m pc ls (As.reverse ++ .ref (bs G + a) :: rest)) := by
  subst hst
  have h99 : ci ≠ 99 := by
    have : ci < 13 := (List.getElem?_eq_some_iff.mp hcl).1
    omega
  exact c_V hx hb hml hown hts hK X hM rfl hk (kd_in hk hn h99) hc hl hcl hC hd hAs hls hrs hdg hf kk
end INITS
