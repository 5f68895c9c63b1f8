/-! my own base: a flat picture of all cells that the two constructors make, and a row for each instruction that touches it -/
def kd (a : Nat) : Nat := kdl.getD a 99
def ln (a : Nat) : Nat := lnl.getD a 0
def nf (ci : Nat) : Nat := nfl.getD ci 0
def fr (ci k : Nat) : Bool := (frl.getD ci []).getD k false
/-- ints and references of every cell, by its relative address and place; reference 0 is null -/
abbrev Hp : Type := (Nat → Nat → Int32) × (Nat → Nat → Nat)
def si (h : Hp) (a k : Nat) (v : Int32) : Hp := (fun b => if b = a then upd (h.1 a) k v else h.1 b, h.2)
def sr (h : Hp) (a k : Nat) (q : Nat) : Hp := (h.1, fun b => if b = a then (fun j => if j = k then q else h.2 a j) else h.2 b)
/-- a new cell: ints 0, references null -/
def sz (h : Hp) (a : Nat) : Hp := (fun b => if b = a then (fun _ => 0) else h.1 b, fun b => if b = a then (fun _ => 0) else h.2 b)
/-- a cell's ints all at once -/
def sc (h : Hp) (a : Nat) (f : Nat → Int32) : Hp := (fun b => if b = a then f else h.1 b, h.2)
abbrev GG : Type := va_G × ClassId × ClassId × ClassId × Nat
abbrev bs (G : GG) : Nat := G.2.2.2.2
def ro (b q : Nat) : Option Nat := if q = 0 then none else some (b + q)
def fv (b : Nat) (h : Hp) (a ci k : Nat) : Value := if fr ci k = true then va_rf (ro b (h.2 a k)) else .int (h.1 a k)
def cE (G : GG) (h : Hp) (a : Nat) : va_E :=
  if kd a < 13 then .inr (kd a, (List.range (nf (kd a))).map (fv (bs G) h a (kd a)))
  else if kd a = 14 then .inl (G.2.2.1, ln a, .inl (h.1 a))
  else if kd a = 15 then .inl (G.2.2.2.1, ln a, .inr (.inr (.inr (.inr (fun j => ro (bs G) (h.2 a j))))))
  else .inl (G.2.1, ln a, .inl (h.1 a))
def wl (G : GG) (n : Nat) (h : Hp) : va_W := (List.range n).map (fun i => (bs G + (i + 1), cE G h (i + 1)))
def Wd (G : GG) (n : Nat) (h : Hp) (H : Heap) : Prop := va_P G.1 cls (wl G n h) H ∧ H.size = bs G + 1 + n
abbrev tyl (G : GG) : List (ClassId × FieldType) := [(G.2.1, .int), (G.2.2.1, .char), (G.2.2.2.1, .object RX2)]
def isNest : Cond → Bool
  | .methodLinkNest _ _ _ _ => true
  | .arrayOver (.object _) => true
  | _ => false
def Ks (G : GG) (U : State) : Prop := va_K G.1 cls (tyl G) U ∧ ∀ w ∈ lw_tbl, isNest w = true → va_Nw w U
abbrev Ab (G : GG) : Nat → Prop := fun q => bs G < q
def XW (G : GG) (n : Nat) (h : Hp) (s : State) (cells : Nat) (H : Heap) (locs : List Loc) : Prop := va_P G.1 cls (wl G n h) H ∧ va_S (Ab G) s.heap H locs ∧ s.heap.size + cells = bs G + 1 + n ∧ bs G < s.heap.size
theorem Ks.warm {G : GG} {s U : State} (hW : s.WarmedH U.vm) (h : Ks G s) : Ks G U := by
  refine ⟨va_K.moved hW.alike h.1, fun w hw hn => ?_⟩
  have h2 := h.2 w hw hn
  cases w with
  | methodLinkNest a i x hh => exact va_Nw.warmM hW h2
  | arrayOver ty =>
    cases ty with
    | object C => exact va_AO.moved hW.alike h2
    | _ => simp [isNest] at hn
  | _ => simp [isNest] at hn
theorem Ks.call {G : GG} {U : State} {g : JFrame} {mk : MethodId} {a : Array Value} (h : Ks G U) : Ks G (U.calling g mk a) := by
  refine ⟨va_K.moved (u := U) (U := U.calling g mk a) (Vm.Alike.refl U.vm) h.1, fun w hw hn => ?_⟩
  have h2 := h.2 w hw hn
  cases w with
  | methodLinkNest a i x hh => exact va_Nw.same rfl rfl h2
  | arrayOver ty =>
    cases ty with
    | object C => exact va_AO.moved (u := U) (U := U.calling g mk a) (Vm.Alike.refl U.vm) h2
    | _ => simp [isNest] at hn
  | _ => simp [isNest] at hn
theorem wl_at (G : GG) (h : Hp) {n a : Nat} (h1 : 1 ≤ a) (h2 : a ≤ n) : (wl G n h)[a - 1]? = some (bs G + a, cE G h a) := by
  have e : a - 1 + 1 = a := by omega
  simp only [wl, List.getElem?_map, List.getElem?_range (show a - 1 < n by omega), Option.map_some, e]
theorem wl_set (G : GG) (h h' : Hp) {n a : Nat} (h1 : 1 ≤ a) (hh : ∀ b, b ≠ a → cE G h' b = cE G h b) : (wl G n h).set (a - 1) (bs G + a, cE G h' a) = wl G n h' := by
  apply List.ext_getElem?
  intro i
  rw [List.getElem?_set]
  simp only [wl, List.length_map, List.length_range, List.getElem?_map]
  by_cases hi : a - 1 = i
  · have e : a = i + 1 := by omega
    subst e
    by_cases hn : i < n
    · simp [hn, List.getElem?_range hn]
    · simp [hn]
  · rw [if_neg hi]
    by_cases hn : i < n
    · simp only [List.getElem?_range hn, Option.map_some, hh (i + 1) (by omega)]
    · rw [List.getElem?_eq_none (by simp; omega)]; rfl
theorem wl_push (G : GG) (h h' : Hp) {n : Nat} (hh : ∀ b, b ≤ n → cE G h' b = cE G h b) : wl G n h ++ [(bs G + (n + 1), cE G h' (n + 1))] = wl G (n + 1) h' := by
  simp only [wl, List.range_succ, List.map_append, List.map_cons, List.map_nil]
  congr 1
  apply List.map_congr_left
  intro i hi
  rw [hh (i + 1) (by have := List.mem_range.mp hi; omega)]
theorem wl_D (G : GG) (n : Nat) (h : Hp) : va_D (Ab G) (wl G n h) := by
  have key : ∀ (i : Nat) (q : Nat × va_E), (wl G n h)[i]? = some q → q.1 = bs G + (i + 1) := by
    intro i q hq
    simp only [wl, List.getElem?_map, Option.map_eq_some_iff] at hq
    obtain ⟨j, hj, e⟩ := hq
    obtain ⟨h1, h2⟩ := List.getElem?_eq_some_iff.mp hj
    simp at h2
    rw [← e, h2]
  refine ⟨fun i j x y hi hj e => ?_, fun k q hk => ?_⟩
  · have a1 := key i x hi
    have a2 := key j y hj
    omega
  · have a1 := key k q hk
    show bs G < q.1
    omega
theorem cE_o (G : GG) (h : Hp) {a ci : Nat} (hk : kd a = ci) (hc : ci < 13) : cE G h a = .inr (ci, (List.range (nf ci)).map (fv (bs G) h a ci)) := by
  subst hk
  simp only [cE, if_pos hc]
theorem cE_i (G : GG) (h : Hp) {a : Nat} (hk : kd a = 13 ∨ kd a = 16) : cE G h a = .inl (G.2.1, ln a, .inl (h.1 a)) := by
  unfold cE
  rcases hk with h1 | h1 <;> simp [h1]
theorem cE_c (G : GG) (h : Hp) {a : Nat} (hk : kd a = 14) : cE G h a = .inl (G.2.2.1, ln a, .inl (h.1 a)) := by
  unfold cE
  simp [hk]
theorem cE_d (G : GG) (h : Hp) {a : Nat} (hk : kd a = 15) : cE G h a = .inl (G.2.2.2.1, ln a, .inr (.inr (.inr (.inr (fun j => ro (bs G) (h.2 a j)))))) := by
  unfold cE
  simp [hk]
theorem cE_eq (G : GG) {h h' : Hp} {b : Nat} (h1 : h'.1 b = h.1 b) (h2 : h'.2 b = h.2 b) : cE G h' b = cE G h b := by
  simp only [cE, h1, h2]
  have e : fv (bs G) h' b (kd b) = fv (bs G) h b (kd b) := by
    funext k
    simp only [fv, h1, h2]
  rw [e]
theorem cE_si (G : GG) (h : Hp) (a k : Nat) (v : Int32) (b : Nat) (hb : b ≠ a) : cE G (si h a k v) b = cE G h b := cE_eq G (if_neg hb) rfl
theorem cE_sr (G : GG) (h : Hp) (a k q : Nat) (b : Nat) (hb : b ≠ a) : cE G (sr h a k q) b = cE G h b := cE_eq G rfl (if_neg hb)
theorem cE_sc (G : GG) (h : Hp) (a : Nat) (f : Nat → Int32) (b : Nat) (hb : b ≠ a) : cE G (sc h a f) b = cE G h b := cE_eq G (if_neg hb) rfl
theorem cE_sz (G : GG) (h : Hp) (a : Nat) (b : Nat) (hb : b ≠ a) : cE G (sz h a) b = cE G h b := cE_eq G (if_neg hb) (if_neg hb)
theorem si_1 (h : Hp) (a k : Nat) (v : Int32) : (si h a k v).1 a = upd (h.1 a) k v := if_pos rfl
theorem sr_2 (h : Hp) (a k q : Nat) : (sr h a k q).2 a = fun j => if j = k then q else h.2 a j := if_pos rfl
theorem sc_1 (h : Hp) (a : Nat) (f : Nat → Int32) : (sc h a f).1 a = f := if_pos rfl
theorem rm_set {α : Type} (f : Nat → α) (N k : Nat) (v : α) : ((List.range N).map f).set k v = (List.range N).map (fun j => if j = k then v else f j) := by
  apply List.ext_getElem?
  intro i
  rw [List.getElem?_set]
  simp only [List.length_map, List.length_range, List.getElem?_map]
  by_cases hk : k = i
  · subst hk
    by_cases hn : k < N
    · simp [hn]
    · rw [if_pos rfl, if_neg hn, List.getElem?_eq_none (by simp; omega)]; rfl
  · rw [if_neg hk]
    by_cases hn : i < N
    · simp [List.getElem?_range hn, Ne.symm hk]
    · rw [List.getElem?_eq_none (by simp; omega)]; rfl
theorem fv_int (b : Nat) (h : Hp) (a : Nat) {ci k : Nat} (hf : fr ci k = false) : fv b h a ci k = .int (h.1 a k) := by simp [fv, hf]
theorem fv_ref (b : Nat) (h : Hp) (a : Nat) {ci k : Nat} (hf : fr ci k = true) (hq : h.2 a k ≠ 0) : fv b h a ci k = .ref (b + h.2 a k) := by simp [fv, hf, ro, hq, va_rf]
theorem fv_si (b : Nat) (h : Hp) (a : Nat) {ci k : Nat} (v : Int32) (hf : fr ci k = false) : fv b (si h a k v) a ci = fun j => if j = k then Value.int v else fv b h a ci j := by
  funext j
  by_cases hj : j = k
  · subst hj; simp [fv, hf, si, upd]
  · simp [fv, si, upd, hj]
theorem fv_sr (b : Nat) (h : Hp) (a : Nat) {ci k q : Nat} (hq : q ≠ 0) (hf : fr ci k = true) : fv b (sr h a k q) a ci = fun j => if j = k then Value.ref (b + q) else fv b h a ci j := by
  funext j
  by_cases hj : j = k
  · subst hj; simp [fv, hf, sr, ro, hq, va_rf]
  · simp [fv, sr, hj]
/-- which kinds stand below which bound -/
def kmx (K : Nat) : Nat := if K = 12 ∨ K = 16 then NT else NX
theorem kd_all : ∀ a, a < 102 → (kd a = 99 ∨ (1 ≤ a ∧ a ≤ kmx (kd a))) := by decide +kernel
theorem kd_le {a K : Nat} (h : kd a = K) (hK : K ≠ 99) : 1 ≤ a ∧ a ≤ kmx K := by
  by_cases ha : a < 102
  · rcases kd_all a ha with h1 | h1
    · exact absurd (h.symm.trans h1) hK
    · rw [← h]; exact h1
  · have : kd a = 99 := by
      unfold kd
      rw [List.getD_eq_getElem?_getD, List.getElem?_eq_none (by show 102 ≤ a; omega)]
      rfl
    exact absurd (h.symm.trans this) hK
theorem kd_in {a K n : Nat} (h : kd a = K) (hn : kmx K ≤ n) (hK : K ≠ 99) : 1 ≤ a ∧ a ≤ n := ⟨(kd_le h hK).1, Nat.le_trans (kd_le h hK).2 hn⟩
theorem kd_n0 {a K : Nat} (h : kd a = K) (hK : K ≠ 99) : a ≠ 0 := fun e => by have := (kd_le h hK).1; omega
/-- a field of a class at a place of the constant pool -/
def FL (own : String) (idx ci k : Nat) : Prop := ∃ (C : String) (T : u_T) (N : Nat), cls[ci]? = some (C, T, N) ∧ k < N ∧ Cond.fieldLink own idx (T k).1 (T k).2.1 (T k).2.2.1 ∈ TT
def FO (ci k : Nat) (own : String) : Prop := ∃ (C : String) (T : u_T) (N : Nat), cls[ci]? = some (C, T, N) ∧ (T k).1 = own
def FT (ci k : Nat) (ty : FieldType) (fin : Bool) : Prop := ∃ (C : String) (T : u_T) (N : Nat), cls[ci]? = some (C, T, N) ∧ parseFieldDescriptor (T k).2.2.1 = some ty ∧ (T k).2.2.2 = fin
def gd {α : Type} (c : Prop) [Decidable c] (x : Option α) : Option α := if c then x else none
theorem gd_e {α : Type} {c : Prop} [Decidable c] {x : Option α} {r : α} (h : gd c x = some r) : c ∧ x = some r := by
  unfold gd at h
  by_cases hc : c
  · exact ⟨hc, by rw [if_pos hc] at h; exact h⟩
  · rw [if_neg hc] at h; cases h
theorem gd_t {α : Type} {c : Prop} [Decidable c] {x : Option α} (h : c) : gd c x = x := if_pos h
/-- a name for a picture -/
def lt {α : Type} (x : Hp) (k : Hp → Option α) : Option α := k x
theorem lt_e {α : Type} {x : Hp} {k : Hp → Option α} {r : α} (h : lt x k = some r) : ∃ h', h' = x ∧ k h' = some r := ⟨x, rfl, h⟩
def bd {ρ α : Type} (x : Option (ρ × Hp)) (k : ρ → Hp → Option α) : Option α := match x with
  | some (r, h) => k r h
  | none => none
theorem bd_e {ρ α : Type} {x : Option (ρ × Hp)} {k : ρ → Hp → Option α} {r : α} (h : bd x k = some r) : ∃ v h', x = some (v, h') ∧ k v h' = some r := by
  cases x with
  | none => cases h
  | some q => exact ⟨q.1, q.2, rfl, h⟩
theorem bd_s {ρ α : Type} (v : ρ) (h : Hp) (k : ρ → Hp → Option α) : bd (some (v, h)) k = k v h := rfl
theorem ite_t {α : Type} {c : Prop} [Decidable c] {A B : Option α} {r : α} (h : (if c then A else B) = some r) (hc : c) : A = some r := by rw [if_pos hc] at h; exact h
theorem ite_f {α : Type} {c : Prop} [Decidable c] {A B : Option α} {r : α} (h : (if c then A else B) = some r) (hc : ¬ c) : B = some r := by rw [if_neg hc] at h; exact h
/-- an int that is in a row's range, as the guards have it -/
def inr (i : Int32) (n : Nat) : Bool := decide (0 ≤ i.toInt) && decide (i.toInt < n)
theorem inr_in {i : Int32} {n : Nat} (h : inr i n = true) : vp_in i n := by
  simp only [inr, Bool.and_eq_true, decide_eq_true_eq] at h
  exact vp_in_iff.mpr h
def FU : Nat := 100000
def rmC (d mc ms : Nat) : Room := { frames := d, cells := mc, slots := ms, locals := 60 * d }
def QP (G : GG) (n' : Nat) (h' : Hp) (r : Option Value) : Array Value → State → Outcome → State → Prop := fun _ st o t => o = .returned r ∧ va_P G.1 cls (wl G n' h') t.heap ∧ va_F (Ab G) st t
/-- a contract: from the picture h the method returns r, and leaves the picture h' -/
def CT (l : Launch) (G : GG) (n n' : Nat) (y : MethodName) (cd : Cond) (d mc ms : Nat) (av : List Value) (h h' : Hp) (r : Option Value) : Prop :=
  Met l y (cd :: TT) (rmC d mc ms) (va_Pc av (fun U => Wd G n h U.heap ∧ Ks G U)) (QP G n' h' r) mc ms (Ab G)
def Cx (p : Program) (s : State) (m : MethodId) (args : Array Value) (meth : Method) (c : Code) (G : GG) (bytes : ByteArray) (own : String) (nL : Nat) (ret : Option FieldType) (nm : String) : Prop :=
  p.tables.exec = Jvm.exec ∧ c.code = bytes ∧ meth.sig.returnType = ret ∧ c.maxLocals = nL ∧ s.vm.findClass own = some m.cls ∧ (∀ w ∈ TT, w.before args s = true) ∧ Ks G s ∧ meth.locks = false ∧ meth.name = nm
theorem ct_of {l : Launch} {G : GG} {n n' : Nat} {y : MethodName} {bytes : ByteArray} {maxL : Nat} {ret : Option FieldType} {d mc ms : Nat} {av : List Value} {h h' : Hp} {r : Option Value} (hy : plainName y.cls = true) (hav : (lg_sl av).length ≤ maxL)
    (body : ∀ (p : Program) (e : Env) (s : State) (m : MethodId) (below : List Frame) (meth : Method) (c : Code), Cx p s m av.toArray meth c G bytes y.cls maxL ret y.name → XW G n h s 0 s.heap [] → ∀ ls : Array Slot, lv_has ls maxL (lv_args 0 av) →
      W p l e (rmC d mc ms) s m av.toArray below meth c s.heap [] 0 0 (MQ below (QP G n' h' r) av.toArray s mc ms (Ab G)) (F0 m 0 ls [])) :
    CT l G n n' y (.code y bytes maxL ret) d mc ms av h h' r := by
  refine Met.ofW (cc := bytes) (maxL := maxL) (ret := ret) hy rfl ?_
  intro p e s m args below meth c s₁ B hml hv
  obtain ⟨rfl, hW, hK⟩ := hv
  have hts := atoms_spec (ws := Cond.code y bytes maxL ret :: TT) B.pre
  have hl := lv_entry av (n := maxL) hav
  rw [lg_entry_eq]
  exact body p e s m below meth c ⟨B.exec, B.bytes, B.returns, hml, findClass_of_methodNamed B.named, fun w hw => hts w (List.mem_cons_of_mem _ hw), hK, B.notSynchronized, (name_of_methodNamed B.named B.method).1⟩
    ⟨hW.1, va_S.rf, hW.2, by rw [hW.2]; omega⟩ _ hl
section ROWS
variable {p : Program} {l : Launch} {e : Env} {R : Room} {s : State} {m : MethodId} {args : Array Value} {below : List Frame} {meth : Method} {c : Code} {H : Heap} {locs : List Loc} {cells slots : Nat} {Q : State → Prop}
variable {cc : ByteArray} {pc : Nat} {ls : Array Slot} {rest : List Value} {G : GG} {n : Nat} {h : Hp}
theorem w_size {g : JFrame} (k : H.size ≤ s.heap.size + cells → W p l e R s m args below meth c H locs cells slots Q g) : W p l e R s m args below meth c H locs cells slots Q g := by
  intro T hT X
  refine k ?_ T hT X
  have := X.same.2.2.1
  rw [← hT]
  exact this
theorem XW.sz (X : XW G n h s cells H locs) (hu : H.size ≤ s.heap.size + cells) : H.size = bs G + 1 + n := by
  obtain ⟨h1, h2, h3, h4⟩ := X
  by_cases hn : n = 0
  · have := h2.1
    omega
  · have h5 := (h1 (n - 1) _ (wl_at G h (a := n) (by omega) (by omega))).lt
    dsimp only at h5
    omega
theorem g_get (hx : p.tables.exec = Jvm.exec) (hb : c.code = cc) {own : String} {idx ci k a : Nat} (hts : ∀ w ∈ TT, w.before args s = true) (hown : s.vm.findClass own = some m.cls) (hK : Ks G s) (X : XW G n h s cells H locs) (hk : kd a = ci) (ha : 1 ≤ a ∧ a ≤ n) (hl : FL own idx ci k) (hc : ci < 13)
    (hdg : decode cc pc = .ok (.getfield idx, 3)) (kk : W p l e R s m args below meth c H locs cells slots Q (F0 m (pc + 3) ls (fv (bs G) h a ci k :: rest))) : W p l e R s m args below meth c H locs cells slots Q (F0 m pc ls (.ref (bs G + a) :: rest)) := by
  obtain ⟨C, T, N, h1, h2, h3⟩ := hl
  have he := wl_at G h ha.1 ha.2
  rw [cE_o G h hk hc] at he
  have hok := cls_ok ci C T N h1
  refine va_get hx hb hts hok.1 hown hK.1 X.1 (a - 1) he h1 k h2 (hts _ h3) (fun _ z => z) ?_ hdg kk
  rw [List.getElem?_map, List.getElem?_range (by rw [show nf ci = N from hok.2.1]; exact h2)]
  rfl
theorem g_I (hx : p.tables.exec = Jvm.exec) (hb : c.code = cc) {own : String} {idx ci k a : Nat} (hts : ∀ w ∈ TT, w.before args s = true) (hown : s.vm.findClass own = some m.cls) (hK : Ks G s) (X : XW G n h s cells H locs) (hk : kd a = ci) (hn : kmx ci ≤ n) (hl : FL own idx ci k) (hc : ci < 13) (hfr : fr ci k = false)
    (hdg : decode cc pc = .ok (.getfield idx, 3)) (kk : W p l e R s m args below meth c H locs cells slots Q (F0 m (pc + 3) ls (.int (h.1 a k) :: rest))) : W p l e R s m args below meth c H locs cells slots Q (F0 m pc ls (.ref (bs G + a) :: rest)) :=
  g_get hx hb hts hown hK X hk (kd_in hk hn (by omega)) hl hc hdg (by rw [fv_int _ _ _ hfr]; exact kk)
theorem g_R (hx : p.tables.exec = Jvm.exec) (hb : c.code = cc) {own : String} {idx ci k a K : Nat} (hts : ∀ w ∈ TT, w.before args s = true) (hown : s.vm.findClass own = some m.cls) (hK : Ks G s) (X : XW G n h s cells H locs) (hk : kd a = ci) (hn : kmx ci ≤ n) (hq : kd (h.2 a k) = K) (hl : FL own idx ci k) (hc : ci < 13) (hfr : fr ci k = true) (hK9 : K ≠ 99)
    (hdg : decode cc pc = .ok (.getfield idx, 3)) (kk : W p l e R s m args below meth c H locs cells slots Q (F0 m (pc + 3) ls (.ref (bs G + h.2 a k) :: rest))) : W p l e R s m args below meth c H locs cells slots Q (F0 m pc ls (.ref (bs G + a) :: rest)) :=
  g_get hx hb hts hown hK X hk (kd_in hk hn (by omega)) hl hc hdg (by rw [fv_ref _ _ _ hfr (kd_n0 hq hK9)]; exact kk)
theorem g_put (hx : p.tables.exec = Jvm.exec) (hb : c.code = cc) {own : String} {idx ci k a : Nat} {ty : FieldType} {v : Value} {h1 : Hp} (hts : ∀ w ∈ TT, w.before args s = true) (hown : s.vm.findClass own = some m.cls) (hK : Ks G s) (X : XW G n h s cells H locs) (hk : kd a = ci) (ha : 1 ≤ a ∧ a ≤ n) (hl : FL own idx ci k) (hty : FT ci k ty false) (hc : ci < 13)
    (hnr : narrow ty v = v) (hfit : fits ty v = true) (hh : ∀ b, b ≠ a → cE G h1 b = cE G h b) (hv : fv (bs G) h1 a ci = fun j => if j = k then v else fv (bs G) h a ci j)
    (hdg : decode cc pc = .ok (.putfield idx, 3)) (kk : ∀ (H1 : Heap) (locs1 : List Loc), XW G n h1 s cells H1 locs1 → W p l e R s m args below meth c H1 locs1 cells slots Q (F0 m (pc + 3) ls rest)) : W p l e R s m args below meth c H locs cells slots Q (F0 m pc ls (v :: .ref (bs G + a) :: rest)) := by
  obtain ⟨C, T, N, e1, e2, e3⟩ := hl
  obtain ⟨C', T', N', e1', e4, e5⟩ := hty
  cases e1.symm.trans e1'
  have he := wl_at G h ha.1 ha.2
  rw [cE_o G h hk hc] at he
  have hok := cls_ok ci C T N e1
  obtain ⟨ty0, hty0⟩ := hok.2.2.2
  refine va_put hx hb hts hok.1 ty0 hty0 hok.2.2.1 hown hK.1 X.1 (wl_D G n h) X.2.1 (a - 1) he e1 k e2 (hts _ e3) (fun _ z => z) e5 e4 hnr hfit (by simp; rw [show nf ci = N from hok.2.1]; exact e2) hdg (fun H1 locs1 hP hD hS => ?_)
  have es : (wl G n h).set (a - 1) (bs G + a, Sum.inr (ci, ((List.range (nf ci)).map (fv (bs G) h a ci)).set k v)) = wl G n h1 := by
    rw [rm_set, ← hv, ← cE_o G h1 hk hc]
    exact wl_set G h h1 ha.1 hh
  rw [es] at hP
  exact kk H1 locs1 ⟨hP, hS, X.2.2.1, X.2.2.2⟩
theorem g_putF (hx : p.tables.exec = Jvm.exec) (hb : c.code = cc) {own : String} {idx ci k a : Nat} {ty : FieldType} {v : Value} {h1 : Hp} (hts : ∀ w ∈ TT, w.before args s = true) (hown : s.vm.findClass own = some m.cls) (hK : Ks G s) (X : XW G n h s cells H locs) (hk : kd a = ci) (ha : 1 ≤ a ∧ a ≤ n) (hl : FL own idx ci k) (hty : FT ci k ty true) (hc : ci < 13) (hin : meth.name = "<init>") (hdecl : FO ci k own)
    (hnr : narrow ty v = v) (hfit : fits ty v = true) (hh : ∀ b, b ≠ a → cE G h1 b = cE G h b) (hv : fv (bs G) h1 a ci = fun j => if j = k then v else fv (bs G) h a ci j)
    (hdg : decode cc pc = .ok (.putfield idx, 3)) (kk : ∀ (H1 : Heap) (locs1 : List Loc), XW G n h1 s cells H1 locs1 → W p l e R s m args below meth c H1 locs1 cells slots Q (F0 m (pc + 3) ls rest)) : W p l e R s m args below meth c H locs cells slots Q (F0 m pc ls (v :: .ref (bs G + a) :: rest)) := by
  obtain ⟨C, T, N, e1, e2, e3⟩ := hl
  obtain ⟨C', T', N', e1', e4, e5⟩ := hty
  cases e1.symm.trans e1'
  obtain ⟨C', T', N', e1', e6⟩ := hdecl
  cases e1.symm.trans e1'
  have he := wl_at G h ha.1 ha.2
  rw [cE_o G h hk hc] at he
  have hok := cls_ok ci C T N e1
  obtain ⟨ty0, hty0⟩ := hok.2.2.2
  refine va_putF hx hb hts hok.1 ty0 hty0 hok.2.2.1 hown hK.1 X.1 (wl_D G n h) X.2.1 (a - 1) he e1 k e2 (hts _ e3) (fun _ z => z) e5 hin e6 e4 hnr hfit (by simp; rw [show nf ci = N from hok.2.1]; exact e2) hdg (fun H1 locs1 hP hD hS => ?_)
  have es : (wl G n h).set (a - 1) (bs G + a, Sum.inr (ci, ((List.range (nf ci)).map (fv (bs G) h a ci)).set k v)) = wl G n h1 := by
    rw [rm_set, ← hv, ← cE_o G h1 hk hc]
    exact wl_set G h h1 ha.1 hh
  rw [es] at hP
  exact kk H1 locs1 ⟨hP, hS, X.2.2.1, X.2.2.2⟩
theorem g_PI (hx : p.tables.exec = Jvm.exec) (hb : c.code = cc) {own : String} {idx ci k a : Nat} {v : Int32} (hts : ∀ w ∈ TT, w.before args s = true) (hown : s.vm.findClass own = some m.cls) (hK : Ks G s) (X : XW G n h s cells H locs) (hk : kd a = ci) (hn : kmx ci ≤ n) (hl : FL own idx ci k) (hty : FT ci k .int false) (hc : ci < 13) (hfr : fr ci k = false)
    (hdg : decode cc pc = .ok (.putfield idx, 3)) (kk : ∀ (H1 : Heap) (locs1 : List Loc), XW G n (si h a k v) s cells H1 locs1 → W p l e R s m args below meth c H1 locs1 cells slots Q (F0 m (pc + 3) ls rest)) : W p l e R s m args below meth c H locs cells slots Q (F0 m pc ls (.int v :: .ref (bs G + a) :: rest)) :=
  g_put hx hb hts hown hK X hk (kd_in hk hn (by omega)) hl hty hc rfl rfl (cE_si G h a k v) (fv_si _ _ _ _ hfr) hdg kk
theorem z_ok {v : Int32} (hz : v = 0 ∨ v = 1) : narrow .boolean (.int v) = .int v ∧ fits .boolean (.int v) = true := by
  rcases hz with h | h <;> subst h <;> decide
theorem g_PZ (hx : p.tables.exec = Jvm.exec) (hb : c.code = cc) {own : String} {idx ci k a : Nat} {v : Int32} (hts : ∀ w ∈ TT, w.before args s = true) (hown : s.vm.findClass own = some m.cls) (hK : Ks G s) (X : XW G n h s cells H locs) (hz : v = 0 ∨ v = 1) (hk : kd a = ci) (hn : kmx ci ≤ n) (hl : FL own idx ci k) (hty : FT ci k .boolean false) (hc : ci < 13) (hfr : fr ci k = false)
    (hdg : decode cc pc = .ok (.putfield idx, 3)) (kk : ∀ (H1 : Heap) (locs1 : List Loc), XW G n (si h a k v) s cells H1 locs1 → W p l e R s m args below meth c H1 locs1 cells slots Q (F0 m (pc + 3) ls rest)) : W p l e R s m args below meth c H locs cells slots Q (F0 m pc ls (.int v :: .ref (bs G + a) :: rest)) :=
  g_put hx hb hts hown hK X hk (kd_in hk hn (by omega)) hl hty hc (z_ok hz).1 (z_ok hz).2 (cE_si G h a k v) (fv_si _ _ _ _ hfr) hdg kk
theorem g_PR (hx : p.tables.exec = Jvm.exec) (hb : c.code = cc) {own : String} {idx ci k a q K : Nat} {ty : FieldType} (hts : ∀ w ∈ TT, w.before args s = true) (hown : s.vm.findClass own = some m.cls) (hK : Ks G s) (X : XW G n h s cells H locs) (hk : kd a = ci) (hn : kmx ci ≤ n) (hq : kd q = K) (hl : FL own idx ci k) (hty : FT ci k ty false) (hc : ci < 13) (hfr : fr ci k = true) (hK9 : K ≠ 99) (hnr : ∀ z : Nat, narrow ty (.ref z) = .ref z) (hfit : ∀ z : Nat, fits ty (.ref z) = true)
    (hdg : decode cc pc = .ok (.putfield idx, 3)) (kk : ∀ (H1 : Heap) (locs1 : List Loc), XW G n (sr h a k q) s cells H1 locs1 → W p l e R s m args below meth c H1 locs1 cells slots Q (F0 m (pc + 3) ls rest)) : W p l e R s m args below meth c H locs cells slots Q (F0 m pc ls (.ref (bs G + q) :: .ref (bs G + a) :: rest)) :=
  g_put hx hb hts hown hK X hk (kd_in hk hn (by omega)) hl hty hc (hnr _) (hfit _) (cE_sr G h a k q) (fv_sr _ _ _ (kd_n0 hq hK9) hfr) hdg kk
/-- rows of ints -/
theorem g_ia (hx : p.tables.exec = Jvm.exec) (hb : c.code = cc) {a K : Nat} {i : Int32} (hK : Ks G s) (X : XW G n h s cells H locs) (hk : kd a = K) (hn : kmx K ≤ n) (hin : inr i (ln a) = true) (hK1 : K = 13 ∨ K = 16)
    (hdg : decode cc pc = .ok (.iaload, 1)) (kk : W p l e R s m args below meth c H locs cells slots Q (F0 m (pc + 1) ls (.int (h.1 a i.toNatClampNeg) :: rest))) : W p l e R s m args below meth c H locs cells slots Q (F0 m pc ls (.int i :: .ref (bs G + a) :: rest)) := by
  have ha := kd_in hk hn (by omega)
  have he := wl_at G h ha.1 ha.2
  rw [cE_i G h (by rw [hk]; exact hK1)] at he
  exact va_iald hx hb hK.1 X.1 (a - 1) 0 he rfl (inr_in hin) hdg kk
theorem g_is (hx : p.tables.exec = Jvm.exec) (hb : c.code = cc) {a K : Nat} {i v : Int32} (hK : Ks G s) (X : XW G n h s cells H locs) (hk : kd a = K) (hn : kmx K ≤ n) (hin : inr i (ln a) = true) (hK1 : K = 13 ∨ K = 16)
    (hdg : decode cc pc = .ok (.iastore, 1)) (kk : ∀ (H1 : Heap) (locs1 : List Loc), XW G n (si h a i.toNatClampNeg v) s cells H1 locs1 → W p l e R s m args below meth c H1 locs1 cells slots Q (F0 m (pc + 1) ls rest)) : W p l e R s m args below meth c H locs cells slots Q (F0 m pc ls (.int v :: .int i :: .ref (bs G + a) :: rest)) := by
  have ha := kd_in hk hn (by omega)
  have he := wl_at G h ha.1 ha.2
  have hk2 : kd a = 13 ∨ kd a = 16 := by rw [hk]; exact hK1
  rw [cE_i G h hk2] at he
  refine va_iast hx hb hK.1 X.1 (wl_D G n h) X.2.1 (a - 1) 0 he rfl (inr_in hin) hdg (fun H1 locs1 hP hD hS => ?_)
  rw [← si_1, ← cE_i G _ hk2, wl_set G h _ ha.1 (cE_si G h a _ v)] at hP
  exact kk H1 locs1 ⟨hP, hS, X.2.2.1, X.2.2.2⟩
theorem g_ca (hx : p.tables.exec = Jvm.exec) (hb : c.code = cc) {a : Nat} {i : Int32} (hK : Ks G s) (X : XW G n h s cells H locs) (hk : kd a = 14) (hn : kmx 14 ≤ n) (hin : inr i (ln a) = true)
    (hdg : decode cc pc = .ok (.caload, 1)) (kk : W p l e R s m args below meth c H locs cells slots Q (F0 m (pc + 1) ls (.int (h.1 a i.toNatClampNeg) :: rest))) : W p l e R s m args below meth c H locs cells slots Q (F0 m pc ls (.int i :: .ref (bs G + a) :: rest)) := by
  have ha := kd_in hk hn (by omega)
  have he := wl_at G h ha.1 ha.2
  rw [cE_c G h hk] at he
  exact va_cald hx hb hK.1 X.1 (a - 1) 1 he rfl (inr_in hin) hdg kk
theorem g_cs (hx : p.tables.exec = Jvm.exec) (hb : c.code = cc) {a : Nat} {i v : Int32} (hK : Ks G s) (X : XW G n h s cells H locs) (hk : kd a = 14) (hn : kmx 14 ≤ n) (hin : inr i (ln a) = true)
    (hdg : decode cc pc = .ok (.castore, 1)) (kk : ∀ (H1 : Heap) (locs1 : List Loc), XW G n (si h a i.toNatClampNeg (vp_nar .char v)) s cells H1 locs1 → W p l e R s m args below meth c H1 locs1 cells slots Q (F0 m (pc + 1) ls rest)) : W p l e R s m args below meth c H locs cells slots Q (F0 m pc ls (.int v :: .int i :: .ref (bs G + a) :: rest)) := by
  have ha := kd_in hk hn (by omega)
  have he := wl_at G h ha.1 ha.2
  rw [cE_c G h hk] at he
  refine va_cast hx hb hK.1 X.1 (wl_D G n h) X.2.1 (a - 1) 1 he rfl (inr_in hin) hdg (fun H1 locs1 hP hD hS => ?_)
  rw [← si_1, ← cE_c G _ hk, wl_set G h _ ha.1 (cE_si G h a _ _)] at hP
  exact kk H1 locs1 ⟨hP, hS, X.2.2.1, X.2.2.2⟩
theorem g_al (hx : p.tables.exec = Jvm.exec) (hb : c.code = cc) {a K : Nat} (hK : Ks G s) (X : XW G n h s cells H locs) (hk : kd a = K) (hn : kmx K ≤ n) (hK1 : K = 13 ∨ K = 14 ∨ K = 15 ∨ K = 16)
    (hdg : decode cc pc = .ok (.arraylength, 1)) (kk : W p l e R s m args below meth c H locs cells slots Q (F0 m (pc + 1) ls (.int (nI (ln a)) :: rest))) : W p l e R s m args below meth c H locs cells slots Q (F0 m pc ls (.ref (bs G + a) :: rest)) := by
  have ha := kd_in hk hn (by omega)
  have he := wl_at G h ha.1 ha.2
  by_cases h1 : K = 14
  · rw [cE_c G h (by rw [hk]; exact h1)] at he
    exact va_alen (ty := .char) hx hb hK.1 X.1 (a - 1) 1 he rfl rfl hdg kk
  · by_cases h2 : K = 15
    · rw [cE_d G h (by rw [hk]; exact h2)] at he
      exact va_alen (ty := .object RX2) hx hb hK.1 X.1 (a - 1) 2 he rfl rfl hdg kk
    · rw [cE_i G h (by rw [hk]; omega)] at he
      exact va_alen (ty := .int) hx hb hK.1 X.1 (a - 1) 0 he rfl rfl hdg kk
/-- rows of days -/
theorem g_da (hx : p.tables.exec = Jvm.exec) (hb : c.code = cc) {a : Nat} {i : Int32} (hK : Ks G s) (X : XW G n h s cells H locs) (hk : kd a = 15) (hn : kmx 15 ≤ n) (hin : inr i (ln a) = true) (hq : kd (h.2 a i.toNatClampNeg) = 2)
    (hdg : decode cc pc = .ok (.aaload, 1)) (kk : W p l e R s m args below meth c H locs cells slots Q (F0 m (pc + 1) ls (.ref (bs G + h.2 a i.toNatClampNeg) :: rest))) : W p l e R s m args below meth c H locs cells slots Q (F0 m pc ls (.int i :: .ref (bs G + a) :: rest)) := by
  have ha := kd_in hk hn (by omega)
  have he := wl_at G h ha.1 ha.2
  rw [cE_d G h hk] at he
  refine va_aldq (C := RX2) hx hb hK.1 X.1 (a - 1) 2 he rfl (inr_in hin) hdg ?_
  rw [show va_rf (ro (bs G) (h.2 a i.toNatClampNeg)) = .ref (bs G + h.2 a i.toNatClampNeg) by simp [ro, kd_n0 hq (by decide), va_rf]]
  exact kk
theorem g_ds (hx : p.tables.exec = Jvm.exec) (hb : c.code = cc) {a q : Nat} {i : Int32} (hK : Ks G s) (X : XW G n h s cells H locs) (hk : kd a = 15) (ha : 1 ≤ a ∧ a ≤ n) (hin : inr i (ln a) = true) (hq : kd q = 2) (hqn : 1 ≤ q ∧ q ≤ n)
    (hdg : decode cc pc = .ok (.aastore, 1)) (kk : ∀ (H1 : Heap) (locs1 : List Loc), XW G n (sr h a i.toNatClampNeg q) s cells H1 locs1 → W p l e R s m args below meth c H1 locs1 cells slots Q (F0 m (pc + 1) ls rest)) : W p l e R s m args below meth c H locs cells slots Q (F0 m pc ls (.ref (bs G + q) :: .int i :: .ref (bs G + a) :: rest)) := by
  have he := wl_at G h ha.1 ha.2
  rw [cE_d G h hk] at he
  have hv := wl_at G h hqn.1 hqn.2
  rw [cE_o G h hq (by decide)] at hv
  refine va_astq hx hb hK.1 X.1 (wl_D G n h) X.2.1 (a - 1) 2 (q - 1) 2 he rfl hv (r := (RX2, TX2, 5)) rfl (inr_in hin) hdg (fun H1 locs1 hP hD hS => ?_)
  have e1 : (va_up (fun j => ro (bs G) (h.2 a j)) i.toNatClampNeg (some (bs G + q))) = fun j => ro (bs G) ((sr h a i.toNatClampNeg q).2 a j) := by
    funext j
    rw [sr_2]
    by_cases hj : j = i.toNatClampNeg
    · subst hj; simp [va_up, ro, kd_n0 hq (by decide)]
    · simp [va_up, hj]
  rw [e1, ← cE_d G _ hk, wl_set G h _ ha.1 (cE_sr G h a _ q)] at hP
  exact kk H1 locs1 ⟨hP, hS, X.2.2.1, X.2.2.2⟩
end ROWS
