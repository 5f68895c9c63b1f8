set_option maxRecDepth 100000
def lw_P (b : Addr) (xs : List Int32) (args : Array Value) (s : State) : Prop := args = #[.ref b] ∧ s.IntsAt b xs ∧ xs.length ≤ 256 ∧ (Jvm.Cond.and given_1 narrow_1).before args s = true
def lw_Q (_ : Array Value) (s : State) (o : Outcome) (t : State) : Prop := o = .returned (some (.int 1)) ∧ Framed s o t [] 600000 7302250
def lw_Z (below : List Frame) (a : Array Value) (s : State) : State → Prop := fun t => ∃ o, t.status = .running ∧ Ended t below o ∧ lw_Q a s o t
/-- the law's own end, with 1 on the stack, nothing written that was there before, its room as the claim has it -/
theorem lw_ret {p : Program} {l : Launch} {e : Env} {s : State} {m : MethodId} {below : List Frame} {meth : Method} {c : Code} {b : Nat} (hx : p.tables.exec = Jvm.exec) (hb : c.code = code) (hr : meth.sig.returnType = ret) (hlocks : meth.locks = false) {pc : Nat} {H : Heap} {ls : Array Slot} (hdg : decode code pc = .ok (.ireturn, 1)) : W p l e room_1 s m #[Value.ref b] below meth c H [] 600000 7302250 (lw_Z below #[Value.ref b] s) (F0 m pc ls [.int 1]) := by
  intro T hT X
  obtain ⟨fs, hret, hrun, hended, hW, hframe⟩ := X.leave (v := some (.int 1)) (hlocks := hlocks) (fun h => by rw [hr] at h; cases h)
  have hmeth' : T.vm.method? m = some meth := X.method'
  refine ⟨T.setFrames fs, ?_, .returned (some (.int 1)), hrun, hended, rfl, ⟨_, rfl⟩, hW, hframe⟩
  jvm_step X.here [X.here.top, hx, hb, hdg, hmeth', hr, ret, narrow_b1]
  (try refine ⟨rfl, ?_⟩); (try refine ⟨rfl, ?_⟩)
  first | (intro acts; rw [hret _ acts rfl rfl rfl]) | rw [hret _ _ rfl rfl rfl]
  exact Steps.refl _
/-- what holds at the law's entry: the machine, the code, the tables' words (any of lw_tbl by 'hts w (by decide +kernel)'), the script of L ints xs at the cell b, what the Statement gives of the start (any of its parts by flat_of_before) -/
def lw_At (p : Program) (s : State) (m : MethodId) (meth : Method) (c : Code) (b L : Nat) (xs : Nat → Int32) : Prop :=
  p.tables.exec = Jvm.exec ∧ c.code = code ∧ meth.sig.returnType = ret ∧ c.maxLocals = 4 ∧ s.vm.findClass R_law = some m.cls ∧ (∀ w ∈ lw_tbl, w.before #[Value.ref b] s = true) ∧ va_X b L xs s s.heap ∧ b < s.heap.size ∧ meth.locks = false ∧ (Jvm.Cond.and given_1 narrow_1).before #[Value.ref b] s = true
theorem w_room {p : Program} {l : Launch} {e : Env} {R R' : Room} {s : State} {m : MethodId} {args : Array Value} {below : List Frame} {meth : Method} {c : Code} {H : Heap} {locs : List Loc} {cells slots : Nat} {Q : State → Prop} {g : JFrame} (hR : R'.frames ≤ R.frames ∧ R'.cells ≤ R.cells ∧ R'.slots ≤ R.slots ∧ R'.locals ≤ R.locals) (k : W p l e R' s m args below meth c H locs cells slots Q g) : W p l e R s m args below meth c H locs cells slots Q g := by
  intro T hT X
  refine k T hT { X with room := ?_ }
  have h := X.room
  simp only [State.hasRoom, Bool.and_eq_true, decide_eq_true_eq] at h ⊢
  obtain ⟨⟨⟨⟨h1, h2⟩, h3⟩, h4⟩, h5⟩ := h
  refine ⟨⟨⟨⟨by omega, by omega⟩, by omega⟩, by omega⟩, h5⟩
theorem lw_retR {p : Program} {l : Launch} {e : Env} {s : State} {m : MethodId} {below : List Frame} {meth : Method} {c : Code} {b : Nat} {R : Room} (hx : p.tables.exec = Jvm.exec) (hb : c.code = code) (hr : meth.sig.returnType = ret) (hlocks : meth.locks = false) {pc : Nat} {H : Heap} {ls : Array Slot} (hdg : decode code pc = .ok (.ireturn, 1)) : W p l e R s m #[Value.ref b] below meth c H [] 600000 7302250 (lw_Z below #[Value.ref b] s) (F0 m pc ls [.int 1]) := by
  intro T hT X
  obtain ⟨fs, hret, hrun, hended, hW, hframe⟩ := X.leave (v := some (.int 1)) (hlocks := hlocks) (fun h => by rw [hr] at h; cases h)
  have hmeth' : T.vm.method? m = some meth := X.method'
  refine ⟨T.setFrames fs, ?_, .returned (some (.int 1)), hrun, hended, rfl, ⟨_, rfl⟩, hW, hframe⟩
  jvm_step X.here [X.here.top, hx, hb, hdg, hmeth', hr, ret, narrow_b1]
  (try refine ⟨rfl, ?_⟩); (try refine ⟨rfl, ?_⟩)
  first | (intro acts; rw [hret _ acts rfl rfl rfl]) | rw [hret _ _ rfl rfl rfl]
  exact Steps.refl _
theorem lc_X11_back : LC yX11_back bX11_back 1 (some .int) 0 := ⟨mt (i := 984) (by first | rfl | decide +kernel) (by decide +kernel), mt (i := 52) (by decide +kernel) (by decide +kernel), ⟨by decide +kernel, by decide +kernel, by decide +kernel⟩, by decide⟩
theorem lc_X11_best : LC yX11_best bX11_best 5 (some .int) 3 := ⟨mt (i := 807) (by first | rfl | decide +kernel) (by decide +kernel), mt (i := 52) (by decide +kernel) (by decide +kernel), ⟨by decide +kernel, by decide +kernel, by decide +kernel⟩, by decide⟩
theorem lc_X11_book : LC yX11_book bX11_book 2 (some .int) 1 := ⟨mt (i := 927) (by first | rfl | decide +kernel) (by decide +kernel), mt (i := 52) (by decide +kernel) (by decide +kernel), ⟨by decide +kernel, by decide +kernel, by decide +kernel⟩, by decide⟩
theorem lc_X11_born : LC yX11_born bX11_born 2 (some .int) 0 := ⟨mt (i := 791) (by first | rfl | decide +kernel) (by decide +kernel), mt (i := 52) (by decide +kernel) (by decide +kernel), ⟨by decide +kernel, by decide +kernel, by decide +kernel⟩, by decide⟩
theorem lc_X11_changed : LC yX11_changed bX11_changed 6 (some .int) 0 := ⟨mt (i := 880) (by first | rfl | decide +kernel) (by decide +kernel), mt (i := 52) (by decide +kernel) (by decide +kernel), ⟨by decide +kernel, by decide +kernel, by decide +kernel⟩, by decide⟩
theorem lc_X11_close : LC yX11_close bX11_close 2 (some .int) 0 := ⟨mt (i := 923) (by first | rfl | decide +kernel) (by decide +kernel), mt (i := 52) (by decide +kernel) (by decide +kernel), ⟨by decide +kernel, by decide +kernel, by decide +kernel⟩, by decide⟩
theorem lc_X11_corner : LC yX11_corner bX11_corner 3 (some .int) 2 := ⟨mt (i := 959) (by first | rfl | decide +kernel) (by decide +kernel), mt (i := 52) (by decide +kernel) (by decide +kernel), ⟨by decide +kernel, by decide +kernel, by decide +kernel⟩, by decide⟩
theorem lc_X11_count : LC yX11_count bX11_count 2 (some .int) 1 := ⟨mt (i := 988) (by first | rfl | decide +kernel) (by decide +kernel), mt (i := 52) (by decide +kernel) (by decide +kernel), ⟨by decide +kernel, by decide +kernel, by decide +kernel⟩, by decide⟩
theorem lc_X11_deny : LC yX11_deny bX11_deny 4 (some .int) 2 := ⟨mt (i := 855) (by first | rfl | decide +kernel) (by decide +kernel), mt (i := 52) (by decide +kernel) (by decide +kernel), ⟨by decide +kernel, by decide +kernel, by decide +kernel⟩, by decide⟩
theorem lc_X11_dusk : LC yX11_dusk bX11_dusk 3 (some .int) 1 := ⟨mt (i := 795) (by first | rfl | decide +kernel) (by decide +kernel), mt (i := 52) (by decide +kernel) (by decide +kernel), ⟨by decide +kernel, by decide +kernel, by decide +kernel⟩, by decide⟩
theorem lc_X11_enter : LC yX11_enter bX11_enter 2 (some .int) 1 := ⟨mt (i := 915) (by first | rfl | decide +kernel) (by decide +kernel), mt (i := 52) (by decide +kernel) (by decide +kernel), ⟨by decide +kernel, by decide +kernel, by decide +kernel⟩, by decide⟩
theorem lc_X11_fault : LC yX11_fault bX11_fault 1 (some .int) 0 := ⟨mt (i := 587) (by first | rfl | decide +kernel) (by decide +kernel), mt (i := 52) (by decide +kernel) (by decide +kernel), ⟨by decide +kernel, by decide +kernel, by decide +kernel⟩, by decide⟩
theorem lc_X11_freed : LC yX11_freed bX11_freed 6 (some .int) 1 := ⟨mt (i := 830) (by first | rfl | decide +kernel) (by decide +kernel), mt (i := 52) (by decide +kernel) (by decide +kernel), ⟨by decide +kernel, by decide +kernel, by decide +kernel⟩, by decide⟩
theorem lc_X11_guard : LC yX11_guard bX11_guard 7 (some .int) 0 := ⟨mt (i := 872) (by first | rfl | decide +kernel) (by decide +kernel), mt (i := 52) (by decide +kernel) (by decide +kernel), ⟨by decide +kernel, by decide +kernel, by decide +kernel⟩, by decide⟩
theorem lc_X11_hush : LC yX11_hush bX11_hush 2 (some .int) 0 := ⟨mt (i := 663) (by first | rfl | decide +kernel) (by decide +kernel), mt (i := 52) (by decide +kernel) (by decide +kernel), ⟨by decide +kernel, by decide +kernel, by decide +kernel⟩, by decide⟩
theorem lc_X11_keep : LC yX11_keep bX11_keep 1 (some .int) 0 := ⟨mt (i := 980) (by first | rfl | decide +kernel) (by decide +kernel), mt (i := 52) (by decide +kernel) (by decide +kernel), ⟨by decide +kernel, by decide +kernel, by decide +kernel⟩, by decide⟩
theorem lc_X11_law : LC yX11_law bX11_law 2 (some .int) 1 := ⟨mt (i := 644) (by first | rfl | decide +kernel) (by decide +kernel), mt (i := 52) (by decide +kernel) (by decide +kernel), ⟨by decide +kernel, by decide +kernel, by decide +kernel⟩, by decide⟩
theorem lc_X11_lay : LC yX11_lay bX11_lay 2 (some .int) 0 := ⟨mt (i := 591) (by first | rfl | decide +kernel) (by decide +kernel), mt (i := 52) (by decide +kernel) (by decide +kernel), ⟨by decide +kernel, by decide +kernel, by decide +kernel⟩, by decide⟩
theorem lc_X11_lend : LC yX11_lend bX11_lend 4 (some .int) 2 := ⟨mt (i := 783) (by first | rfl | decide +kernel) (by decide +kernel), mt (i := 52) (by decide +kernel) (by decide +kernel), ⟨by decide +kernel, by decide +kernel, by decide +kernel⟩, by decide⟩
theorem lc_X11_lowest : LC yX11_lowest bX11_lowest 3 (some .int) 1 := ⟨mt (i := 911) (by first | rfl | decide +kernel) (by decide +kernel), mt (i := 52) (by decide +kernel) (by decide +kernel), ⟨by decide +kernel, by decide +kernel, by decide +kernel⟩, by decide⟩
theorem lc_X11_number : LC yX11_number bX11_number 3 (some .int) 2 := ⟨mt (i := 599) (by first | rfl | decide +kernel) (by decide +kernel), mt (i := 52) (by decide +kernel) (by decide +kernel), ⟨by decide +kernel, by decide +kernel, by decide +kernel⟩, by decide⟩
theorem lc_X11_order : LC yX11_order bX11_order 3 (some .int) 1 := ⟨mt (i := 834) (by first | rfl | decide +kernel) (by decide +kernel), mt (i := 52) (by decide +kernel) (by decide +kernel), ⟨by decide +kernel, by decide +kernel, by decide +kernel⟩, by decide⟩
theorem lc_X11_person : LC yX11_person bX11_person 3 (some .int) 2 := ⟨mt (i := 610) (by first | rfl | decide +kernel) (by decide +kernel), mt (i := 52) (by decide +kernel) (by decide +kernel), ⟨by decide +kernel, by decide +kernel, by decide +kernel⟩, by decide⟩
theorem lc_X11_say : LC yX11_say bX11_say 5 (some .int) 1 := ⟨mt (i := 690) (by first | rfl | decide +kernel) (by decide +kernel), mt (i := 52) (by decide +kernel) (by decide +kernel), ⟨by decide +kernel, by decide +kernel, by decide +kernel⟩, by decide⟩
theorem lc_X11_speak : LC yX11_speak bX11_speak 3 (some .int) 1 := ⟨mt (i := 713) (by first | rfl | decide +kernel) (by decide +kernel), mt (i := 52) (by decide +kernel) (by decide +kernel), ⟨by decide +kernel, by decide +kernel, by decide +kernel⟩, by decide⟩
theorem lc_X11_stuck : LC yX11_stuck bX11_stuck 1 (some .int) 0 := ⟨mt (i := 819) (by first | rfl | decide +kernel) (by decide +kernel), mt (i := 52) (by decide +kernel) (by decide +kernel), ⟨by decide +kernel, by decide +kernel, by decide +kernel⟩, by decide⟩
theorem lc_X11_tell : LC yX11_tell bX11_tell 3 (some .int) 2 := ⟨mt (i := 648) (by first | rfl | decide +kernel) (by decide +kernel), mt (i := 52) (by decide +kernel) (by decide +kernel), ⟨by decide +kernel, by decide +kernel, by decide +kernel⟩, by decide⟩
theorem lc_X11_twice : LC yX11_twice bX11_twice 2 (some .int) 0 := ⟨mt (i := 950) (by first | rfl | decide +kernel) (by decide +kernel), mt (i := 52) (by decide +kernel) (by decide +kernel), ⟨by decide +kernel, by decide +kernel, by decide +kernel⟩, by decide⟩
theorem lc_X11_undo : LC yX11_undo bX11_undo 1 (some .int) 0 := ⟨mt (i := 799) (by first | rfl | decide +kernel) (by decide +kernel), mt (i := 52) (by decide +kernel) (by decide +kernel), ⟨by decide +kernel, by decide +kernel, by decide +kernel⟩, by decide⟩
theorem lc_X11_value : LC yX11_value bX11_value 7 (some .int) 1 := ⟨mt (i := 876) (by first | rfl | decide +kernel) (by decide +kernel), mt (i := 52) (by decide +kernel) (by decide +kernel), ⟨by decide +kernel, by decide +kernel, by decide +kernel⟩, by decide⟩
theorem lc_X11_ways : LC yX11_ways bX11_ways 4 (some .int) 3 := ⟨mt (i := 884) (by first | rfl | decide +kernel) (by decide +kernel), mt (i := 52) (by decide +kernel) (by decide +kernel), ⟨by decide +kernel, by decide +kernel, by decide +kernel⟩, by decide⟩
theorem lc_X11_wipe : LC yX11_wipe bX11_wipe 2 (some .int) 0 := ⟨mt (i := 583) (by first | rfl | decide +kernel) (by decide +kernel), mt (i := 52) (by decide +kernel) (by decide +kernel), ⟨by decide +kernel, by decide +kernel, by decide +kernel⟩, by decide⟩
theorem lc_X11_words : LC yX11_words bX11_words 2 (some .int) 1 := ⟨mt (i := 667) (by first | rfl | decide +kernel) (by decide +kernel), mt (i := 52) (by decide +kernel) (by decide +kernel), ⟨by decide +kernel, by decide +kernel, by decide +kernel⟩, by decide⟩
theorem lc_X11_write : LC yX11_write bX11_write 2 (some .int) 1 := ⟨mt (i := 579) (by first | rfl | decide +kernel) (by decide +kernel), mt (i := 52) (by decide +kernel) (by decide +kernel), ⟨by decide +kernel, by decide +kernel, by decide +kernel⟩, by decide⟩
theorem lc_X11_year : LC yX11_year bX11_year 8 (some .int) 3 := ⟨mt (i := 967) (by first | rfl | decide +kernel) (by decide +kernel), mt (i := 52) (by decide +kernel) (by decide +kernel), ⟨by decide +kernel, by decide +kernel, by decide +kernel⟩, by decide⟩
theorem lc_X12_back : LC yX12_back bX12_back 2 (some .int) 0 := ⟨mt (i := 1374) (by first | rfl | decide +kernel) (by decide +kernel), mt (i := 69) (by decide +kernel) (by decide +kernel), ⟨by decide +kernel, by decide +kernel, by decide +kernel⟩, by decide⟩
theorem lc_X12_best : LC yX12_best bX12_best 5 (some .int) 3 := ⟨mt (i := 1263) (by first | rfl | decide +kernel) (by decide +kernel), mt (i := 69) (by decide +kernel) (by decide +kernel), ⟨by decide +kernel, by decide +kernel, by decide +kernel⟩, by decide⟩
theorem lc_X12_book : LC yX12_book bX12_book 4 (some .int) 1 := ⟨mt (i := 1344) (by first | rfl | decide +kernel) (by decide +kernel), mt (i := 69) (by decide +kernel) (by decide +kernel), ⟨by decide +kernel, by decide +kernel, by decide +kernel⟩, by decide⟩
theorem lc_X12_born : LC yX12_born bX12_born 2 (some .int) 0 := ⟨mt (i := 1248) (by first | rfl | decide +kernel) (by decide +kernel), mt (i := 69) (by decide +kernel) (by decide +kernel), ⟨by decide +kernel, by decide +kernel, by decide +kernel⟩, by decide⟩
theorem lc_X12_changed : LC yX12_changed bX12_changed 5 (some .int) 0 := ⟨mt (i := 1315) (by first | rfl | decide +kernel) (by decide +kernel), mt (i := 69) (by decide +kernel) (by decide +kernel), ⟨by decide +kernel, by decide +kernel, by decide +kernel⟩, by decide⟩
theorem lc_X12_close : LC yX12_close bX12_close 2 (some .int) 0 := ⟨mt (i := 1340) (by first | rfl | decide +kernel) (by decide +kernel), mt (i := 69) (by decide +kernel) (by decide +kernel), ⟨by decide +kernel, by decide +kernel, by decide +kernel⟩, by decide⟩
theorem lc_X12_corner : LC yX12_corner bX12_corner 7 (some .int) 2 := ⟨mt (i := 1356) (by first | rfl | decide +kernel) (by decide +kernel), mt (i := 69) (by decide +kernel) (by decide +kernel), ⟨by decide +kernel, by decide +kernel, by decide +kernel⟩, by decide⟩
theorem lc_X12_count : LC yX12_count bX12_count 2 (some .int) 1 := ⟨mt (i := 1378) (by first | rfl | decide +kernel) (by decide +kernel), mt (i := 69) (by decide +kernel) (by decide +kernel), ⟨by decide +kernel, by decide +kernel, by decide +kernel⟩, by decide⟩
theorem lc_X12_deny : LC yX12_deny bX12_deny 10 (some .int) 2 := ⟨mt (i := 1303) (by first | rfl | decide +kernel) (by decide +kernel), mt (i := 69) (by decide +kernel) (by decide +kernel), ⟨by decide +kernel, by decide +kernel, by decide +kernel⟩, by decide⟩
theorem lc_X12_dusk : LC yX12_dusk bX12_dusk 3 (some .int) 1 := ⟨mt (i := 1252) (by first | rfl | decide +kernel) (by decide +kernel), mt (i := 69) (by decide +kernel) (by decide +kernel), ⟨by decide +kernel, by decide +kernel, by decide +kernel⟩, by decide⟩
theorem lc_X12_enter : LC yX12_enter bX12_enter 2 (some .int) 1 := ⟨mt (i := 1336) (by first | rfl | decide +kernel) (by decide +kernel), mt (i := 69) (by decide +kernel) (by decide +kernel), ⟨by decide +kernel, by decide +kernel, by decide +kernel⟩, by decide⟩
theorem lc_X12_fault : LC yX12_fault bX12_fault 1 (some .int) 0 := ⟨mt (i := 1110) (by first | rfl | decide +kernel) (by decide +kernel), mt (i := 69) (by decide +kernel) (by decide +kernel), ⟨by decide +kernel, by decide +kernel, by decide +kernel⟩, by decide⟩
theorem lc_X12_freed : LC yX12_freed bX12_freed 4 (some .int) 1 := ⟨mt (i := 1285) (by first | rfl | decide +kernel) (by decide +kernel), mt (i := 69) (by decide +kernel) (by decide +kernel), ⟨by decide +kernel, by decide +kernel, by decide +kernel⟩, by decide⟩
theorem lc_X12_guard : LC yX12_guard bX12_guard 6 (some .int) 0 := ⟨mt (i := 1307) (by first | rfl | decide +kernel) (by decide +kernel), mt (i := 69) (by decide +kernel) (by decide +kernel), ⟨by decide +kernel, by decide +kernel, by decide +kernel⟩, by decide⟩
theorem lc_X12_hush : LC yX12_hush bX12_hush 2 (some .int) 0 := ⟨mt (i := 1175) (by first | rfl | decide +kernel) (by decide +kernel), mt (i := 69) (by decide +kernel) (by decide +kernel), ⟨by decide +kernel, by decide +kernel, by decide +kernel⟩, by decide⟩
theorem lc_X12_keep : LC yX12_keep bX12_keep 2 (some .int) 0 := ⟨mt (i := 1370) (by first | rfl | decide +kernel) (by decide +kernel), mt (i := 69) (by decide +kernel) (by decide +kernel), ⟨by decide +kernel, by decide +kernel, by decide +kernel⟩, by decide⟩
theorem lc_X12_law : LC yX12_law bX12_law 2 (some .int) 1 := ⟨mt (i := 1166) (by first | rfl | decide +kernel) (by decide +kernel), mt (i := 69) (by decide +kernel) (by decide +kernel), ⟨by decide +kernel, by decide +kernel, by decide +kernel⟩, by decide⟩
theorem lc_X12_lay : LC yX12_lay bX12_lay 2 (some .int) 0 := ⟨mt (i := 1134) (by first | rfl | decide +kernel) (by decide +kernel), mt (i := 69) (by decide +kernel) (by decide +kernel), ⟨by decide +kernel, by decide +kernel, by decide +kernel⟩, by decide⟩
theorem lc_X12_lend : LC yX12_lend bX12_lend 6 (some .int) 2 := ⟨mt (i := 1244) (by first | rfl | decide +kernel) (by decide +kernel), mt (i := 69) (by decide +kernel) (by decide +kernel), ⟨by decide +kernel, by decide +kernel, by decide +kernel⟩, by decide⟩
theorem lc_X12_lowest : LC yX12_lowest bX12_lowest 3 (some .int) 1 := ⟨mt (i := 1332) (by first | rfl | decide +kernel) (by decide +kernel), mt (i := 69) (by decide +kernel) (by decide +kernel), ⟨by decide +kernel, by decide +kernel, by decide +kernel⟩, by decide⟩
theorem lc_X12_number : LC yX12_number bX12_number 3 (some .int) 2 := ⟨mt (i := 1138) (by first | rfl | decide +kernel) (by decide +kernel), mt (i := 69) (by decide +kernel) (by decide +kernel), ⟨by decide +kernel, by decide +kernel, by decide +kernel⟩, by decide⟩
theorem lc_X12_order : LC yX12_order bX12_order 2 (some .int) 1 := ⟨mt (i := 1289) (by first | rfl | decide +kernel) (by decide +kernel), mt (i := 69) (by decide +kernel) (by decide +kernel), ⟨by decide +kernel, by decide +kernel, by decide +kernel⟩, by decide⟩
theorem lc_X12_person : LC yX12_person bX12_person 3 (some .int) 2 := ⟨mt (i := 1146) (by first | rfl | decide +kernel) (by decide +kernel), mt (i := 69) (by decide +kernel) (by decide +kernel), ⟨by decide +kernel, by decide +kernel, by decide +kernel⟩, by decide⟩
theorem lc_X12_say : LC yX12_say bX12_say 4 (some .int) 1 := ⟨mt (i := 1202) (by first | rfl | decide +kernel) (by decide +kernel), mt (i := 69) (by decide +kernel) (by decide +kernel), ⟨by decide +kernel, by decide +kernel, by decide +kernel⟩, by decide⟩
theorem lc_X12_speak : LC yX12_speak bX12_speak 3 (some .int) 1 := ⟨mt (i := 1217) (by first | rfl | decide +kernel) (by decide +kernel), mt (i := 69) (by decide +kernel) (by decide +kernel), ⟨by decide +kernel, by decide +kernel, by decide +kernel⟩, by decide⟩
theorem lc_X12_stuck : LC yX12_stuck bX12_stuck 1 (some .int) 0 := ⟨mt (i := 1269) (by first | rfl | decide +kernel) (by decide +kernel), mt (i := 69) (by decide +kernel) (by decide +kernel), ⟨by decide +kernel, by decide +kernel, by decide +kernel⟩, by decide⟩
theorem lc_X12_tell : LC yX12_tell bX12_tell 4 (some .int) 2 := ⟨mt (i := 1170) (by first | rfl | decide +kernel) (by decide +kernel), mt (i := 69) (by decide +kernel) (by decide +kernel), ⟨by decide +kernel, by decide +kernel, by decide +kernel⟩, by decide⟩
theorem lc_X12_twice : LC yX12_twice bX12_twice 4 (some .int) 0 := ⟨mt (i := 1352) (by first | rfl | decide +kernel) (by decide +kernel), mt (i := 69) (by decide +kernel) (by decide +kernel), ⟨by decide +kernel, by decide +kernel, by decide +kernel⟩, by decide⟩
theorem lc_X12_undo : LC yX12_undo bX12_undo 2 (some .int) 0 := ⟨mt (i := 1259) (by first | rfl | decide +kernel) (by decide +kernel), mt (i := 69) (by decide +kernel) (by decide +kernel), ⟨by decide +kernel, by decide +kernel, by decide +kernel⟩, by decide⟩
theorem lc_X12_value : LC yX12_value bX12_value 5 (some .int) 1 := ⟨mt (i := 1311) (by first | rfl | decide +kernel) (by decide +kernel), mt (i := 69) (by decide +kernel) (by decide +kernel), ⟨by decide +kernel, by decide +kernel, by decide +kernel⟩, by decide⟩
theorem lc_X12_ways : LC yX12_ways bX12_ways 4 (some .int) 3 := ⟨mt (i := 1319) (by first | rfl | decide +kernel) (by decide +kernel), mt (i := 69) (by decide +kernel) (by decide +kernel), ⟨by decide +kernel, by decide +kernel, by decide +kernel⟩, by decide⟩
theorem lc_X12_wipe : LC yX12_wipe bX12_wipe 2 (some .int) 0 := ⟨mt (i := 1106) (by first | rfl | decide +kernel) (by decide +kernel), mt (i := 69) (by decide +kernel) (by decide +kernel), ⟨by decide +kernel, by decide +kernel, by decide +kernel⟩, by decide⟩
theorem lc_X12_words : LC yX12_words bX12_words 2 (some .int) 1 := ⟨mt (i := 1179) (by first | rfl | decide +kernel) (by decide +kernel), mt (i := 69) (by decide +kernel) (by decide +kernel), ⟨by decide +kernel, by decide +kernel, by decide +kernel⟩, by decide⟩
theorem lc_X12_write : LC yX12_write bX12_write 2 (some .int) 1 := ⟨mt (i := 1097) (by first | rfl | decide +kernel) (by decide +kernel), mt (i := 69) (by decide +kernel) (by decide +kernel), ⟨by decide +kernel, by decide +kernel, by decide +kernel⟩, by decide⟩
theorem lc_X12_year : LC yX12_year bX12_year 15 (some .int) 3 := ⟨mt (i := 1360) (by first | rfl | decide +kernel) (by decide +kernel), mt (i := 69) (by decide +kernel) (by decide +kernel), ⟨by decide +kernel, by decide +kernel, by decide +kernel⟩, by decide⟩
theorem lv_L_101 : LV R_law 101 yX12_deny := ⟨mt (i := 1300) (by decide +kernel) (by decide +kernel), mt (i := 1301) (by decide +kernel) (by decide +kernel), mt (i := 1302) (by decide +kernel) (by decide +kernel)⟩
theorem lv_L_102 : LV R_law 102 yX11_guard := ⟨mt (i := 869) (by decide +kernel) (by decide +kernel), mt (i := 870) (by decide +kernel) (by decide +kernel), mt (i := 871) (by decide +kernel) (by decide +kernel)⟩
theorem lv_L_105 : LV R_law 105 yX12_guard := ⟨mt (i := 1304) (by decide +kernel) (by decide +kernel), mt (i := 1305) (by decide +kernel) (by decide +kernel), mt (i := 1306) (by decide +kernel) (by decide +kernel)⟩
theorem lv_L_106 : LV R_law 106 yX11_value := ⟨mt (i := 873) (by decide +kernel) (by decide +kernel), mt (i := 874) (by decide +kernel) (by decide +kernel), mt (i := 875) (by decide +kernel) (by decide +kernel)⟩
theorem lv_L_109 : LV R_law 109 yX12_value := ⟨mt (i := 1308) (by decide +kernel) (by decide +kernel), mt (i := 1309) (by decide +kernel) (by decide +kernel), mt (i := 1310) (by decide +kernel) (by decide +kernel)⟩
theorem lv_L_110 : LV R_law 110 yX11_changed := ⟨mt (i := 877) (by decide +kernel) (by decide +kernel), mt (i := 878) (by decide +kernel) (by decide +kernel), mt (i := 879) (by decide +kernel) (by decide +kernel)⟩
theorem lv_L_113 : LV R_law 113 yX12_changed := ⟨mt (i := 1312) (by decide +kernel) (by decide +kernel), mt (i := 1313) (by decide +kernel) (by decide +kernel), mt (i := 1314) (by decide +kernel) (by decide +kernel)⟩
theorem lv_L_114 : LV R_law 114 yX11_ways := ⟨mt (i := 881) (by decide +kernel) (by decide +kernel), mt (i := 882) (by decide +kernel) (by decide +kernel), mt (i := 883) (by decide +kernel) (by decide +kernel)⟩
theorem lv_L_117 : LV R_law 117 yX12_ways := ⟨mt (i := 1316) (by decide +kernel) (by decide +kernel), mt (i := 1317) (by decide +kernel) (by decide +kernel), mt (i := 1318) (by decide +kernel) (by decide +kernel)⟩
theorem lv_L_118 : LV R_law 118 yX11_lowest := ⟨mt (i := 908) (by decide +kernel) (by decide +kernel), mt (i := 909) (by decide +kernel) (by decide +kernel), mt (i := 910) (by decide +kernel) (by decide +kernel)⟩
theorem lv_L_121 : LV R_law 121 yX12_lowest := ⟨mt (i := 1329) (by decide +kernel) (by decide +kernel), mt (i := 1330) (by decide +kernel) (by decide +kernel), mt (i := 1331) (by decide +kernel) (by decide +kernel)⟩
theorem lv_L_122 : LV R_law 122 yX11_enter := ⟨mt (i := 912) (by decide +kernel) (by decide +kernel), mt (i := 913) (by decide +kernel) (by decide +kernel), mt (i := 914) (by decide +kernel) (by decide +kernel)⟩
theorem lv_L_125 : LV R_law 125 yX12_enter := ⟨mt (i := 1333) (by decide +kernel) (by decide +kernel), mt (i := 1334) (by decide +kernel) (by decide +kernel), mt (i := 1335) (by decide +kernel) (by decide +kernel)⟩
theorem lv_L_126 : LV R_law 126 yX11_close := ⟨mt (i := 920) (by decide +kernel) (by decide +kernel), mt (i := 921) (by decide +kernel) (by decide +kernel), mt (i := 922) (by decide +kernel) (by decide +kernel)⟩
theorem lv_L_129 : LV R_law 129 yX12_close := ⟨mt (i := 1337) (by decide +kernel) (by decide +kernel), mt (i := 1338) (by decide +kernel) (by decide +kernel), mt (i := 1339) (by decide +kernel) (by decide +kernel)⟩
theorem lv_L_13 : LV R_law 13 yX11_write := ⟨mt (i := 576) (by decide +kernel) (by decide +kernel), mt (i := 577) (by decide +kernel) (by decide +kernel), mt (i := 578) (by decide +kernel) (by decide +kernel)⟩
theorem lv_L_130 : LV R_law 130 yX11_book := ⟨mt (i := 924) (by decide +kernel) (by decide +kernel), mt (i := 925) (by decide +kernel) (by decide +kernel), mt (i := 926) (by decide +kernel) (by decide +kernel)⟩
theorem lv_L_133 : LV R_law 133 yX12_book := ⟨mt (i := 1341) (by decide +kernel) (by decide +kernel), mt (i := 1342) (by decide +kernel) (by decide +kernel), mt (i := 1343) (by decide +kernel) (by decide +kernel)⟩
theorem lv_L_134 : LV R_law 134 yX11_twice := ⟨mt (i := 947) (by decide +kernel) (by decide +kernel), mt (i := 948) (by decide +kernel) (by decide +kernel), mt (i := 949) (by decide +kernel) (by decide +kernel)⟩
theorem lv_L_137 : LV R_law 137 yX12_twice := ⟨mt (i := 1349) (by decide +kernel) (by decide +kernel), mt (i := 1350) (by decide +kernel) (by decide +kernel), mt (i := 1351) (by decide +kernel) (by decide +kernel)⟩
theorem lv_L_138 : LV R_law 138 yX11_corner := ⟨mt (i := 956) (by decide +kernel) (by decide +kernel), mt (i := 957) (by decide +kernel) (by decide +kernel), mt (i := 958) (by decide +kernel) (by decide +kernel)⟩
theorem lv_L_141 : LV R_law 141 yX12_corner := ⟨mt (i := 1353) (by decide +kernel) (by decide +kernel), mt (i := 1354) (by decide +kernel) (by decide +kernel), mt (i := 1355) (by decide +kernel) (by decide +kernel)⟩
theorem lv_L_142 : LV R_law 142 yX11_year := ⟨mt (i := 964) (by decide +kernel) (by decide +kernel), mt (i := 965) (by decide +kernel) (by decide +kernel), mt (i := 966) (by decide +kernel) (by decide +kernel)⟩
theorem lv_L_145 : LV R_law 145 yX12_year := ⟨mt (i := 1357) (by decide +kernel) (by decide +kernel), mt (i := 1358) (by decide +kernel) (by decide +kernel), mt (i := 1359) (by decide +kernel) (by decide +kernel)⟩
theorem lv_L_146 : LV R_law 146 yX11_keep := ⟨mt (i := 977) (by decide +kernel) (by decide +kernel), mt (i := 978) (by decide +kernel) (by decide +kernel), mt (i := 979) (by decide +kernel) (by decide +kernel)⟩
theorem lv_L_149 : LV R_law 149 yX12_keep := ⟨mt (i := 1367) (by decide +kernel) (by decide +kernel), mt (i := 1368) (by decide +kernel) (by decide +kernel), mt (i := 1369) (by decide +kernel) (by decide +kernel)⟩
theorem lv_L_150 : LV R_law 150 yX11_back := ⟨mt (i := 981) (by decide +kernel) (by decide +kernel), mt (i := 982) (by decide +kernel) (by decide +kernel), mt (i := 983) (by decide +kernel) (by decide +kernel)⟩
theorem lv_L_153 : LV R_law 153 yX12_back := ⟨mt (i := 1371) (by decide +kernel) (by decide +kernel), mt (i := 1372) (by decide +kernel) (by decide +kernel), mt (i := 1373) (by decide +kernel) (by decide +kernel)⟩
theorem lv_L_154 : LV R_law 154 yX11_count := ⟨mt (i := 985) (by decide +kernel) (by decide +kernel), mt (i := 986) (by decide +kernel) (by decide +kernel), mt (i := 987) (by decide +kernel) (by decide +kernel)⟩
theorem lv_L_157 : LV R_law 157 yX12_count := ⟨mt (i := 1375) (by decide +kernel) (by decide +kernel), mt (i := 1376) (by decide +kernel) (by decide +kernel), mt (i := 1377) (by decide +kernel) (by decide +kernel)⟩
theorem lv_L_17 : LV R_law 17 yX12_write := ⟨mt (i := 1094) (by decide +kernel) (by decide +kernel), mt (i := 1095) (by decide +kernel) (by decide +kernel), mt (i := 1096) (by decide +kernel) (by decide +kernel)⟩
theorem lv_L_18 : LV R_law 18 yX11_wipe := ⟨mt (i := 580) (by decide +kernel) (by decide +kernel), mt (i := 581) (by decide +kernel) (by decide +kernel), mt (i := 582) (by decide +kernel) (by decide +kernel)⟩
theorem lv_L_22 : LV R_law 22 yX12_wipe := ⟨mt (i := 1103) (by decide +kernel) (by decide +kernel), mt (i := 1104) (by decide +kernel) (by decide +kernel), mt (i := 1105) (by decide +kernel) (by decide +kernel)⟩
theorem lv_L_23 : LV R_law 23 yX11_fault := ⟨mt (i := 584) (by decide +kernel) (by decide +kernel), mt (i := 585) (by decide +kernel) (by decide +kernel), mt (i := 586) (by decide +kernel) (by decide +kernel)⟩
theorem lv_L_26 : LV R_law 26 yX12_fault := ⟨mt (i := 1107) (by decide +kernel) (by decide +kernel), mt (i := 1108) (by decide +kernel) (by decide +kernel), mt (i := 1109) (by decide +kernel) (by decide +kernel)⟩
theorem lv_L_27 : LV R_law 27 yX11_lay := ⟨mt (i := 588) (by decide +kernel) (by decide +kernel), mt (i := 589) (by decide +kernel) (by decide +kernel), mt (i := 590) (by decide +kernel) (by decide +kernel)⟩
theorem lv_L_30 : LV R_law 30 yX12_lay := ⟨mt (i := 1131) (by decide +kernel) (by decide +kernel), mt (i := 1132) (by decide +kernel) (by decide +kernel), mt (i := 1133) (by decide +kernel) (by decide +kernel)⟩
theorem lv_L_31 : LV R_law 31 yX11_number := ⟨mt (i := 596) (by decide +kernel) (by decide +kernel), mt (i := 597) (by decide +kernel) (by decide +kernel), mt (i := 598) (by decide +kernel) (by decide +kernel)⟩
theorem lv_L_35 : LV R_law 35 yX12_number := ⟨mt (i := 1135) (by decide +kernel) (by decide +kernel), mt (i := 1136) (by decide +kernel) (by decide +kernel), mt (i := 1137) (by decide +kernel) (by decide +kernel)⟩
theorem lv_L_36 : LV R_law 36 yX11_person := ⟨mt (i := 607) (by decide +kernel) (by decide +kernel), mt (i := 608) (by decide +kernel) (by decide +kernel), mt (i := 609) (by decide +kernel) (by decide +kernel)⟩
theorem lv_L_39 : LV R_law 39 yX12_person := ⟨mt (i := 1143) (by decide +kernel) (by decide +kernel), mt (i := 1144) (by decide +kernel) (by decide +kernel), mt (i := 1145) (by decide +kernel) (by decide +kernel)⟩
theorem lv_L_40 : LV R_law 40 yX11_law := ⟨mt (i := 641) (by decide +kernel) (by decide +kernel), mt (i := 642) (by decide +kernel) (by decide +kernel), mt (i := 643) (by decide +kernel) (by decide +kernel)⟩
theorem lv_L_43 : LV R_law 43 yX12_law := ⟨mt (i := 1163) (by decide +kernel) (by decide +kernel), mt (i := 1164) (by decide +kernel) (by decide +kernel), mt (i := 1165) (by decide +kernel) (by decide +kernel)⟩
theorem lv_L_44 : LV R_law 44 yX11_tell := ⟨mt (i := 645) (by decide +kernel) (by decide +kernel), mt (i := 646) (by decide +kernel) (by decide +kernel), mt (i := 647) (by decide +kernel) (by decide +kernel)⟩
theorem lv_L_47 : LV R_law 47 yX12_tell := ⟨mt (i := 1167) (by decide +kernel) (by decide +kernel), mt (i := 1168) (by decide +kernel) (by decide +kernel), mt (i := 1169) (by decide +kernel) (by decide +kernel)⟩
theorem lv_L_48 : LV R_law 48 yX11_hush := ⟨mt (i := 660) (by decide +kernel) (by decide +kernel), mt (i := 661) (by decide +kernel) (by decide +kernel), mt (i := 662) (by decide +kernel) (by decide +kernel)⟩
theorem lv_L_51 : LV R_law 51 yX12_hush := ⟨mt (i := 1172) (by decide +kernel) (by decide +kernel), mt (i := 1173) (by decide +kernel) (by decide +kernel), mt (i := 1174) (by decide +kernel) (by decide +kernel)⟩
theorem lv_L_52 : LV R_law 52 yX11_words := ⟨mt (i := 664) (by decide +kernel) (by decide +kernel), mt (i := 665) (by decide +kernel) (by decide +kernel), mt (i := 666) (by decide +kernel) (by decide +kernel)⟩
theorem lv_L_55 : LV R_law 55 yX12_words := ⟨mt (i := 1176) (by decide +kernel) (by decide +kernel), mt (i := 1177) (by decide +kernel) (by decide +kernel), mt (i := 1178) (by decide +kernel) (by decide +kernel)⟩
theorem lv_L_56 : LV R_law 56 yX11_say := ⟨mt (i := 687) (by decide +kernel) (by decide +kernel), mt (i := 688) (by decide +kernel) (by decide +kernel), mt (i := 689) (by decide +kernel) (by decide +kernel)⟩
theorem lv_L_59 : LV R_law 59 yX12_say := ⟨mt (i := 1199) (by decide +kernel) (by decide +kernel), mt (i := 1200) (by decide +kernel) (by decide +kernel), mt (i := 1201) (by decide +kernel) (by decide +kernel)⟩
theorem lv_L_60 : LV R_law 60 yX11_speak := ⟨mt (i := 710) (by decide +kernel) (by decide +kernel), mt (i := 711) (by decide +kernel) (by decide +kernel), mt (i := 712) (by decide +kernel) (by decide +kernel)⟩
theorem lv_L_63 : LV R_law 63 yX12_speak := ⟨mt (i := 1214) (by decide +kernel) (by decide +kernel), mt (i := 1215) (by decide +kernel) (by decide +kernel), mt (i := 1216) (by decide +kernel) (by decide +kernel)⟩
theorem lv_L_64 : LV R_law 64 yX11_lend := ⟨mt (i := 780) (by decide +kernel) (by decide +kernel), mt (i := 781) (by decide +kernel) (by decide +kernel), mt (i := 782) (by decide +kernel) (by decide +kernel)⟩
theorem lv_L_67 : LV R_law 67 yX12_lend := ⟨mt (i := 1241) (by decide +kernel) (by decide +kernel), mt (i := 1242) (by decide +kernel) (by decide +kernel), mt (i := 1243) (by decide +kernel) (by decide +kernel)⟩
theorem lv_L_68 : LV R_law 68 yX11_born := ⟨mt (i := 788) (by decide +kernel) (by decide +kernel), mt (i := 789) (by decide +kernel) (by decide +kernel), mt (i := 790) (by decide +kernel) (by decide +kernel)⟩
theorem lv_L_71 : LV R_law 71 yX12_born := ⟨mt (i := 1245) (by decide +kernel) (by decide +kernel), mt (i := 1246) (by decide +kernel) (by decide +kernel), mt (i := 1247) (by decide +kernel) (by decide +kernel)⟩
theorem lv_L_72 : LV R_law 72 yX11_dusk := ⟨mt (i := 792) (by decide +kernel) (by decide +kernel), mt (i := 793) (by decide +kernel) (by decide +kernel), mt (i := 794) (by decide +kernel) (by decide +kernel)⟩
theorem lv_L_76 : LV R_law 76 yX12_dusk := ⟨mt (i := 1249) (by decide +kernel) (by decide +kernel), mt (i := 1250) (by decide +kernel) (by decide +kernel), mt (i := 1251) (by decide +kernel) (by decide +kernel)⟩
theorem lv_L_77 : LV R_law 77 yX11_undo := ⟨mt (i := 796) (by decide +kernel) (by decide +kernel), mt (i := 797) (by decide +kernel) (by decide +kernel), mt (i := 798) (by decide +kernel) (by decide +kernel)⟩
theorem lv_L_80 : LV R_law 80 yX12_undo := ⟨mt (i := 1256) (by decide +kernel) (by decide +kernel), mt (i := 1257) (by decide +kernel) (by decide +kernel), mt (i := 1258) (by decide +kernel) (by decide +kernel)⟩
theorem lv_L_81 : LV R_law 81 yX11_best := ⟨mt (i := 804) (by decide +kernel) (by decide +kernel), mt (i := 805) (by decide +kernel) (by decide +kernel), mt (i := 806) (by decide +kernel) (by decide +kernel)⟩
theorem lv_L_85 : LV R_law 85 yX12_best := ⟨mt (i := 1260) (by decide +kernel) (by decide +kernel), mt (i := 1261) (by decide +kernel) (by decide +kernel), mt (i := 1262) (by decide +kernel) (by decide +kernel)⟩
theorem lv_L_86 : LV R_law 86 yX11_stuck := ⟨mt (i := 816) (by decide +kernel) (by decide +kernel), mt (i := 817) (by decide +kernel) (by decide +kernel), mt (i := 818) (by decide +kernel) (by decide +kernel)⟩
theorem lv_L_89 : LV R_law 89 yX12_stuck := ⟨mt (i := 1266) (by decide +kernel) (by decide +kernel), mt (i := 1267) (by decide +kernel) (by decide +kernel), mt (i := 1268) (by decide +kernel) (by decide +kernel)⟩
theorem lv_L_90 : LV R_law 90 yX11_freed := ⟨mt (i := 827) (by decide +kernel) (by decide +kernel), mt (i := 828) (by decide +kernel) (by decide +kernel), mt (i := 829) (by decide +kernel) (by decide +kernel)⟩
theorem lv_L_93 : LV R_law 93 yX12_freed := ⟨mt (i := 1282) (by decide +kernel) (by decide +kernel), mt (i := 1283) (by decide +kernel) (by decide +kernel), mt (i := 1284) (by decide +kernel) (by decide +kernel)⟩
theorem lv_L_94 : LV R_law 94 yX11_order := ⟨mt (i := 831) (by decide +kernel) (by decide +kernel), mt (i := 832) (by decide +kernel) (by decide +kernel), mt (i := 833) (by decide +kernel) (by decide +kernel)⟩
theorem lv_L_97 : LV R_law 97 yX12_order := ⟨mt (i := 1286) (by decide +kernel) (by decide +kernel), mt (i := 1287) (by decide +kernel) (by decide +kernel), mt (i := 1288) (by decide +kernel) (by decide +kernel)⟩
theorem lv_L_98 : LV R_law 98 yX11_deny := ⟨mt (i := 852) (by decide +kernel) (by decide +kernel), mt (i := 853) (by decide +kernel) (by decide +kernel), mt (i := 854) (by decide +kernel) (by decide +kernel)⟩
theorem ln_L_7 : LN R_law 7 RX11 12 := ⟨mt (i := 72) (by decide +kernel) (by decide +kernel), mt (i := 73) (by decide +kernel) (by decide +kernel), mt (i := 52) (by decide +kernel) (by decide +kernel)⟩
theorem ln_L_10 : LN R_law 10 RX12 30 := ⟨mt (i := 989) (by decide +kernel) (by decide +kernel), mt (i := 990) (by decide +kernel) (by decide +kernel), mt (i := 69) (by decide +kernel) (by decide +kernel)⟩
theorem li_L_9 : LI R_law 9 yX11_init := ⟨mt (i := 74) (by decide +kernel) (by decide +kernel), mt (i := 75) (by decide +kernel) (by decide +kernel), rfl⟩
theorem li_L_12 : LI R_law 12 yX12_init := ⟨mt (i := 991) (by decide +kernel) (by decide +kernel), mt (i := 992) (by decide +kernel) (by decide +kernel), rfl⟩
theorem lc_X11_init : LC yX11_init bX11_init 2 none 0 := ⟨mt (i := 76) (by first | rfl | decide +kernel) (by decide +kernel), mt (i := 52) (by decide +kernel) (by decide +kernel), ⟨by decide +kernel, by decide +kernel, by decide +kernel⟩, by decide⟩
theorem lc_X12_init : LC yX12_init bX12_init 2 none 0 := ⟨mt (i := 993) (by first | rfl | decide +kernel) (by decide +kernel), mt (i := 69) (by decide +kernel) (by decide +kernel), ⟨by decide +kernel, by decide +kernel, by decide +kernel⟩, by decide⟩
theorem dL_0 : decode code 0 = .ok (.new 7, 3) := by decide +kernel
theorem dL_3 : decode code 3 = .ok (.dup, 1) := by decide +kernel
theorem dL_4 : decode code 4 = .ok (.invokespecial 9, 3) := by decide +kernel
theorem dL_7 : decode code 7 = .ok (.astore_n 1, 1) := by decide +kernel
theorem dL_8 : decode code 8 = .ok (.new 10, 3) := by decide +kernel
theorem dL_11 : decode code 11 = .ok (.dup, 1) := by decide +kernel
theorem dL_12 : decode code 12 = .ok (.invokespecial 12, 3) := by decide +kernel
theorem dL_15 : decode code 15 = .ok (.astore_n 2, 1) := by decide +kernel
theorem dL_16 : decode code 16 = .ok (.iconst 0, 1) := by decide +kernel
theorem dL_17 : decode code 17 = .ok (.istore_n 3, 1) := by decide +kernel
theorem dL_18 : decode code 18 = .ok (.iload_n 3, 1) := by decide +kernel
theorem dL_19 : decode code 19 = .ok (.aload_n 0, 1) := by decide +kernel
theorem dL_20 : decode code 20 = .ok (.arraylength, 1) := by decide +kernel
theorem dL_21 : decode code 21 = .ok (.iconst 4, 1) := by decide +kernel
theorem dL_22 : decode code 22 = .ok (.isub, 1) := by decide +kernel
theorem dL_23 : decode code 23 = .ok (.if_icmp .gt 982, 3) := by decide +kernel
theorem dL_26 : decode code 26 = .ok (.aload_n 0, 1) := by decide +kernel
theorem dL_27 : decode code 27 = .ok (.iload_n 3, 1) := by decide +kernel
theorem dL_28 : decode code 28 = .ok (.iaload, 1) := by decide +kernel
theorem dL_29 : decode code 29 = .ok (.bipush 63, 2) := by decide +kernel
theorem dL_31 : decode code 31 = .ok (.iand, 1) := by decide +kernel
theorem dL_32 : decode code 32 = .ok (.tableswitch 967 0 34 #[156, 179, 192, 205, 218, 251, 284, 307, 340, 353, 376, 399, 422, 455, 468, 507, 520, 563, 576, 599, 622, 655, 668, 691, 704, 747, 770, 793, 806, 829, 842, 875, 918, 931, 944], 156) := by decide +kernel
theorem dL_188 : decode code 188 = .ok (.aload_n 1, 1) := by decide +kernel
theorem dL_189 : decode code 189 = .ok (.aload_n 0, 1) := by decide +kernel
theorem dL_190 : decode code 190 = .ok (.iload_n 3, 1) := by decide +kernel
theorem dL_191 : decode code 191 = .ok (.iconst 1, 1) := by decide +kernel
theorem dL_192 : decode code 192 = .ok (.iadd, 1) := by decide +kernel
theorem dL_193 : decode code 193 = .ok (.iaload, 1) := by decide +kernel
theorem dL_194 : decode code 194 = .ok (.invokevirtual 13, 3) := by decide +kernel
theorem dL_197 : decode code 197 = .ok (.aload_n 2, 1) := by decide +kernel
theorem dL_198 : decode code 198 = .ok (.aload_n 0, 1) := by decide +kernel
theorem dL_199 : decode code 199 = .ok (.iload_n 3, 1) := by decide +kernel
theorem dL_200 : decode code 200 = .ok (.iconst 1, 1) := by decide +kernel
theorem dL_201 : decode code 201 = .ok (.iadd, 1) := by decide +kernel
theorem dL_202 : decode code 202 = .ok (.iaload, 1) := by decide +kernel
theorem dL_203 : decode code 203 = .ok (.invokevirtual 17, 3) := by decide +kernel
theorem dL_206 : decode code 206 = .ok (.if_icmp .eq 793, 3) := by decide +kernel
theorem dL_209 : decode code 209 = .ok (.iconst 0, 1) := by decide +kernel
theorem dL_210 : decode code 210 = .ok (.ireturn, 1) := by decide +kernel
theorem dL_211 : decode code 211 = .ok (.aload_n 1, 1) := by decide +kernel
theorem dL_212 : decode code 212 = .ok (.invokevirtual 18, 3) := by decide +kernel
theorem dL_215 : decode code 215 = .ok (.aload_n 2, 1) := by decide +kernel
theorem dL_216 : decode code 216 = .ok (.invokevirtual 22, 3) := by decide +kernel
theorem dL_219 : decode code 219 = .ok (.if_icmp .eq 780, 3) := by decide +kernel
theorem dL_222 : decode code 222 = .ok (.iconst 0, 1) := by decide +kernel
theorem dL_223 : decode code 223 = .ok (.ireturn, 1) := by decide +kernel
theorem dL_224 : decode code 224 = .ok (.aload_n 1, 1) := by decide +kernel
theorem dL_225 : decode code 225 = .ok (.invokevirtual 23, 3) := by decide +kernel
theorem dL_228 : decode code 228 = .ok (.aload_n 2, 1) := by decide +kernel
theorem dL_229 : decode code 229 = .ok (.invokevirtual 26, 3) := by decide +kernel
theorem dL_232 : decode code 232 = .ok (.if_icmp .eq 767, 3) := by decide +kernel
theorem dL_235 : decode code 235 = .ok (.iconst 0, 1) := by decide +kernel
theorem dL_236 : decode code 236 = .ok (.ireturn, 1) := by decide +kernel
theorem dL_237 : decode code 237 = .ok (.aload_n 1, 1) := by decide +kernel
theorem dL_238 : decode code 238 = .ok (.invokevirtual 27, 3) := by decide +kernel
theorem dL_241 : decode code 241 = .ok (.aload_n 2, 1) := by decide +kernel
theorem dL_242 : decode code 242 = .ok (.invokevirtual 30, 3) := by decide +kernel
theorem dL_245 : decode code 245 = .ok (.if_icmp .eq 754, 3) := by decide +kernel
theorem dL_248 : decode code 248 = .ok (.iconst 0, 1) := by decide +kernel
theorem dL_249 : decode code 249 = .ok (.ireturn, 1) := by decide +kernel
theorem dL_250 : decode code 250 = .ok (.aload_n 1, 1) := by decide +kernel
theorem dL_251 : decode code 251 = .ok (.aload_n 0, 1) := by decide +kernel
theorem dL_252 : decode code 252 = .ok (.iload_n 3, 1) := by decide +kernel
theorem dL_253 : decode code 253 = .ok (.iconst 1, 1) := by decide +kernel
theorem dL_254 : decode code 254 = .ok (.iadd, 1) := by decide +kernel
theorem dL_255 : decode code 255 = .ok (.iaload, 1) := by decide +kernel
theorem dL_256 : decode code 256 = .ok (.aload_n 0, 1) := by decide +kernel
theorem dL_257 : decode code 257 = .ok (.iload_n 3, 1) := by decide +kernel
theorem dL_258 : decode code 258 = .ok (.iconst 2, 1) := by decide +kernel
theorem dL_259 : decode code 259 = .ok (.iadd, 1) := by decide +kernel
theorem dL_260 : decode code 260 = .ok (.iaload, 1) := by decide +kernel
theorem dL_261 : decode code 261 = .ok (.invokevirtual 31, 3) := by decide +kernel
theorem dL_264 : decode code 264 = .ok (.aload_n 2, 1) := by decide +kernel
theorem dL_265 : decode code 265 = .ok (.aload_n 0, 1) := by decide +kernel
theorem dL_266 : decode code 266 = .ok (.iload_n 3, 1) := by decide +kernel
theorem dL_267 : decode code 267 = .ok (.iconst 1, 1) := by decide +kernel
theorem dL_268 : decode code 268 = .ok (.iadd, 1) := by decide +kernel
theorem dL_269 : decode code 269 = .ok (.iaload, 1) := by decide +kernel
theorem dL_270 : decode code 270 = .ok (.aload_n 0, 1) := by decide +kernel
theorem dL_271 : decode code 271 = .ok (.iload_n 3, 1) := by decide +kernel
theorem dL_272 : decode code 272 = .ok (.iconst 2, 1) := by decide +kernel
theorem dL_273 : decode code 273 = .ok (.iadd, 1) := by decide +kernel
theorem dL_274 : decode code 274 = .ok (.iaload, 1) := by decide +kernel
theorem dL_275 : decode code 275 = .ok (.invokevirtual 35, 3) := by decide +kernel
theorem dL_278 : decode code 278 = .ok (.if_icmp .eq 721, 3) := by decide +kernel
theorem dL_281 : decode code 281 = .ok (.iconst 0, 1) := by decide +kernel
theorem dL_282 : decode code 282 = .ok (.ireturn, 1) := by decide +kernel
theorem dL_283 : decode code 283 = .ok (.aload_n 1, 1) := by decide +kernel
theorem dL_284 : decode code 284 = .ok (.aload_n 0, 1) := by decide +kernel
theorem dL_285 : decode code 285 = .ok (.iload_n 3, 1) := by decide +kernel
theorem dL_286 : decode code 286 = .ok (.iconst 1, 1) := by decide +kernel
theorem dL_287 : decode code 287 = .ok (.iadd, 1) := by decide +kernel
theorem dL_288 : decode code 288 = .ok (.iaload, 1) := by decide +kernel
theorem dL_289 : decode code 289 = .ok (.aload_n 0, 1) := by decide +kernel
theorem dL_290 : decode code 290 = .ok (.iload_n 3, 1) := by decide +kernel
theorem dL_291 : decode code 291 = .ok (.iconst 2, 1) := by decide +kernel
theorem dL_292 : decode code 292 = .ok (.iadd, 1) := by decide +kernel
theorem dL_293 : decode code 293 = .ok (.iaload, 1) := by decide +kernel
theorem dL_294 : decode code 294 = .ok (.invokevirtual 36, 3) := by decide +kernel
theorem dL_297 : decode code 297 = .ok (.aload_n 2, 1) := by decide +kernel
theorem dL_298 : decode code 298 = .ok (.aload_n 0, 1) := by decide +kernel
theorem dL_299 : decode code 299 = .ok (.iload_n 3, 1) := by decide +kernel
theorem dL_300 : decode code 300 = .ok (.iconst 1, 1) := by decide +kernel
theorem dL_301 : decode code 301 = .ok (.iadd, 1) := by decide +kernel
theorem dL_302 : decode code 302 = .ok (.iaload, 1) := by decide +kernel
theorem dL_303 : decode code 303 = .ok (.aload_n 0, 1) := by decide +kernel
theorem dL_304 : decode code 304 = .ok (.iload_n 3, 1) := by decide +kernel
theorem dL_305 : decode code 305 = .ok (.iconst 2, 1) := by decide +kernel
theorem dL_306 : decode code 306 = .ok (.iadd, 1) := by decide +kernel
theorem dL_307 : decode code 307 = .ok (.iaload, 1) := by decide +kernel
theorem dL_308 : decode code 308 = .ok (.invokevirtual 39, 3) := by decide +kernel
theorem dL_311 : decode code 311 = .ok (.if_icmp .eq 688, 3) := by decide +kernel
theorem dL_314 : decode code 314 = .ok (.iconst 0, 1) := by decide +kernel
theorem dL_315 : decode code 315 = .ok (.ireturn, 1) := by decide +kernel
theorem dL_316 : decode code 316 = .ok (.aload_n 1, 1) := by decide +kernel
theorem dL_317 : decode code 317 = .ok (.aload_n 0, 1) := by decide +kernel
theorem dL_318 : decode code 318 = .ok (.iload_n 3, 1) := by decide +kernel
theorem dL_319 : decode code 319 = .ok (.iconst 1, 1) := by decide +kernel
theorem dL_320 : decode code 320 = .ok (.iadd, 1) := by decide +kernel
theorem dL_321 : decode code 321 = .ok (.iaload, 1) := by decide +kernel
theorem dL_322 : decode code 322 = .ok (.invokevirtual 40, 3) := by decide +kernel
theorem dL_325 : decode code 325 = .ok (.aload_n 2, 1) := by decide +kernel
theorem dL_326 : decode code 326 = .ok (.aload_n 0, 1) := by decide +kernel
theorem dL_327 : decode code 327 = .ok (.iload_n 3, 1) := by decide +kernel
theorem dL_328 : decode code 328 = .ok (.iconst 1, 1) := by decide +kernel
theorem dL_329 : decode code 329 = .ok (.iadd, 1) := by decide +kernel
theorem dL_330 : decode code 330 = .ok (.iaload, 1) := by decide +kernel
theorem dL_331 : decode code 331 = .ok (.invokevirtual 43, 3) := by decide +kernel
theorem dL_334 : decode code 334 = .ok (.if_icmp .eq 665, 3) := by decide +kernel
theorem dL_337 : decode code 337 = .ok (.iconst 0, 1) := by decide +kernel
theorem dL_338 : decode code 338 = .ok (.ireturn, 1) := by decide +kernel
theorem dL_339 : decode code 339 = .ok (.aload_n 1, 1) := by decide +kernel
theorem dL_340 : decode code 340 = .ok (.aload_n 0, 1) := by decide +kernel
theorem dL_341 : decode code 341 = .ok (.iload_n 3, 1) := by decide +kernel
theorem dL_342 : decode code 342 = .ok (.iconst 1, 1) := by decide +kernel
theorem dL_343 : decode code 343 = .ok (.iadd, 1) := by decide +kernel
theorem dL_344 : decode code 344 = .ok (.iaload, 1) := by decide +kernel
theorem dL_345 : decode code 345 = .ok (.aload_n 0, 1) := by decide +kernel
theorem dL_346 : decode code 346 = .ok (.iload_n 3, 1) := by decide +kernel
theorem dL_347 : decode code 347 = .ok (.iconst 2, 1) := by decide +kernel
theorem dL_348 : decode code 348 = .ok (.iadd, 1) := by decide +kernel
theorem dL_349 : decode code 349 = .ok (.iaload, 1) := by decide +kernel
theorem dL_350 : decode code 350 = .ok (.invokevirtual 44, 3) := by decide +kernel
theorem dL_353 : decode code 353 = .ok (.aload_n 2, 1) := by decide +kernel
theorem dL_354 : decode code 354 = .ok (.aload_n 0, 1) := by decide +kernel
theorem dL_355 : decode code 355 = .ok (.iload_n 3, 1) := by decide +kernel
theorem dL_356 : decode code 356 = .ok (.iconst 1, 1) := by decide +kernel
theorem dL_357 : decode code 357 = .ok (.iadd, 1) := by decide +kernel
theorem dL_358 : decode code 358 = .ok (.iaload, 1) := by decide +kernel
theorem dL_359 : decode code 359 = .ok (.aload_n 0, 1) := by decide +kernel
theorem dL_360 : decode code 360 = .ok (.iload_n 3, 1) := by decide +kernel
theorem dL_361 : decode code 361 = .ok (.iconst 2, 1) := by decide +kernel
theorem dL_362 : decode code 362 = .ok (.iadd, 1) := by decide +kernel
theorem dL_363 : decode code 363 = .ok (.iaload, 1) := by decide +kernel
theorem dL_364 : decode code 364 = .ok (.invokevirtual 47, 3) := by decide +kernel
theorem dL_367 : decode code 367 = .ok (.if_icmp .eq 632, 3) := by decide +kernel
theorem dL_370 : decode code 370 = .ok (.iconst 0, 1) := by decide +kernel
theorem dL_371 : decode code 371 = .ok (.ireturn, 1) := by decide +kernel
theorem dL_372 : decode code 372 = .ok (.aload_n 1, 1) := by decide +kernel
theorem dL_373 : decode code 373 = .ok (.invokevirtual 48, 3) := by decide +kernel
theorem dL_376 : decode code 376 = .ok (.aload_n 2, 1) := by decide +kernel
theorem dL_377 : decode code 377 = .ok (.invokevirtual 51, 3) := by decide +kernel
theorem dL_380 : decode code 380 = .ok (.if_icmp .eq 619, 3) := by decide +kernel
theorem dL_383 : decode code 383 = .ok (.iconst 0, 1) := by decide +kernel
theorem dL_384 : decode code 384 = .ok (.ireturn, 1) := by decide +kernel
theorem dL_385 : decode code 385 = .ok (.aload_n 1, 1) := by decide +kernel
theorem dL_386 : decode code 386 = .ok (.aload_n 0, 1) := by decide +kernel
theorem dL_387 : decode code 387 = .ok (.iload_n 3, 1) := by decide +kernel
theorem dL_388 : decode code 388 = .ok (.iconst 1, 1) := by decide +kernel
theorem dL_389 : decode code 389 = .ok (.iadd, 1) := by decide +kernel
theorem dL_390 : decode code 390 = .ok (.iaload, 1) := by decide +kernel
theorem dL_391 : decode code 391 = .ok (.invokevirtual 52, 3) := by decide +kernel
theorem dL_394 : decode code 394 = .ok (.aload_n 2, 1) := by decide +kernel
theorem dL_395 : decode code 395 = .ok (.aload_n 0, 1) := by decide +kernel
theorem dL_396 : decode code 396 = .ok (.iload_n 3, 1) := by decide +kernel
theorem dL_397 : decode code 397 = .ok (.iconst 1, 1) := by decide +kernel
theorem dL_398 : decode code 398 = .ok (.iadd, 1) := by decide +kernel
theorem dL_399 : decode code 399 = .ok (.iaload, 1) := by decide +kernel
theorem dL_400 : decode code 400 = .ok (.invokevirtual 55, 3) := by decide +kernel
theorem dL_403 : decode code 403 = .ok (.if_icmp .eq 596, 3) := by decide +kernel
theorem dL_406 : decode code 406 = .ok (.iconst 0, 1) := by decide +kernel
theorem dL_407 : decode code 407 = .ok (.ireturn, 1) := by decide +kernel
theorem dL_408 : decode code 408 = .ok (.aload_n 1, 1) := by decide +kernel
theorem dL_409 : decode code 409 = .ok (.aload_n 0, 1) := by decide +kernel
theorem dL_410 : decode code 410 = .ok (.iload_n 3, 1) := by decide +kernel
theorem dL_411 : decode code 411 = .ok (.iconst 1, 1) := by decide +kernel
theorem dL_412 : decode code 412 = .ok (.iadd, 1) := by decide +kernel
theorem dL_413 : decode code 413 = .ok (.iaload, 1) := by decide +kernel
theorem dL_414 : decode code 414 = .ok (.invokevirtual 56, 3) := by decide +kernel
theorem dL_417 : decode code 417 = .ok (.aload_n 2, 1) := by decide +kernel
theorem dL_418 : decode code 418 = .ok (.aload_n 0, 1) := by decide +kernel
theorem dL_419 : decode code 419 = .ok (.iload_n 3, 1) := by decide +kernel
theorem dL_420 : decode code 420 = .ok (.iconst 1, 1) := by decide +kernel
theorem dL_421 : decode code 421 = .ok (.iadd, 1) := by decide +kernel
theorem dL_422 : decode code 422 = .ok (.iaload, 1) := by decide +kernel
theorem dL_423 : decode code 423 = .ok (.invokevirtual 59, 3) := by decide +kernel
theorem dL_426 : decode code 426 = .ok (.if_icmp .eq 573, 3) := by decide +kernel
theorem dL_429 : decode code 429 = .ok (.iconst 0, 1) := by decide +kernel
theorem dL_430 : decode code 430 = .ok (.ireturn, 1) := by decide +kernel
theorem dL_431 : decode code 431 = .ok (.aload_n 1, 1) := by decide +kernel
theorem dL_432 : decode code 432 = .ok (.aload_n 0, 1) := by decide +kernel
theorem dL_433 : decode code 433 = .ok (.iload_n 3, 1) := by decide +kernel
theorem dL_434 : decode code 434 = .ok (.iconst 1, 1) := by decide +kernel
theorem dL_435 : decode code 435 = .ok (.iadd, 1) := by decide +kernel
theorem dL_436 : decode code 436 = .ok (.iaload, 1) := by decide +kernel
theorem dL_437 : decode code 437 = .ok (.invokevirtual 60, 3) := by decide +kernel
theorem dL_440 : decode code 440 = .ok (.aload_n 2, 1) := by decide +kernel
theorem dL_441 : decode code 441 = .ok (.aload_n 0, 1) := by decide +kernel
theorem dL_442 : decode code 442 = .ok (.iload_n 3, 1) := by decide +kernel
theorem dL_443 : decode code 443 = .ok (.iconst 1, 1) := by decide +kernel
theorem dL_444 : decode code 444 = .ok (.iadd, 1) := by decide +kernel
theorem dL_445 : decode code 445 = .ok (.iaload, 1) := by decide +kernel
theorem dL_446 : decode code 446 = .ok (.invokevirtual 63, 3) := by decide +kernel
theorem dL_449 : decode code 449 = .ok (.if_icmp .eq 550, 3) := by decide +kernel
theorem dL_452 : decode code 452 = .ok (.iconst 0, 1) := by decide +kernel
theorem dL_453 : decode code 453 = .ok (.ireturn, 1) := by decide +kernel
theorem dL_454 : decode code 454 = .ok (.aload_n 1, 1) := by decide +kernel
theorem dL_455 : decode code 455 = .ok (.aload_n 0, 1) := by decide +kernel
theorem dL_456 : decode code 456 = .ok (.iload_n 3, 1) := by decide +kernel
theorem dL_457 : decode code 457 = .ok (.iconst 1, 1) := by decide +kernel
theorem dL_458 : decode code 458 = .ok (.iadd, 1) := by decide +kernel
theorem dL_459 : decode code 459 = .ok (.iaload, 1) := by decide +kernel
theorem dL_460 : decode code 460 = .ok (.aload_n 0, 1) := by decide +kernel
theorem dL_461 : decode code 461 = .ok (.iload_n 3, 1) := by decide +kernel
theorem dL_462 : decode code 462 = .ok (.iconst 2, 1) := by decide +kernel
theorem dL_463 : decode code 463 = .ok (.iadd, 1) := by decide +kernel
theorem dL_464 : decode code 464 = .ok (.iaload, 1) := by decide +kernel
theorem dL_465 : decode code 465 = .ok (.invokevirtual 64, 3) := by decide +kernel
theorem dL_468 : decode code 468 = .ok (.aload_n 2, 1) := by decide +kernel
theorem dL_469 : decode code 469 = .ok (.aload_n 0, 1) := by decide +kernel
theorem dL_470 : decode code 470 = .ok (.iload_n 3, 1) := by decide +kernel
theorem dL_471 : decode code 471 = .ok (.iconst 1, 1) := by decide +kernel
theorem dL_472 : decode code 472 = .ok (.iadd, 1) := by decide +kernel
theorem dL_473 : decode code 473 = .ok (.iaload, 1) := by decide +kernel
theorem dL_474 : decode code 474 = .ok (.aload_n 0, 1) := by decide +kernel
theorem dL_475 : decode code 475 = .ok (.iload_n 3, 1) := by decide +kernel
theorem dL_476 : decode code 476 = .ok (.iconst 2, 1) := by decide +kernel
theorem dL_477 : decode code 477 = .ok (.iadd, 1) := by decide +kernel
theorem dL_478 : decode code 478 = .ok (.iaload, 1) := by decide +kernel
theorem dL_479 : decode code 479 = .ok (.invokevirtual 67, 3) := by decide +kernel
theorem dL_482 : decode code 482 = .ok (.if_icmp .eq 517, 3) := by decide +kernel
theorem dL_485 : decode code 485 = .ok (.iconst 0, 1) := by decide +kernel
theorem dL_486 : decode code 486 = .ok (.ireturn, 1) := by decide +kernel
theorem dL_487 : decode code 487 = .ok (.aload_n 1, 1) := by decide +kernel
theorem dL_488 : decode code 488 = .ok (.invokevirtual 68, 3) := by decide +kernel
theorem dL_491 : decode code 491 = .ok (.aload_n 2, 1) := by decide +kernel
theorem dL_492 : decode code 492 = .ok (.invokevirtual 71, 3) := by decide +kernel
theorem dL_495 : decode code 495 = .ok (.if_icmp .eq 504, 3) := by decide +kernel
theorem dL_498 : decode code 498 = .ok (.iconst 0, 1) := by decide +kernel
theorem dL_499 : decode code 499 = .ok (.ireturn, 1) := by decide +kernel
theorem dL_500 : decode code 500 = .ok (.aload_n 1, 1) := by decide +kernel
theorem dL_501 : decode code 501 = .ok (.aload_n 0, 1) := by decide +kernel
theorem dL_502 : decode code 502 = .ok (.iload_n 3, 1) := by decide +kernel
theorem dL_503 : decode code 503 = .ok (.iconst 1, 1) := by decide +kernel
theorem dL_504 : decode code 504 = .ok (.iadd, 1) := by decide +kernel
theorem dL_505 : decode code 505 = .ok (.iaload, 1) := by decide +kernel
theorem dL_506 : decode code 506 = .ok (.ifCond .eq 7, 3) := by decide +kernel
theorem dL_509 : decode code 509 = .ok (.iconst 1, 1) := by decide +kernel
theorem dL_510 : decode code 510 = .ok (.goto 4, 3) := by decide +kernel
theorem dL_513 : decode code 513 = .ok (.iconst 0, 1) := by decide +kernel
theorem dL_514 : decode code 514 = .ok (.invokevirtual 72, 3) := by decide +kernel
theorem dL_517 : decode code 517 = .ok (.aload_n 2, 1) := by decide +kernel
theorem dL_518 : decode code 518 = .ok (.aload_n 0, 1) := by decide +kernel
theorem dL_519 : decode code 519 = .ok (.iload_n 3, 1) := by decide +kernel
theorem dL_520 : decode code 520 = .ok (.iconst 1, 1) := by decide +kernel
theorem dL_521 : decode code 521 = .ok (.iadd, 1) := by decide +kernel
theorem dL_522 : decode code 522 = .ok (.iaload, 1) := by decide +kernel
theorem dL_523 : decode code 523 = .ok (.ifCond .eq 7, 3) := by decide +kernel
theorem dL_526 : decode code 526 = .ok (.iconst 1, 1) := by decide +kernel
theorem dL_527 : decode code 527 = .ok (.goto 4, 3) := by decide +kernel
theorem dL_530 : decode code 530 = .ok (.iconst 0, 1) := by decide +kernel
theorem dL_531 : decode code 531 = .ok (.invokevirtual 76, 3) := by decide +kernel
theorem dL_534 : decode code 534 = .ok (.if_icmp .eq 465, 3) := by decide +kernel
theorem dL_537 : decode code 537 = .ok (.iconst 0, 1) := by decide +kernel
theorem dL_538 : decode code 538 = .ok (.ireturn, 1) := by decide +kernel
theorem dL_539 : decode code 539 = .ok (.aload_n 1, 1) := by decide +kernel
theorem dL_540 : decode code 540 = .ok (.invokevirtual 77, 3) := by decide +kernel
theorem dL_543 : decode code 543 = .ok (.aload_n 2, 1) := by decide +kernel
theorem dL_544 : decode code 544 = .ok (.invokevirtual 80, 3) := by decide +kernel
theorem dL_547 : decode code 547 = .ok (.if_icmp .eq 452, 3) := by decide +kernel
theorem dL_550 : decode code 550 = .ok (.iconst 0, 1) := by decide +kernel
theorem dL_551 : decode code 551 = .ok (.ireturn, 1) := by decide +kernel
theorem dL_552 : decode code 552 = .ok (.aload_n 1, 1) := by decide +kernel
theorem dL_553 : decode code 553 = .ok (.aload_n 0, 1) := by decide +kernel
theorem dL_554 : decode code 554 = .ok (.iload_n 3, 1) := by decide +kernel
theorem dL_555 : decode code 555 = .ok (.iconst 1, 1) := by decide +kernel
theorem dL_556 : decode code 556 = .ok (.iadd, 1) := by decide +kernel
theorem dL_557 : decode code 557 = .ok (.iaload, 1) := by decide +kernel
theorem dL_558 : decode code 558 = .ok (.aload_n 0, 1) := by decide +kernel
theorem dL_559 : decode code 559 = .ok (.iload_n 3, 1) := by decide +kernel
theorem dL_560 : decode code 560 = .ok (.iconst 2, 1) := by decide +kernel
theorem dL_561 : decode code 561 = .ok (.iadd, 1) := by decide +kernel
theorem dL_562 : decode code 562 = .ok (.iaload, 1) := by decide +kernel
theorem dL_563 : decode code 563 = .ok (.aload_n 0, 1) := by decide +kernel
theorem dL_564 : decode code 564 = .ok (.iload_n 3, 1) := by decide +kernel
theorem dL_565 : decode code 565 = .ok (.iconst 3, 1) := by decide +kernel
theorem dL_566 : decode code 566 = .ok (.iadd, 1) := by decide +kernel
theorem dL_567 : decode code 567 = .ok (.iaload, 1) := by decide +kernel
theorem dL_568 : decode code 568 = .ok (.invokevirtual 81, 3) := by decide +kernel
theorem dL_571 : decode code 571 = .ok (.aload_n 2, 1) := by decide +kernel
theorem dL_572 : decode code 572 = .ok (.aload_n 0, 1) := by decide +kernel
theorem dL_573 : decode code 573 = .ok (.iload_n 3, 1) := by decide +kernel
theorem dL_574 : decode code 574 = .ok (.iconst 1, 1) := by decide +kernel
theorem dL_575 : decode code 575 = .ok (.iadd, 1) := by decide +kernel
theorem dL_576 : decode code 576 = .ok (.iaload, 1) := by decide +kernel
theorem dL_577 : decode code 577 = .ok (.aload_n 0, 1) := by decide +kernel
theorem dL_578 : decode code 578 = .ok (.iload_n 3, 1) := by decide +kernel
theorem dL_579 : decode code 579 = .ok (.iconst 2, 1) := by decide +kernel
theorem dL_580 : decode code 580 = .ok (.iadd, 1) := by decide +kernel
theorem dL_581 : decode code 581 = .ok (.iaload, 1) := by decide +kernel
theorem dL_582 : decode code 582 = .ok (.aload_n 0, 1) := by decide +kernel
theorem dL_583 : decode code 583 = .ok (.iload_n 3, 1) := by decide +kernel
theorem dL_584 : decode code 584 = .ok (.iconst 3, 1) := by decide +kernel
theorem dL_585 : decode code 585 = .ok (.iadd, 1) := by decide +kernel
theorem dL_586 : decode code 586 = .ok (.iaload, 1) := by decide +kernel
theorem dL_587 : decode code 587 = .ok (.invokevirtual 85, 3) := by decide +kernel
theorem dL_590 : decode code 590 = .ok (.if_icmp .eq 409, 3) := by decide +kernel
theorem dL_593 : decode code 593 = .ok (.iconst 0, 1) := by decide +kernel
theorem dL_594 : decode code 594 = .ok (.ireturn, 1) := by decide +kernel
theorem dL_595 : decode code 595 = .ok (.aload_n 1, 1) := by decide +kernel
theorem dL_596 : decode code 596 = .ok (.invokevirtual 86, 3) := by decide +kernel
theorem dL_599 : decode code 599 = .ok (.aload_n 2, 1) := by decide +kernel
theorem dL_600 : decode code 600 = .ok (.invokevirtual 89, 3) := by decide +kernel
theorem dL_603 : decode code 603 = .ok (.if_icmp .eq 396, 3) := by decide +kernel
theorem dL_606 : decode code 606 = .ok (.iconst 0, 1) := by decide +kernel
theorem dL_607 : decode code 607 = .ok (.ireturn, 1) := by decide +kernel
theorem dL_608 : decode code 608 = .ok (.aload_n 1, 1) := by decide +kernel
theorem dL_609 : decode code 609 = .ok (.aload_n 0, 1) := by decide +kernel
theorem dL_610 : decode code 610 = .ok (.iload_n 3, 1) := by decide +kernel
theorem dL_611 : decode code 611 = .ok (.iconst 1, 1) := by decide +kernel
theorem dL_612 : decode code 612 = .ok (.iadd, 1) := by decide +kernel
theorem dL_613 : decode code 613 = .ok (.iaload, 1) := by decide +kernel
theorem dL_614 : decode code 614 = .ok (.invokevirtual 90, 3) := by decide +kernel
theorem dL_617 : decode code 617 = .ok (.aload_n 2, 1) := by decide +kernel
theorem dL_618 : decode code 618 = .ok (.aload_n 0, 1) := by decide +kernel
theorem dL_619 : decode code 619 = .ok (.iload_n 3, 1) := by decide +kernel
theorem dL_620 : decode code 620 = .ok (.iconst 1, 1) := by decide +kernel
theorem dL_621 : decode code 621 = .ok (.iadd, 1) := by decide +kernel
theorem dL_622 : decode code 622 = .ok (.iaload, 1) := by decide +kernel
theorem dL_623 : decode code 623 = .ok (.invokevirtual 93, 3) := by decide +kernel
theorem dL_626 : decode code 626 = .ok (.if_icmp .eq 373, 3) := by decide +kernel
theorem dL_629 : decode code 629 = .ok (.iconst 0, 1) := by decide +kernel
theorem dL_630 : decode code 630 = .ok (.ireturn, 1) := by decide +kernel
theorem dL_631 : decode code 631 = .ok (.aload_n 1, 1) := by decide +kernel
theorem dL_632 : decode code 632 = .ok (.aload_n 0, 1) := by decide +kernel
theorem dL_633 : decode code 633 = .ok (.iload_n 3, 1) := by decide +kernel
theorem dL_634 : decode code 634 = .ok (.iconst 1, 1) := by decide +kernel
theorem dL_635 : decode code 635 = .ok (.iadd, 1) := by decide +kernel
theorem dL_636 : decode code 636 = .ok (.iaload, 1) := by decide +kernel
theorem dL_637 : decode code 637 = .ok (.invokevirtual 94, 3) := by decide +kernel
theorem dL_640 : decode code 640 = .ok (.aload_n 2, 1) := by decide +kernel
theorem dL_641 : decode code 641 = .ok (.aload_n 0, 1) := by decide +kernel
theorem dL_642 : decode code 642 = .ok (.iload_n 3, 1) := by decide +kernel
theorem dL_643 : decode code 643 = .ok (.iconst 1, 1) := by decide +kernel
theorem dL_644 : decode code 644 = .ok (.iadd, 1) := by decide +kernel
theorem dL_645 : decode code 645 = .ok (.iaload, 1) := by decide +kernel
theorem dL_646 : decode code 646 = .ok (.invokevirtual 97, 3) := by decide +kernel
theorem dL_649 : decode code 649 = .ok (.if_icmp .eq 350, 3) := by decide +kernel
theorem dL_652 : decode code 652 = .ok (.iconst 0, 1) := by decide +kernel
theorem dL_653 : decode code 653 = .ok (.ireturn, 1) := by decide +kernel
theorem dL_654 : decode code 654 = .ok (.aload_n 1, 1) := by decide +kernel
theorem dL_655 : decode code 655 = .ok (.aload_n 0, 1) := by decide +kernel
theorem dL_656 : decode code 656 = .ok (.iload_n 3, 1) := by decide +kernel
theorem dL_657 : decode code 657 = .ok (.iconst 1, 1) := by decide +kernel
theorem dL_658 : decode code 658 = .ok (.iadd, 1) := by decide +kernel
theorem dL_659 : decode code 659 = .ok (.iaload, 1) := by decide +kernel
theorem dL_660 : decode code 660 = .ok (.aload_n 0, 1) := by decide +kernel
theorem dL_661 : decode code 661 = .ok (.iload_n 3, 1) := by decide +kernel
theorem dL_662 : decode code 662 = .ok (.iconst 2, 1) := by decide +kernel
theorem dL_663 : decode code 663 = .ok (.iadd, 1) := by decide +kernel
theorem dL_664 : decode code 664 = .ok (.iaload, 1) := by decide +kernel
theorem dL_665 : decode code 665 = .ok (.invokevirtual 98, 3) := by decide +kernel
theorem dL_668 : decode code 668 = .ok (.aload_n 2, 1) := by decide +kernel
theorem dL_669 : decode code 669 = .ok (.aload_n 0, 1) := by decide +kernel
theorem dL_670 : decode code 670 = .ok (.iload_n 3, 1) := by decide +kernel
theorem dL_671 : decode code 671 = .ok (.iconst 1, 1) := by decide +kernel
theorem dL_672 : decode code 672 = .ok (.iadd, 1) := by decide +kernel
theorem dL_673 : decode code 673 = .ok (.iaload, 1) := by decide +kernel
theorem dL_674 : decode code 674 = .ok (.aload_n 0, 1) := by decide +kernel
theorem dL_675 : decode code 675 = .ok (.iload_n 3, 1) := by decide +kernel
theorem dL_676 : decode code 676 = .ok (.iconst 2, 1) := by decide +kernel
theorem dL_677 : decode code 677 = .ok (.iadd, 1) := by decide +kernel
theorem dL_678 : decode code 678 = .ok (.iaload, 1) := by decide +kernel
theorem dL_679 : decode code 679 = .ok (.invokevirtual 101, 3) := by decide +kernel
theorem dL_682 : decode code 682 = .ok (.if_icmp .eq 317, 3) := by decide +kernel
theorem dL_685 : decode code 685 = .ok (.iconst 0, 1) := by decide +kernel
theorem dL_686 : decode code 686 = .ok (.ireturn, 1) := by decide +kernel
theorem dL_687 : decode code 687 = .ok (.aload_n 1, 1) := by decide +kernel
theorem dL_688 : decode code 688 = .ok (.invokevirtual 102, 3) := by decide +kernel
theorem dL_691 : decode code 691 = .ok (.aload_n 2, 1) := by decide +kernel
theorem dL_692 : decode code 692 = .ok (.invokevirtual 105, 3) := by decide +kernel
theorem dL_695 : decode code 695 = .ok (.if_icmp .eq 304, 3) := by decide +kernel
theorem dL_698 : decode code 698 = .ok (.iconst 0, 1) := by decide +kernel
theorem dL_699 : decode code 699 = .ok (.ireturn, 1) := by decide +kernel
theorem dL_700 : decode code 700 = .ok (.aload_n 1, 1) := by decide +kernel
theorem dL_701 : decode code 701 = .ok (.aload_n 0, 1) := by decide +kernel
theorem dL_702 : decode code 702 = .ok (.iload_n 3, 1) := by decide +kernel
theorem dL_703 : decode code 703 = .ok (.iconst 1, 1) := by decide +kernel
theorem dL_704 : decode code 704 = .ok (.iadd, 1) := by decide +kernel
theorem dL_705 : decode code 705 = .ok (.iaload, 1) := by decide +kernel
theorem dL_706 : decode code 706 = .ok (.invokevirtual 106, 3) := by decide +kernel
theorem dL_709 : decode code 709 = .ok (.aload_n 2, 1) := by decide +kernel
theorem dL_710 : decode code 710 = .ok (.aload_n 0, 1) := by decide +kernel
theorem dL_711 : decode code 711 = .ok (.iload_n 3, 1) := by decide +kernel
theorem dL_712 : decode code 712 = .ok (.iconst 1, 1) := by decide +kernel
theorem dL_713 : decode code 713 = .ok (.iadd, 1) := by decide +kernel
theorem dL_714 : decode code 714 = .ok (.iaload, 1) := by decide +kernel
theorem dL_715 : decode code 715 = .ok (.invokevirtual 109, 3) := by decide +kernel
theorem dL_718 : decode code 718 = .ok (.if_icmp .eq 281, 3) := by decide +kernel
theorem dL_721 : decode code 721 = .ok (.iconst 0, 1) := by decide +kernel
theorem dL_722 : decode code 722 = .ok (.ireturn, 1) := by decide +kernel
theorem dL_723 : decode code 723 = .ok (.aload_n 1, 1) := by decide +kernel
theorem dL_724 : decode code 724 = .ok (.invokevirtual 110, 3) := by decide +kernel
theorem dL_727 : decode code 727 = .ok (.aload_n 2, 1) := by decide +kernel
theorem dL_728 : decode code 728 = .ok (.invokevirtual 113, 3) := by decide +kernel
theorem dL_731 : decode code 731 = .ok (.if_icmp .eq 268, 3) := by decide +kernel
theorem dL_734 : decode code 734 = .ok (.iconst 0, 1) := by decide +kernel
theorem dL_735 : decode code 735 = .ok (.ireturn, 1) := by decide +kernel
theorem dL_736 : decode code 736 = .ok (.aload_n 1, 1) := by decide +kernel
theorem dL_737 : decode code 737 = .ok (.aload_n 0, 1) := by decide +kernel
theorem dL_738 : decode code 738 = .ok (.iload_n 3, 1) := by decide +kernel
theorem dL_739 : decode code 739 = .ok (.iconst 1, 1) := by decide +kernel
theorem dL_740 : decode code 740 = .ok (.iadd, 1) := by decide +kernel
theorem dL_741 : decode code 741 = .ok (.iaload, 1) := by decide +kernel
theorem dL_742 : decode code 742 = .ok (.aload_n 0, 1) := by decide +kernel
theorem dL_743 : decode code 743 = .ok (.iload_n 3, 1) := by decide +kernel
theorem dL_744 : decode code 744 = .ok (.iconst 2, 1) := by decide +kernel
theorem dL_745 : decode code 745 = .ok (.iadd, 1) := by decide +kernel
theorem dL_746 : decode code 746 = .ok (.iaload, 1) := by decide +kernel
theorem dL_747 : decode code 747 = .ok (.aload_n 0, 1) := by decide +kernel
theorem dL_748 : decode code 748 = .ok (.iload_n 3, 1) := by decide +kernel
theorem dL_749 : decode code 749 = .ok (.iconst 3, 1) := by decide +kernel
theorem dL_750 : decode code 750 = .ok (.iadd, 1) := by decide +kernel
theorem dL_751 : decode code 751 = .ok (.iaload, 1) := by decide +kernel
theorem dL_752 : decode code 752 = .ok (.invokevirtual 114, 3) := by decide +kernel
theorem dL_755 : decode code 755 = .ok (.aload_n 2, 1) := by decide +kernel
theorem dL_756 : decode code 756 = .ok (.aload_n 0, 1) := by decide +kernel
theorem dL_757 : decode code 757 = .ok (.iload_n 3, 1) := by decide +kernel
theorem dL_758 : decode code 758 = .ok (.iconst 1, 1) := by decide +kernel
theorem dL_759 : decode code 759 = .ok (.iadd, 1) := by decide +kernel
theorem dL_760 : decode code 760 = .ok (.iaload, 1) := by decide +kernel
theorem dL_761 : decode code 761 = .ok (.aload_n 0, 1) := by decide +kernel
theorem dL_762 : decode code 762 = .ok (.iload_n 3, 1) := by decide +kernel
theorem dL_763 : decode code 763 = .ok (.iconst 2, 1) := by decide +kernel
theorem dL_764 : decode code 764 = .ok (.iadd, 1) := by decide +kernel
theorem dL_765 : decode code 765 = .ok (.iaload, 1) := by decide +kernel
theorem dL_766 : decode code 766 = .ok (.aload_n 0, 1) := by decide +kernel
theorem dL_767 : decode code 767 = .ok (.iload_n 3, 1) := by decide +kernel
theorem dL_768 : decode code 768 = .ok (.iconst 3, 1) := by decide +kernel
theorem dL_769 : decode code 769 = .ok (.iadd, 1) := by decide +kernel
theorem dL_770 : decode code 770 = .ok (.iaload, 1) := by decide +kernel
theorem dL_771 : decode code 771 = .ok (.invokevirtual 117, 3) := by decide +kernel
theorem dL_774 : decode code 774 = .ok (.if_icmp .eq 225, 3) := by decide +kernel
theorem dL_777 : decode code 777 = .ok (.iconst 0, 1) := by decide +kernel
theorem dL_778 : decode code 778 = .ok (.ireturn, 1) := by decide +kernel
theorem dL_779 : decode code 779 = .ok (.aload_n 1, 1) := by decide +kernel
theorem dL_780 : decode code 780 = .ok (.aload_n 0, 1) := by decide +kernel
theorem dL_781 : decode code 781 = .ok (.iload_n 3, 1) := by decide +kernel
theorem dL_782 : decode code 782 = .ok (.iconst 1, 1) := by decide +kernel
theorem dL_783 : decode code 783 = .ok (.iadd, 1) := by decide +kernel
theorem dL_784 : decode code 784 = .ok (.iaload, 1) := by decide +kernel
theorem dL_785 : decode code 785 = .ok (.invokevirtual 118, 3) := by decide +kernel
theorem dL_788 : decode code 788 = .ok (.aload_n 2, 1) := by decide +kernel
theorem dL_789 : decode code 789 = .ok (.aload_n 0, 1) := by decide +kernel
theorem dL_790 : decode code 790 = .ok (.iload_n 3, 1) := by decide +kernel
theorem dL_791 : decode code 791 = .ok (.iconst 1, 1) := by decide +kernel
theorem dL_792 : decode code 792 = .ok (.iadd, 1) := by decide +kernel
theorem dL_793 : decode code 793 = .ok (.iaload, 1) := by decide +kernel
theorem dL_794 : decode code 794 = .ok (.invokevirtual 121, 3) := by decide +kernel
theorem dL_797 : decode code 797 = .ok (.if_icmp .eq 202, 3) := by decide +kernel
theorem dL_800 : decode code 800 = .ok (.iconst 0, 1) := by decide +kernel
theorem dL_801 : decode code 801 = .ok (.ireturn, 1) := by decide +kernel
theorem dL_802 : decode code 802 = .ok (.aload_n 1, 1) := by decide +kernel
theorem dL_803 : decode code 803 = .ok (.aload_n 0, 1) := by decide +kernel
theorem dL_804 : decode code 804 = .ok (.iload_n 3, 1) := by decide +kernel
theorem dL_805 : decode code 805 = .ok (.iconst 1, 1) := by decide +kernel
theorem dL_806 : decode code 806 = .ok (.iadd, 1) := by decide +kernel
theorem dL_807 : decode code 807 = .ok (.iaload, 1) := by decide +kernel
theorem dL_808 : decode code 808 = .ok (.invokevirtual 122, 3) := by decide +kernel
theorem dL_811 : decode code 811 = .ok (.aload_n 2, 1) := by decide +kernel
theorem dL_812 : decode code 812 = .ok (.aload_n 0, 1) := by decide +kernel
theorem dL_813 : decode code 813 = .ok (.iload_n 3, 1) := by decide +kernel
theorem dL_814 : decode code 814 = .ok (.iconst 1, 1) := by decide +kernel
theorem dL_815 : decode code 815 = .ok (.iadd, 1) := by decide +kernel
theorem dL_816 : decode code 816 = .ok (.iaload, 1) := by decide +kernel
theorem dL_817 : decode code 817 = .ok (.invokevirtual 125, 3) := by decide +kernel
theorem dL_820 : decode code 820 = .ok (.if_icmp .eq 179, 3) := by decide +kernel
theorem dL_823 : decode code 823 = .ok (.iconst 0, 1) := by decide +kernel
theorem dL_824 : decode code 824 = .ok (.ireturn, 1) := by decide +kernel
theorem dL_825 : decode code 825 = .ok (.aload_n 1, 1) := by decide +kernel
theorem dL_826 : decode code 826 = .ok (.invokevirtual 126, 3) := by decide +kernel
theorem dL_829 : decode code 829 = .ok (.aload_n 2, 1) := by decide +kernel
theorem dL_830 : decode code 830 = .ok (.invokevirtual 129, 3) := by decide +kernel
theorem dL_833 : decode code 833 = .ok (.if_icmp .eq 166, 3) := by decide +kernel
theorem dL_836 : decode code 836 = .ok (.iconst 0, 1) := by decide +kernel
theorem dL_837 : decode code 837 = .ok (.ireturn, 1) := by decide +kernel
theorem dL_838 : decode code 838 = .ok (.aload_n 1, 1) := by decide +kernel
theorem dL_839 : decode code 839 = .ok (.aload_n 0, 1) := by decide +kernel
theorem dL_840 : decode code 840 = .ok (.iload_n 3, 1) := by decide +kernel
theorem dL_841 : decode code 841 = .ok (.iconst 1, 1) := by decide +kernel
theorem dL_842 : decode code 842 = .ok (.iadd, 1) := by decide +kernel
theorem dL_843 : decode code 843 = .ok (.iaload, 1) := by decide +kernel
theorem dL_844 : decode code 844 = .ok (.invokevirtual 130, 3) := by decide +kernel
theorem dL_847 : decode code 847 = .ok (.aload_n 2, 1) := by decide +kernel
theorem dL_848 : decode code 848 = .ok (.aload_n 0, 1) := by decide +kernel
theorem dL_849 : decode code 849 = .ok (.iload_n 3, 1) := by decide +kernel
theorem dL_850 : decode code 850 = .ok (.iconst 1, 1) := by decide +kernel
theorem dL_851 : decode code 851 = .ok (.iadd, 1) := by decide +kernel
theorem dL_852 : decode code 852 = .ok (.iaload, 1) := by decide +kernel
theorem dL_853 : decode code 853 = .ok (.invokevirtual 133, 3) := by decide +kernel
theorem dL_856 : decode code 856 = .ok (.if_icmp .eq 143, 3) := by decide +kernel
theorem dL_859 : decode code 859 = .ok (.iconst 0, 1) := by decide +kernel
theorem dL_860 : decode code 860 = .ok (.ireturn, 1) := by decide +kernel
theorem dL_861 : decode code 861 = .ok (.aload_n 1, 1) := by decide +kernel
theorem dL_862 : decode code 862 = .ok (.invokevirtual 134, 3) := by decide +kernel
theorem dL_865 : decode code 865 = .ok (.aload_n 2, 1) := by decide +kernel
theorem dL_866 : decode code 866 = .ok (.invokevirtual 137, 3) := by decide +kernel
theorem dL_869 : decode code 869 = .ok (.if_icmp .eq 130, 3) := by decide +kernel
theorem dL_872 : decode code 872 = .ok (.iconst 0, 1) := by decide +kernel
theorem dL_873 : decode code 873 = .ok (.ireturn, 1) := by decide +kernel
theorem dL_874 : decode code 874 = .ok (.aload_n 1, 1) := by decide +kernel
theorem dL_875 : decode code 875 = .ok (.aload_n 0, 1) := by decide +kernel
theorem dL_876 : decode code 876 = .ok (.iload_n 3, 1) := by decide +kernel
theorem dL_877 : decode code 877 = .ok (.iconst 1, 1) := by decide +kernel
theorem dL_878 : decode code 878 = .ok (.iadd, 1) := by decide +kernel
theorem dL_879 : decode code 879 = .ok (.iaload, 1) := by decide +kernel
theorem dL_880 : decode code 880 = .ok (.aload_n 0, 1) := by decide +kernel
theorem dL_881 : decode code 881 = .ok (.iload_n 3, 1) := by decide +kernel
theorem dL_882 : decode code 882 = .ok (.iconst 2, 1) := by decide +kernel
theorem dL_883 : decode code 883 = .ok (.iadd, 1) := by decide +kernel
theorem dL_884 : decode code 884 = .ok (.iaload, 1) := by decide +kernel
theorem dL_885 : decode code 885 = .ok (.invokevirtual 138, 3) := by decide +kernel
theorem dL_888 : decode code 888 = .ok (.aload_n 2, 1) := by decide +kernel
theorem dL_889 : decode code 889 = .ok (.aload_n 0, 1) := by decide +kernel
theorem dL_890 : decode code 890 = .ok (.iload_n 3, 1) := by decide +kernel
theorem dL_891 : decode code 891 = .ok (.iconst 1, 1) := by decide +kernel
theorem dL_892 : decode code 892 = .ok (.iadd, 1) := by decide +kernel
theorem dL_893 : decode code 893 = .ok (.iaload, 1) := by decide +kernel
theorem dL_894 : decode code 894 = .ok (.aload_n 0, 1) := by decide +kernel
theorem dL_895 : decode code 895 = .ok (.iload_n 3, 1) := by decide +kernel
theorem dL_896 : decode code 896 = .ok (.iconst 2, 1) := by decide +kernel
theorem dL_897 : decode code 897 = .ok (.iadd, 1) := by decide +kernel
theorem dL_898 : decode code 898 = .ok (.iaload, 1) := by decide +kernel
theorem dL_899 : decode code 899 = .ok (.invokevirtual 141, 3) := by decide +kernel
theorem dL_902 : decode code 902 = .ok (.if_icmp .eq 97, 3) := by decide +kernel
theorem dL_905 : decode code 905 = .ok (.iconst 0, 1) := by decide +kernel
theorem dL_906 : decode code 906 = .ok (.ireturn, 1) := by decide +kernel
theorem dL_907 : decode code 907 = .ok (.aload_n 1, 1) := by decide +kernel
theorem dL_908 : decode code 908 = .ok (.aload_n 0, 1) := by decide +kernel
theorem dL_909 : decode code 909 = .ok (.iload_n 3, 1) := by decide +kernel
theorem dL_910 : decode code 910 = .ok (.iconst 1, 1) := by decide +kernel
theorem dL_911 : decode code 911 = .ok (.iadd, 1) := by decide +kernel
theorem dL_912 : decode code 912 = .ok (.iaload, 1) := by decide +kernel
theorem dL_913 : decode code 913 = .ok (.aload_n 0, 1) := by decide +kernel
theorem dL_914 : decode code 914 = .ok (.iload_n 3, 1) := by decide +kernel
theorem dL_915 : decode code 915 = .ok (.iconst 2, 1) := by decide +kernel
theorem dL_916 : decode code 916 = .ok (.iadd, 1) := by decide +kernel
theorem dL_917 : decode code 917 = .ok (.iaload, 1) := by decide +kernel
theorem dL_918 : decode code 918 = .ok (.aload_n 0, 1) := by decide +kernel
theorem dL_919 : decode code 919 = .ok (.iload_n 3, 1) := by decide +kernel
theorem dL_920 : decode code 920 = .ok (.iconst 3, 1) := by decide +kernel
theorem dL_921 : decode code 921 = .ok (.iadd, 1) := by decide +kernel
theorem dL_922 : decode code 922 = .ok (.iaload, 1) := by decide +kernel
theorem dL_923 : decode code 923 = .ok (.invokevirtual 142, 3) := by decide +kernel
theorem dL_926 : decode code 926 = .ok (.aload_n 2, 1) := by decide +kernel
theorem dL_927 : decode code 927 = .ok (.aload_n 0, 1) := by decide +kernel
theorem dL_928 : decode code 928 = .ok (.iload_n 3, 1) := by decide +kernel
theorem dL_929 : decode code 929 = .ok (.iconst 1, 1) := by decide +kernel
theorem dL_930 : decode code 930 = .ok (.iadd, 1) := by decide +kernel
theorem dL_931 : decode code 931 = .ok (.iaload, 1) := by decide +kernel
theorem dL_932 : decode code 932 = .ok (.aload_n 0, 1) := by decide +kernel
theorem dL_933 : decode code 933 = .ok (.iload_n 3, 1) := by decide +kernel
theorem dL_934 : decode code 934 = .ok (.iconst 2, 1) := by decide +kernel
theorem dL_935 : decode code 935 = .ok (.iadd, 1) := by decide +kernel
theorem dL_936 : decode code 936 = .ok (.iaload, 1) := by decide +kernel
theorem dL_937 : decode code 937 = .ok (.aload_n 0, 1) := by decide +kernel
theorem dL_938 : decode code 938 = .ok (.iload_n 3, 1) := by decide +kernel
theorem dL_939 : decode code 939 = .ok (.iconst 3, 1) := by decide +kernel
theorem dL_940 : decode code 940 = .ok (.iadd, 1) := by decide +kernel
theorem dL_941 : decode code 941 = .ok (.iaload, 1) := by decide +kernel
theorem dL_942 : decode code 942 = .ok (.invokevirtual 145, 3) := by decide +kernel
theorem dL_945 : decode code 945 = .ok (.if_icmp .eq 54, 3) := by decide +kernel
theorem dL_948 : decode code 948 = .ok (.iconst 0, 1) := by decide +kernel
theorem dL_949 : decode code 949 = .ok (.ireturn, 1) := by decide +kernel
theorem dL_950 : decode code 950 = .ok (.aload_n 1, 1) := by decide +kernel
theorem dL_951 : decode code 951 = .ok (.invokevirtual 146, 3) := by decide +kernel
theorem dL_954 : decode code 954 = .ok (.aload_n 2, 1) := by decide +kernel
theorem dL_955 : decode code 955 = .ok (.invokevirtual 149, 3) := by decide +kernel
theorem dL_958 : decode code 958 = .ok (.if_icmp .eq 41, 3) := by decide +kernel
theorem dL_961 : decode code 961 = .ok (.iconst 0, 1) := by decide +kernel
theorem dL_962 : decode code 962 = .ok (.ireturn, 1) := by decide +kernel
theorem dL_963 : decode code 963 = .ok (.aload_n 1, 1) := by decide +kernel
theorem dL_964 : decode code 964 = .ok (.invokevirtual 150, 3) := by decide +kernel
theorem dL_967 : decode code 967 = .ok (.aload_n 2, 1) := by decide +kernel
theorem dL_968 : decode code 968 = .ok (.invokevirtual 153, 3) := by decide +kernel
theorem dL_971 : decode code 971 = .ok (.if_icmp .eq 28, 3) := by decide +kernel
theorem dL_974 : decode code 974 = .ok (.iconst 0, 1) := by decide +kernel
theorem dL_975 : decode code 975 = .ok (.ireturn, 1) := by decide +kernel
theorem dL_976 : decode code 976 = .ok (.aload_n 1, 1) := by decide +kernel
theorem dL_977 : decode code 977 = .ok (.aload_n 0, 1) := by decide +kernel
theorem dL_978 : decode code 978 = .ok (.iload_n 3, 1) := by decide +kernel
theorem dL_979 : decode code 979 = .ok (.iconst 1, 1) := by decide +kernel
theorem dL_980 : decode code 980 = .ok (.iadd, 1) := by decide +kernel
theorem dL_981 : decode code 981 = .ok (.iaload, 1) := by decide +kernel
theorem dL_982 : decode code 982 = .ok (.invokevirtual 154, 3) := by decide +kernel
theorem dL_985 : decode code 985 = .ok (.aload_n 2, 1) := by decide +kernel
theorem dL_986 : decode code 986 = .ok (.aload_n 0, 1) := by decide +kernel
theorem dL_987 : decode code 987 = .ok (.iload_n 3, 1) := by decide +kernel
theorem dL_988 : decode code 988 = .ok (.iconst 1, 1) := by decide +kernel
theorem dL_989 : decode code 989 = .ok (.iadd, 1) := by decide +kernel
theorem dL_990 : decode code 990 = .ok (.iaload, 1) := by decide +kernel
theorem dL_991 : decode code 991 = .ok (.invokevirtual 157, 3) := by decide +kernel
theorem dL_994 : decode code 994 = .ok (.if_icmp .eq 5, 3) := by decide +kernel
theorem dL_997 : decode code 997 = .ok (.iconst 0, 1) := by decide +kernel
theorem dL_998 : decode code 998 = .ok (.ireturn, 1) := by decide +kernel
theorem dL_999 : decode code 999 = .ok (.iinc 3 4, 3) := by decide +kernel
theorem dL_1002 : decode code 1002 = .ok (.goto (-984), 3) := by decide +kernel
theorem dL_1005 : decode code 1005 = .ok (.iconst 1, 1) := by decide +kernel
theorem dL_1006 : decode code 1006 = .ok (.ireturn, 1) := by decide +kernel
