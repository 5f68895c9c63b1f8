theorem dX12_readAll_0 : decode bX12_readAll 0 = .ok (.aload_n 0, 1) := by decide +kernel
theorem dX12_readAll_1 : decode bX12_readAll 1 = .ok (.invokevirtual 68, 3) := by decide +kernel
theorem dX12_readAll_4 : decode bX12_readAll 4 = .ok (.aload_n 0, 1) := by decide +kernel
theorem dX12_readAll_5 : decode bX12_readAll 5 = .ok (.iconst 0, 1) := by decide +kernel
theorem dX12_readAll_6 : decode bX12_readAll 6 = .ok (.putfield 86, 3) := by decide +kernel
theorem dX12_readAll_9 : decode bX12_readAll 9 = .ok (.iconst 1, 1) := by decide +kernel
theorem dX12_readAll_10 : decode bX12_readAll 10 = .ok (.istore_n 1, 1) := by decide +kernel
theorem dX12_readAll_11 : decode bX12_readAll 11 = .ok (.aload_n 0, 1) := by decide +kernel
theorem dX12_readAll_12 : decode bX12_readAll 12 = .ok (.getfield 86, 3) := by decide +kernel
theorem dX12_readAll_15 : decode bX12_readAll 15 = .ok (.aload_n 0, 1) := by decide +kernel
theorem dX12_readAll_16 : decode bX12_readAll 16 = .ok (.getfield 83, 3) := by decide +kernel
theorem dX12_readAll_19 : decode bX12_readAll 19 = .ok (.if_icmp .ge 58, 3) := by decide +kernel
theorem dX12_readAll_22 : decode bX12_readAll 22 = .ok (.aload_n 0, 1) := by decide +kernel
theorem dX12_readAll_23 : decode bX12_readAll 23 = .ok (.getfield 86, 3) := by decide +kernel
theorem dX12_readAll_26 : decode bX12_readAll 26 = .ok (.istore_n 2, 1) := by decide +kernel
theorem dX12_readAll_27 : decode bX12_readAll 27 = .ok (.aload_n 0, 1) := by decide +kernel
theorem dX12_readAll_28 : decode bX12_readAll 28 = .ok (.getfield 29, 3) := by decide +kernel
theorem dX12_readAll_31 : decode bX12_readAll 31 = .ok (.aload_n 0, 1) := by decide +kernel
theorem dX12_readAll_32 : decode bX12_readAll 32 = .ok (.getfield 86, 3) := by decide +kernel
theorem dX12_readAll_35 : decode bX12_readAll 35 = .ok (.iaload, 1) := by decide +kernel
theorem dX12_readAll_36 : decode bX12_readAll 36 = .ok (.istore_n 3, 1) := by decide +kernel
theorem dX12_readAll_37 : decode bX12_readAll 37 = .ok (.aload_n 0, 1) := by decide +kernel
theorem dX12_readAll_38 : decode bX12_readAll 38 = .ok (.dup, 1) := by decide +kernel
theorem dX12_readAll_39 : decode bX12_readAll 39 = .ok (.getfield 86, 3) := by decide +kernel
theorem dX12_readAll_42 : decode bX12_readAll 42 = .ok (.iconst 1, 1) := by decide +kernel
theorem dX12_readAll_43 : decode bX12_readAll 43 = .ok (.iadd, 1) := by decide +kernel
theorem dX12_readAll_44 : decode bX12_readAll 44 = .ok (.putfield 86, 3) := by decide +kernel
theorem dX12_readAll_47 : decode bX12_readAll 47 = .ok (.aload_n 0, 1) := by decide +kernel
theorem dX12_readAll_48 : decode bX12_readAll 48 = .ok (.iload_n 3, 1) := by decide +kernel
theorem dX12_readAll_49 : decode bX12_readAll 49 = .ok (.iload_n 1, 1) := by decide +kernel
theorem dX12_readAll_50 : decode bX12_readAll 50 = .ok (.invokevirtual 105, 3) := by decide +kernel
theorem dX12_readAll_53 : decode bX12_readAll 53 = .ok (.ifCond .ne 5, 3) := by decide +kernel
theorem dX12_readAll_56 : decode bX12_readAll 56 = .ok (.iload_n 2, 1) := by decide +kernel
theorem dX12_readAll_57 : decode bX12_readAll 57 = .ok (.ireturn, 1) := by decide +kernel
theorem dX12_readAll_58 : decode bX12_readAll 58 = .ok (.iload_n 1, 1) := by decide +kernel
theorem dX12_readAll_59 : decode bX12_readAll 59 = .ok (.ifCond .eq 13, 3) := by decide +kernel
theorem dX12_readAll_62 : decode bX12_readAll 62 = .ok (.iload_n 3, 1) := by decide +kernel
theorem dX12_readAll_63 : decode bX12_readAll 63 = .ok (.bipush 110, 2) := by decide +kernel
theorem dX12_readAll_65 : decode bX12_readAll 65 = .ok (.if_icmp .ne 7, 3) := by decide +kernel
theorem dX12_readAll_68 : decode bX12_readAll 68 = .ok (.iconst 1, 1) := by decide +kernel
theorem dX12_readAll_69 : decode bX12_readAll 69 = .ok (.goto 4, 3) := by decide +kernel
theorem dX12_readAll_72 : decode bX12_readAll 72 = .ok (.iconst 0, 1) := by decide +kernel
theorem dX12_readAll_73 : decode bX12_readAll 73 = .ok (.istore_n 1, 1) := by decide +kernel
theorem dX12_readAll_74 : decode bX12_readAll 74 = .ok (.goto (-63), 3) := by decide +kernel
theorem dX12_readAll_77 : decode bX12_readAll 77 = .ok (.bipush (-4), 2) := by decide +kernel
theorem dX12_readAll_79 : decode bX12_readAll 79 = .ok (.ireturn, 1) := by decide +kernel
section
variable {p : Program} {l : Launch} {e : Env} {s : State} {m : MethodId} {args : Array Value} {below : List Frame} {meth : Method} {c : Code} {G : GG} {n : Nat} {h' : Hp} {rv : Int32}
set_option maxHeartbeats 4000000
set_option maxRecDepth 100000
theorem j_X12_readAll_11 (C0 : Cx p s m args meth c G bX12_readAll RX12 4 (some .int) "readAll") (hN : NT ≤ n) : ∀ (fu : Nat), ∀ {H : Heap} {locs : List Loc} {ls : Array Slot} {h : Hp} {x0 : Nat} {x1 : Int32}, XW G n h s 0 H locs → lv_has ls 4 [(0, .ref (bs G + x0)), (1, .int x1)] → kd x0 = 12 → f_X12_readAll_11 fu h x0 x1 = some (rv, h') → W p l e (rmC 4 0 0) s m args below meth c H locs 0 0 (MQ below (QP G n h' (some (.int rv))) args s 0 0 (Ab G)) (F0 m 11 ls []) := by
  obtain ⟨hx, hb, hr, hml, hown, hts, hK, hlocks, hnm⟩ := id C0
  intro fu
  induction fu with
  | zero => intro H locs ls h x0 x1 X hl o0 hf; cases hf
  | succ fu ih =>
    intro H locs ls h x0 x1 X hl o0 hf
    rw [f_X12_readAll_11] at hf
    refine lv_aload_n hx hb dX12_readAll_11 rfl (lv_at hl 0 rfl) ?_
    refine g_I hx hb hts hown hK X o0 hN fl_X12_86 (by decide) rfl dX12_readAll_12 ?_
    refine lv_aload_n hx hb dX12_readAll_15 rfl (lv_at hl 0 rfl) ?_
    refine g_I hx hb hts hown hK X o0 hN fl_X12_83 (by decide) rfl dX12_readAll_16 ?_
    refine lv_icmp_ge (tgt := 77) hx hb dX12_readAll_19 (by decide) (fun c19 => ?_) (fun c19 => ?_)
    · have hf := ite_t hf c19
      refine lv_bipush (v := (-4 : Int32)) hx hb dX12_readAll_77 (by decide) ?_
      exact r_I hx hb hr hlocks X hf dX12_readAll_79
    · have hf := ite_f hf c19
      refine lv_aload_n hx hb dX12_readAll_22 rfl (lv_at hl 0 rfl) ?_
      refine g_I hx hb hts hown hK X o0 hN fl_X12_86 (by decide) rfl dX12_readAll_23 ?_
      refine lv_istore_n (lv' := [(2, .int (h.1 x0 10)), (0, .ref (bs G + x0)), (1, .int x1)]) hx hb dX12_readAll_26 rfl hl (by decide) rfl (fun ls hl => ?_)
      refine lv_aload_n hx hb dX12_readAll_27 rfl (lv_at hl 1 rfl) ?_
      obtain ⟨g1, hf⟩ := gd_e hf
      refine g_R hx hb hts hown hK X o0 hN g1 fl_X12_29 (by decide) rfl (by decide) dX12_readAll_28 ?_
      refine lv_aload_n hx hb dX12_readAll_31 rfl (lv_at hl 1 rfl) ?_
      refine g_I hx hb hts hown hK X o0 hN fl_X12_86 (by decide) rfl dX12_readAll_32 ?_
      obtain ⟨g2, hf⟩ := gd_e hf
      refine g_ia hx hb hK X g1 hN g2 (by decide) dX12_readAll_35 ?_
      refine lv_istore_n (lv' := [(3, .int (h.1 (h.2 x0 8) (h.1 x0 10).toNatClampNeg)), (2, .int (h.1 x0 10)), (0, .ref (bs G + x0)), (1, .int x1)]) hx hb dX12_readAll_36 rfl hl (by decide) rfl (fun ls hl => ?_)
      refine lv_aload_n hx hb dX12_readAll_37 rfl (lv_at hl 2 rfl) ?_
      refine lv_dup hx hb dX12_readAll_38 rfl ?_
      refine g_I hx hb hts hown hK X o0 hN fl_X12_86 (by decide) rfl dX12_readAll_39 ?_
      refine lv_iconst (v := (1 : Int32)) hx hb dX12_readAll_42 (by decide) ?_
      refine lv_iadd hx hb dX12_readAll_43 ?_
      refine g_PI hx hb hts hown hK X o0 hN fl_X12_86 ft_12_10 (by decide) rfl dX12_readAll_44 (fun H locs X => ?_)
      obtain ⟨h3, e4, hf⟩ := lt_e hf
      rw [← e4] at X
      refine lv_aload_n hx hb dX12_readAll_47 rfl (lv_at hl 2 rfl) ?_
      refine lv_iload_n hx hb dX12_readAll_48 rfl (lv_at hl 0 rfl) ?_
      refine lv_iload_n hx hb dX12_readAll_49 rfl (lv_at hl 3 rfl) ?_
      obtain ⟨r5, h6, q7, hf⟩ := bd_e hf
      refine c_V0 (As := [.int (h.1 (h.2 x0 8) (h.1 x0 10).toNatClampNeg), .int x1]) (rest := []) (st1 := [.int r5]) hx hb hml hown hts hK X (k_X12_readItem l G n hN q7) o0 hN lc_X12_readItem lv_X12_105 (ci := 12) rfl rfl (by decide) rfl hl.1 (Nat.le_of_ble_eq_true rfl) dX12_readAll_50 rfl (fun H locs X => ?_)
      refine lv_if_ne (tgt := 58) hx hb dX12_readAll_53 (by decide) (fun c53 => ?_) (fun c53 => ?_)
      · have hf := ite_f hf c53
        refine lv_iload_n hx hb dX12_readAll_58 rfl (lv_at hl 3 rfl) ?_
        refine lv_if_eq (tgt := 72) hx hb dX12_readAll_59 (by decide) (fun c59 => ?_) (fun c59 => ?_)
        · have hf := ite_t hf c59
          refine lv_iconst (v := (0 : Int32)) hx hb dX12_readAll_72 (by decide) ?_
          refine lv_istore_n (lv' := [(1, .int (0 : Int32)), (3, .int (h.1 (h.2 x0 8) (h.1 x0 10).toNatClampNeg)), (2, .int (h.1 x0 10)), (0, .ref (bs G + x0))]) hx hb dX12_readAll_73 rfl hl (by decide) rfl (fun ls hl => ?_)
          refine lv_goto (tgt := 11) hx hb dX12_readAll_74 (by decide) ?_
          exact ih X (lv_sub hl [3, 0] rfl) o0 hf
        · have hf := ite_f hf c59
          refine lv_iload_n hx hb dX12_readAll_62 rfl (lv_at hl 0 rfl) ?_
          refine lv_bipush (v := (110 : Int32)) hx hb dX12_readAll_63 (by decide) ?_
          refine lv_icmp_ne (tgt := 72) hx hb dX12_readAll_65 (by decide) (fun c65 => ?_) (fun c65 => ?_)
          · have hf := ite_f hf c65
            refine lv_iconst (v := (0 : Int32)) hx hb dX12_readAll_72 (by decide) ?_
            refine lv_istore_n (lv' := [(1, .int (0 : Int32)), (3, .int (h.1 (h.2 x0 8) (h.1 x0 10).toNatClampNeg)), (2, .int (h.1 x0 10)), (0, .ref (bs G + x0))]) hx hb dX12_readAll_73 rfl hl (by decide) rfl (fun ls hl => ?_)
            refine lv_goto (tgt := 11) hx hb dX12_readAll_74 (by decide) ?_
            exact ih X (lv_sub hl [3, 0] rfl) o0 hf
          · have hf := ite_t hf c65
            refine lv_iconst (v := (1 : Int32)) hx hb dX12_readAll_68 (by decide) ?_
            refine lv_goto (tgt := 73) hx hb dX12_readAll_69 (by decide) ?_
            refine lv_istore_n (lv' := [(1, .int (1 : Int32)), (3, .int (h.1 (h.2 x0 8) (h.1 x0 10).toNatClampNeg)), (2, .int (h.1 x0 10)), (0, .ref (bs G + x0))]) hx hb dX12_readAll_73 rfl hl (by decide) rfl (fun ls hl => ?_)
            refine lv_goto (tgt := 11) hx hb dX12_readAll_74 (by decide) ?_
            exact ih X (lv_sub hl [3, 0] rfl) o0 hf
      · have hf := ite_t hf c53
        refine lv_iload_n hx hb dX12_readAll_56 rfl (lv_at hl 1 rfl) ?_
        exact r_I hx hb hr hlocks X hf dX12_readAll_57
theorem k_X12_readAll (l : Launch) (G : GG) (n : Nat) (hN : NT ≤ n) {h h' : Hp} {x0 : Nat} {rv : Int32} (hf : f_X12_readAll h x0 = some (rv, h')) : CT l G n n yX12_readAll (.code yX12_readAll bX12_readAll 4 (some .int)) 4 0 0 [.ref (bs G + x0)] h h' (some (.int rv)) := by
  refine ct_of (maxL := 4) (ret := (some .int)) (bytes := bX12_readAll) (by decide) (Nat.le_of_ble_eq_true rfl) (fun p e s m below meth c C0 X ls hl => ?_)
  have hl : lv_has ls 4 [(0, .ref (bs G + x0))] := hl
  obtain ⟨hx, hb, hr, hml, hown, hts, hK, hlocks, hnm⟩ := id C0
  unfold f_X12_readAll at hf
  obtain ⟨o0, hf⟩ := gd_e hf
  refine lv_aload_n hx hb dX12_readAll_0 rfl (lv_at hl 0 rfl) ?_
  obtain ⟨r1, h2, q3, hf⟩ := bd_e hf
  refine c_V0 (As := []) (rest := []) (st1 := []) hx hb hml hown hts hK X (k_X12_begin l G n hN q3) o0 hN lc_X12_begin lv_X12_68 (ci := 12) rfl rfl (by decide) rfl hl.1 (Nat.le_of_ble_eq_true rfl) dX12_readAll_1 rfl (fun H locs X => ?_)
  refine lv_aload_n hx hb dX12_readAll_4 rfl (lv_at hl 0 rfl) ?_
  refine lv_iconst (v := (0 : Int32)) hx hb dX12_readAll_5 (by decide) ?_
  refine g_PI hx hb hts hown hK X o0 hN fl_X12_86 ft_12_10 (by decide) rfl dX12_readAll_6 (fun H locs X => ?_)
  obtain ⟨h4, e5, hf⟩ := lt_e hf
  rw [← e5] at X
  refine lv_iconst (v := (1 : Int32)) hx hb dX12_readAll_9 (by decide) ?_
  refine lv_istore_n (lv' := [(1, .int (1 : Int32)), (0, .ref (bs G + x0))]) hx hb dX12_readAll_10 rfl hl (by decide) rfl (fun ls hl => ?_)
  exact j_X12_readAll_11 C0 hN FU X (lv_sub hl [1, 0] rfl) o0 hf
end
theorem dX12_fault_0 : decode bX12_fault 0 = .ok (.aload_n 0, 1) := by decide +kernel
theorem dX12_fault_1 : decode bX12_fault 1 = .ok (.iconst 0, 1) := by decide +kernel
theorem dX12_fault_2 : decode bX12_fault 2 = .ok (.putfield 1, 3) := by decide +kernel
theorem dX12_fault_5 : decode bX12_fault 5 = .ok (.aload_n 0, 1) := by decide +kernel
theorem dX12_fault_6 : decode bX12_fault 6 = .ok (.invokevirtual 109, 3) := by decide +kernel
theorem dX12_fault_9 : decode bX12_fault 9 = .ok (.ireturn, 1) := by decide +kernel
section
variable {p : Program} {l : Launch} {e : Env} {s : State} {m : MethodId} {args : Array Value} {below : List Frame} {meth : Method} {c : Code} {G : GG} {n : Nat} {h' : Hp} {rv : Int32}
set_option maxHeartbeats 4000000
set_option maxRecDepth 100000
theorem k_X12_fault (l : Launch) (G : GG) (n : Nat) (hN : NT ≤ n) {h h' : Hp} {x0 : Nat} {rv : Int32} (hf : f_X12_fault h x0 = some (rv, h')) : CT l G n n yX12_fault (.code yX12_fault bX12_fault 1 (some .int)) 5 0 0 [.ref (bs G + x0)] h h' (some (.int rv)) := by
  refine ct_of (maxL := 1) (ret := (some .int)) (bytes := bX12_fault) (by decide) (Nat.le_of_ble_eq_true rfl) (fun p e s m below meth c C0 X ls hl => ?_)
  have hl : lv_has ls 1 [(0, .ref (bs G + x0))] := hl
  obtain ⟨hx, hb, hr, hml, hown, hts, hK, hlocks, hnm⟩ := id C0
  unfold f_X12_fault at hf
  obtain ⟨o0, hf⟩ := gd_e hf
  refine lv_aload_n hx hb dX12_fault_0 rfl (lv_at hl 0 rfl) ?_
  refine lv_iconst (v := (0 : Int32)) hx hb dX12_fault_1 (by decide) ?_
  refine g_PI hx hb hts hown hK X o0 hN fl_X12_1 ft_12_0 (by decide) rfl dX12_fault_2 (fun H locs X => ?_)
  obtain ⟨h1, e2, hf⟩ := lt_e hf
  rw [← e2] at X
  refine lv_aload_n hx hb dX12_fault_5 rfl (lv_at hl 0 rfl) ?_
  obtain ⟨r3, h4, q5, hf⟩ := bd_e hf
  refine c_V0 (As := []) (rest := []) (st1 := [.int r3]) hx hb hml hown hts hK X (k_X12_readAll l G n hN q5) o0 hN lc_X12_readAll lv_X12_109 (ci := 12) rfl rfl (by decide) rfl hl.1 (Nat.le_of_ble_eq_true rfl) dX12_fault_6 rfl (fun H locs X => ?_)
  exact r_I hx hb hr hlocks X hf dX12_fault_9
end
theorem dX12_lay_0 : decode bX12_lay 0 = .ok (.aload_n 0, 1) := by decide +kernel
theorem dX12_lay_1 : decode bX12_lay 1 = .ok (.iconst 0, 1) := by decide +kernel
theorem dX12_lay_2 : decode bX12_lay 2 = .ok (.putfield 1, 3) := by decide +kernel
theorem dX12_lay_5 : decode bX12_lay 5 = .ok (.aload_n 0, 1) := by decide +kernel
theorem dX12_lay_6 : decode bX12_lay 6 = .ok (.invokevirtual 109, 3) := by decide +kernel
theorem dX12_lay_9 : decode bX12_lay 9 = .ok (.bipush (-4), 2) := by decide +kernel
theorem dX12_lay_11 : decode bX12_lay 11 = .ok (.if_icmp .ne 12, 3) := by decide +kernel
theorem dX12_lay_14 : decode bX12_lay 14 = .ok (.aload_n 0, 1) := by decide +kernel
theorem dX12_lay_15 : decode bX12_lay 15 = .ok (.getfield 17, 3) := by decide +kernel
theorem dX12_lay_18 : decode bX12_lay 18 = .ok (.iconst 1, 1) := by decide +kernel
theorem dX12_lay_19 : decode bX12_lay 19 = .ok (.iaload, 1) := by decide +kernel
theorem dX12_lay_20 : decode bX12_lay 20 = .ok (.ifCond .ne 6, 3) := by decide +kernel
theorem dX12_lay_23 : decode bX12_lay 23 = .ok (.bipush (-2), 2) := by decide +kernel
theorem dX12_lay_25 : decode bX12_lay 25 = .ok (.ireturn, 1) := by decide +kernel
theorem dX12_lay_26 : decode bX12_lay 26 = .ok (.iconst 0, 1) := by decide +kernel
theorem dX12_lay_27 : decode bX12_lay 27 = .ok (.istore_n 1, 1) := by decide +kernel
theorem dX12_lay_28 : decode bX12_lay 28 = .ok (.iload_n 1, 1) := by decide +kernel
theorem dX12_lay_29 : decode bX12_lay 29 = .ok (.bipush 59, 2) := by decide +kernel
theorem dX12_lay_31 : decode bX12_lay 31 = .ok (.if_icmp .ge 21, 3) := by decide +kernel
theorem dX12_lay_34 : decode bX12_lay 34 = .ok (.aload_n 0, 1) := by decide +kernel
theorem dX12_lay_35 : decode bX12_lay 35 = .ok (.getfield 13, 3) := by decide +kernel
theorem dX12_lay_38 : decode bX12_lay 38 = .ok (.iload_n 1, 1) := by decide +kernel
theorem dX12_lay_39 : decode bX12_lay 39 = .ok (.aload_n 0, 1) := by decide +kernel
theorem dX12_lay_40 : decode bX12_lay 40 = .ok (.getfield 17, 3) := by decide +kernel
theorem dX12_lay_43 : decode bX12_lay 43 = .ok (.iload_n 1, 1) := by decide +kernel
theorem dX12_lay_44 : decode bX12_lay 44 = .ok (.iaload, 1) := by decide +kernel
theorem dX12_lay_45 : decode bX12_lay 45 = .ok (.iastore, 1) := by decide +kernel
theorem dX12_lay_46 : decode bX12_lay 46 = .ok (.iinc 1 1, 3) := by decide +kernel
theorem dX12_lay_49 : decode bX12_lay 49 = .ok (.goto (-21), 3) := by decide +kernel
theorem dX12_lay_52 : decode bX12_lay 52 = .ok (.aload_n 0, 1) := by decide +kernel
theorem dX12_lay_53 : decode bX12_lay 53 = .ok (.iconst 0, 1) := by decide +kernel
theorem dX12_lay_54 : decode bX12_lay 54 = .ok (.invokevirtual 71, 3) := by decide +kernel
theorem dX12_lay_57 : decode bX12_lay 57 = .ok (.aload_n 0, 1) := by decide +kernel
theorem dX12_lay_58 : decode bX12_lay 58 = .ok (.iconst 0, 1) := by decide +kernel
theorem dX12_lay_59 : decode bX12_lay 59 = .ok (.putfield 113, 3) := by decide +kernel
theorem dX12_lay_62 : decode bX12_lay 62 = .ok (.aload_n 0, 1) := by decide +kernel
theorem dX12_lay_63 : decode bX12_lay 63 = .ok (.iconst 0, 1) := by decide +kernel
theorem dX12_lay_64 : decode bX12_lay 64 = .ok (.putfield 116, 3) := by decide +kernel
theorem dX12_lay_67 : decode bX12_lay 67 = .ok (.aload_n 0, 1) := by decide +kernel
theorem dX12_lay_68 : decode bX12_lay 68 = .ok (.iconst 0, 1) := by decide +kernel
theorem dX12_lay_69 : decode bX12_lay 69 = .ok (.putfield 119, 3) := by decide +kernel
theorem dX12_lay_72 : decode bX12_lay 72 = .ok (.aload_n 0, 1) := by decide +kernel
theorem dX12_lay_73 : decode bX12_lay 73 = .ok (.iconst 0, 1) := by decide +kernel
theorem dX12_lay_74 : decode bX12_lay 74 = .ok (.putfield 122, 3) := by decide +kernel
theorem dX12_lay_77 : decode bX12_lay 77 = .ok (.aload_n 0, 1) := by decide +kernel
theorem dX12_lay_78 : decode bX12_lay 78 = .ok (.getfield 13, 3) := by decide +kernel
theorem dX12_lay_81 : decode bX12_lay 81 = .ok (.iconst 0, 1) := by decide +kernel
theorem dX12_lay_82 : decode bX12_lay 82 = .ok (.iaload, 1) := by decide +kernel
theorem dX12_lay_83 : decode bX12_lay 83 = .ok (.ireturn, 1) := by decide +kernel
section
variable {p : Program} {l : Launch} {e : Env} {s : State} {m : MethodId} {args : Array Value} {below : List Frame} {meth : Method} {c : Code} {G : GG} {n : Nat} {h' : Hp} {rv : Int32}
set_option maxHeartbeats 4000000
set_option maxRecDepth 100000
theorem j_X12_lay_28 (C0 : Cx p s m args meth c G bX12_lay RX12 2 (some .int) "lay") (hN : NT ≤ n) : ∀ (fu : Nat), ∀ {H : Heap} {locs : List Loc} {ls : Array Slot} {h : Hp} {x0 : Nat} {x1 : Int32}, XW G n h s 0 H locs → lv_has ls 2 [(0, .ref (bs G + x0)), (1, .int x1)] → kd x0 = 12 → f_X12_lay_28 fu h x0 x1 = some (rv, h') → W p l e (rmC 5 0 0) s m args below meth c H locs 0 0 (MQ below (QP G n h' (some (.int rv))) args s 0 0 (Ab G)) (F0 m 28 ls []) := by
  obtain ⟨hx, hb, hr, hml, hown, hts, hK, hlocks, hnm⟩ := id C0
  intro fu
  induction fu with
  | zero => intro H locs ls h x0 x1 X hl o0 hf; cases hf
  | succ fu ih =>
    intro H locs ls h x0 x1 X hl o0 hf
    rw [f_X12_lay_28] at hf
    refine lv_iload_n hx hb dX12_lay_28 rfl (lv_at hl 1 rfl) ?_
    refine lv_bipush (v := (59 : Int32)) hx hb dX12_lay_29 (by decide) ?_
    refine lv_icmp_ge (tgt := 52) hx hb dX12_lay_31 (by decide) (fun c31 => ?_) (fun c31 => ?_)
    · have hf := ite_t hf c31
      refine lv_aload_n hx hb dX12_lay_52 rfl (lv_at hl 0 rfl) ?_
      refine lv_iconst (v := (0 : Int32)) hx hb dX12_lay_53 (by decide) ?_
      obtain ⟨r1, h2, q3, hf⟩ := bd_e hf
      refine c_V0 (As := [.int (0 : Int32)]) (rest := []) (st1 := []) hx hb hml hown hts hK X (k_X12_dawn l G n hN q3) o0 hN lc_X12_dawn lv_X12_71 (ci := 12) rfl rfl (by decide) rfl hl.1 (Nat.le_of_ble_eq_true rfl) dX12_lay_54 rfl (fun H locs X => ?_)
      refine lv_aload_n hx hb dX12_lay_57 rfl (lv_at hl 0 rfl) ?_
      refine lv_iconst (v := (0 : Int32)) hx hb dX12_lay_58 (by decide) ?_
      refine g_PI hx hb hts hown hK X o0 hN fl_X12_113 ft_12_14 (by decide) rfl dX12_lay_59 (fun H locs X => ?_)
      obtain ⟨h4, e5, hf⟩ := lt_e hf
      rw [← e5] at X
      refine lv_aload_n hx hb dX12_lay_62 rfl (lv_at hl 0 rfl) ?_
      refine lv_iconst (v := (0 : Int32)) hx hb dX12_lay_63 (by decide) ?_
      refine g_PI hx hb hts hown hK X o0 hN fl_X12_116 ft_12_27 (by decide) rfl dX12_lay_64 (fun H locs X => ?_)
      obtain ⟨h6, e7, hf⟩ := lt_e hf
      rw [← e7] at X
      refine lv_aload_n hx hb dX12_lay_67 rfl (lv_at hl 0 rfl) ?_
      refine lv_iconst (v := (0 : Int32)) hx hb dX12_lay_68 (by decide) ?_
      refine g_PI hx hb hts hown hK X o0 hN fl_X12_119 ft_12_5 (by decide) rfl dX12_lay_69 (fun H locs X => ?_)
      obtain ⟨h8, e9, hf⟩ := lt_e hf
      rw [← e9] at X
      refine lv_aload_n hx hb dX12_lay_72 rfl (lv_at hl 0 rfl) ?_
      refine lv_iconst (v := (0 : Int32)) hx hb dX12_lay_73 (by decide) ?_
      refine g_PI hx hb hts hown hK X o0 hN fl_X12_122 ft_12_7 (by decide) rfl dX12_lay_74 (fun H locs X => ?_)
      obtain ⟨h10, e11, hf⟩ := lt_e hf
      rw [← e11] at X
      refine lv_aload_n hx hb dX12_lay_77 rfl (lv_at hl 0 rfl) ?_
      obtain ⟨g12, hf⟩ := gd_e hf
      refine g_R hx hb hts hown hK X o0 hN g12 fl_X12_13 (by decide) rfl (by decide) dX12_lay_78 ?_
      refine lv_iconst (v := (0 : Int32)) hx hb dX12_lay_81 (by decide) ?_
      obtain ⟨g13, hf⟩ := gd_e hf
      refine g_ia hx hb hK X g12 hN g13 (by decide) dX12_lay_82 ?_
      exact r_I hx hb hr hlocks X hf dX12_lay_83
    · have hf := ite_f hf c31
      refine lv_aload_n hx hb dX12_lay_34 rfl (lv_at hl 0 rfl) ?_
      obtain ⟨g14, hf⟩ := gd_e hf
      refine g_R hx hb hts hown hK X o0 hN g14 fl_X12_13 (by decide) rfl (by decide) dX12_lay_35 ?_
      refine lv_iload_n hx hb dX12_lay_38 rfl (lv_at hl 1 rfl) ?_
      refine lv_aload_n hx hb dX12_lay_39 rfl (lv_at hl 0 rfl) ?_
      obtain ⟨g15, hf⟩ := gd_e hf
      refine g_R hx hb hts hown hK X o0 hN g15 fl_X12_17 (by decide) rfl (by decide) dX12_lay_40 ?_
      refine lv_iload_n hx hb dX12_lay_43 rfl (lv_at hl 1 rfl) ?_
      obtain ⟨g16, hf⟩ := gd_e hf
      refine g_ia hx hb hK X g15 hN g16 (by decide) dX12_lay_44 ?_
      obtain ⟨g17, hf⟩ := gd_e hf
      refine g_is hx hb hK X g14 hN g17 (by decide) dX12_lay_45 (fun H locs X => ?_)
      obtain ⟨h18, e19, hf⟩ := lt_e hf
      rw [← e19] at X
      refine lv_iinc (v := (x1 + (1 : Int32))) (lv' := [(1, .int (x1 + (1 : Int32))), (0, .ref (bs G + x0))]) hx hb dX12_lay_46 hl (k := 1) rfl rfl (by decide) rfl (fun ls hl => ?_)
      refine lv_goto (tgt := 28) hx hb dX12_lay_49 (by decide) ?_
      exact ih X (lv_sub hl [1, 0] rfl) o0 hf
theorem k_X12_lay (l : Launch) (G : GG) (n : Nat) (hN : NT ≤ n) {h h' : Hp} {x0 : Nat} {rv : Int32} (hf : f_X12_lay h x0 = some (rv, h')) : CT l G n n yX12_lay (.code yX12_lay bX12_lay 2 (some .int)) 5 0 0 [.ref (bs G + x0)] h h' (some (.int rv)) := by
  refine ct_of (maxL := 2) (ret := (some .int)) (bytes := bX12_lay) (by decide) (Nat.le_of_ble_eq_true rfl) (fun p e s m below meth c C0 X ls hl => ?_)
  have hl : lv_has ls 2 [(0, .ref (bs G + x0))] := hl
  obtain ⟨hx, hb, hr, hml, hown, hts, hK, hlocks, hnm⟩ := id C0
  unfold f_X12_lay at hf
  obtain ⟨o0, hf⟩ := gd_e hf
  refine lv_aload_n hx hb dX12_lay_0 rfl (lv_at hl 0 rfl) ?_
  refine lv_iconst (v := (0 : Int32)) hx hb dX12_lay_1 (by decide) ?_
  refine g_PI hx hb hts hown hK X o0 hN fl_X12_1 ft_12_0 (by decide) rfl dX12_lay_2 (fun H locs X => ?_)
  obtain ⟨h1, e2, hf⟩ := lt_e hf
  rw [← e2] at X
  refine lv_aload_n hx hb dX12_lay_5 rfl (lv_at hl 0 rfl) ?_
  obtain ⟨r3, h4, q5, hf⟩ := bd_e hf
  refine c_V0 (As := []) (rest := []) (st1 := [.int r3]) hx hb hml hown hts hK X (k_X12_readAll l G n hN q5) o0 hN lc_X12_readAll lv_X12_109 (ci := 12) rfl rfl (by decide) rfl hl.1 (Nat.le_of_ble_eq_true rfl) dX12_lay_6 rfl (fun H locs X => ?_)
  refine lv_bipush (v := (-4 : Int32)) hx hb dX12_lay_9 (by decide) ?_
  refine lv_icmp_ne (tgt := 23) hx hb dX12_lay_11 (by decide) (fun c11 => ?_) (fun c11 => ?_)
  · have hf := ite_f hf c11
    refine lv_bipush (v := (-2 : Int32)) hx hb dX12_lay_23 (by decide) ?_
    exact r_I hx hb hr hlocks X hf dX12_lay_25
  · have hf := ite_t hf c11
    refine lv_aload_n hx hb dX12_lay_14 rfl (lv_at hl 0 rfl) ?_
    obtain ⟨g6, hf⟩ := gd_e hf
    refine g_R hx hb hts hown hK X o0 hN g6 fl_X12_17 (by decide) rfl (by decide) dX12_lay_15 ?_
    refine lv_iconst (v := (1 : Int32)) hx hb dX12_lay_18 (by decide) ?_
    obtain ⟨g7, hf⟩ := gd_e hf
    refine g_ia hx hb hK X g6 hN g7 (by decide) dX12_lay_19 ?_
    refine lv_if_ne (tgt := 26) hx hb dX12_lay_20 (by decide) (fun c20 => ?_) (fun c20 => ?_)
    · have hf := ite_f hf c20
      refine lv_iconst (v := (0 : Int32)) hx hb dX12_lay_26 (by decide) ?_
      refine lv_istore_n (lv' := [(1, .int (0 : Int32)), (0, .ref (bs G + x0))]) hx hb dX12_lay_27 rfl hl (by decide) rfl (fun ls hl => ?_)
      exact j_X12_lay_28 C0 hN FU X (lv_sub hl [1, 0] rfl) o0 hf
    · have hf := ite_t hf c20
      refine lv_bipush (v := (-2 : Int32)) hx hb dX12_lay_23 (by decide) ?_
      exact r_I hx hb hr hlocks X hf dX12_lay_25
end
theorem dX12_number_0 : decode bX12_number 0 = .ok (.aload_n 0, 1) := by decide +kernel
theorem dX12_number_1 : decode bX12_number 1 = .ok (.iconst 0, 1) := by decide +kernel
theorem dX12_number_2 : decode bX12_number 2 = .ok (.putfield 1, 3) := by decide +kernel
theorem dX12_number_5 : decode bX12_number 5 = .ok (.aload_n 0, 1) := by decide +kernel
theorem dX12_number_6 : decode bX12_number 6 = .ok (.iload_n 1, 1) := by decide +kernel
theorem dX12_number_7 : decode bX12_number 7 = .ok (.invokevirtual 125, 3) := by decide +kernel
theorem dX12_number_10 : decode bX12_number 10 = .ok (.ifCond .eq 5, 3) := by decide +kernel
theorem dX12_number_13 : decode bX12_number 13 = .ok (.iconst (-1), 1) := by decide +kernel
theorem dX12_number_14 : decode bX12_number 14 = .ok (.ireturn, 1) := by decide +kernel
theorem dX12_number_15 : decode bX12_number 15 = .ok (.iload_n 2, 1) := by decide +kernel
theorem dX12_number_16 : decode bX12_number 16 = .ok (.tableswitch 70 0 3 #[32, 41, 51, 60], 32) := by decide +kernel
theorem dX12_number_48 : decode bX12_number 48 = .ok (.aload_n 0, 1) := by decide +kernel
theorem dX12_number_49 : decode bX12_number 49 = .ok (.getfield 13, 3) := by decide +kernel
theorem dX12_number_52 : decode bX12_number 52 = .ok (.iconst 4, 1) := by decide +kernel
theorem dX12_number_53 : decode bX12_number 53 = .ok (.iload_n 1, 1) := by decide +kernel
theorem dX12_number_54 : decode bX12_number 54 = .ok (.iadd, 1) := by decide +kernel
theorem dX12_number_55 : decode bX12_number 55 = .ok (.iaload, 1) := by decide +kernel
theorem dX12_number_56 : decode bX12_number 56 = .ok (.ireturn, 1) := by decide +kernel
theorem dX12_number_57 : decode bX12_number 57 = .ok (.aload_n 0, 1) := by decide +kernel
theorem dX12_number_58 : decode bX12_number 58 = .ok (.getfield 13, 3) := by decide +kernel
theorem dX12_number_61 : decode bX12_number 61 = .ok (.bipush 28, 2) := by decide +kernel
theorem dX12_number_63 : decode bX12_number 63 = .ok (.iload_n 1, 1) := by decide +kernel
theorem dX12_number_64 : decode bX12_number 64 = .ok (.iadd, 1) := by decide +kernel
theorem dX12_number_65 : decode bX12_number 65 = .ok (.iaload, 1) := by decide +kernel
theorem dX12_number_66 : decode bX12_number 66 = .ok (.ireturn, 1) := by decide +kernel
theorem dX12_number_67 : decode bX12_number 67 = .ok (.aload_n 0, 1) := by decide +kernel
theorem dX12_number_68 : decode bX12_number 68 = .ok (.getfield 20, 3) := by decide +kernel
theorem dX12_number_71 : decode bX12_number 71 = .ok (.iconst 2, 1) := by decide +kernel
theorem dX12_number_72 : decode bX12_number 72 = .ok (.iload_n 1, 1) := by decide +kernel
theorem dX12_number_73 : decode bX12_number 73 = .ok (.iadd, 1) := by decide +kernel
theorem dX12_number_74 : decode bX12_number 74 = .ok (.iaload, 1) := by decide +kernel
theorem dX12_number_75 : decode bX12_number 75 = .ok (.ireturn, 1) := by decide +kernel
theorem dX12_number_76 : decode bX12_number 76 = .ok (.aload_n 0, 1) := by decide +kernel
theorem dX12_number_77 : decode bX12_number 77 = .ok (.getfield 20, 3) := by decide +kernel
theorem dX12_number_80 : decode bX12_number 80 = .ok (.bipush 26, 2) := by decide +kernel
theorem dX12_number_82 : decode bX12_number 82 = .ok (.iload_n 1, 1) := by decide +kernel
theorem dX12_number_83 : decode bX12_number 83 = .ok (.iadd, 1) := by decide +kernel
theorem dX12_number_84 : decode bX12_number 84 = .ok (.iaload, 1) := by decide +kernel
theorem dX12_number_85 : decode bX12_number 85 = .ok (.ireturn, 1) := by decide +kernel
theorem dX12_number_86 : decode bX12_number 86 = .ok (.iconst (-1), 1) := by decide +kernel
theorem dX12_number_87 : decode bX12_number 87 = .ok (.ireturn, 1) := by decide +kernel
section
variable {p : Program} {l : Launch} {e : Env} {s : State} {m : MethodId} {args : Array Value} {below : List Frame} {meth : Method} {c : Code} {G : GG} {n : Nat} {h' : Hp} {rv : Int32}
set_option maxHeartbeats 4000000
set_option maxRecDepth 100000
theorem k_X12_number (l : Launch) (G : GG) (n : Nat) (hN : NT ≤ n) {h h' : Hp} {x0 : Nat} {x1 : Int32} {x2 : Int32} {rv : Int32} (hf : f_X12_number h x0 x1 x2 = some (rv, h')) : CT l G n n yX12_number (.code yX12_number bX12_number 3 (some .int)) 2 0 0 [.ref (bs G + x0), .int x1, .int x2] h h' (some (.int rv)) := by
  refine ct_of (maxL := 3) (ret := (some .int)) (bytes := bX12_number) (by decide) (Nat.le_of_ble_eq_true rfl) (fun p e s m below meth c C0 X ls hl => ?_)
  have hl : lv_has ls 3 [(0, .ref (bs G + x0)), (1, .int x1), (2, .int x2)] := hl
  obtain ⟨hx, hb, hr, hml, hown, hts, hK, hlocks, hnm⟩ := id C0
  unfold f_X12_number at hf
  obtain ⟨o0, hf⟩ := gd_e hf
  refine lv_aload_n hx hb dX12_number_0 rfl (lv_at hl 0 rfl) ?_
  refine lv_iconst (v := (0 : Int32)) hx hb dX12_number_1 (by decide) ?_
  refine g_PI hx hb hts hown hK X o0 hN fl_X12_1 ft_12_0 (by decide) rfl dX12_number_2 (fun H locs X => ?_)
  obtain ⟨h1, e2, hf⟩ := lt_e hf
  rw [← e2] at X
  refine lv_aload_n hx hb dX12_number_5 rfl (lv_at hl 0 rfl) ?_
  refine lv_iload_n hx hb dX12_number_6 rfl (lv_at hl 1 rfl) ?_
  obtain ⟨r3, h4, q5, hf⟩ := bd_e hf
  refine c_V0 (As := [.int x1]) (rest := []) (st1 := [.int r3]) hx hb hml hown hts hK X (k_X12_noNumber l G n hN q5) o0 hN lc_X12_noNumber lv_X12_125 (ci := 12) rfl rfl (by decide) rfl hl.1 (Nat.le_of_ble_eq_true rfl) dX12_number_7 rfl (fun H locs X => ?_)
  refine lv_if_eq (tgt := 15) hx hb dX12_number_10 (by decide) (fun c10 => ?_) (fun c10 => ?_)
  · have hf := ite_t hf c10
    refine lv_iload_n hx hb dX12_number_15 rfl (lv_at hl 2 rfl) ?_
    by_cases s16_0 : x2 = (0 : Int32)
    · have hf := ite_t hf s16_0
      refine sw_in (k := (0 : Int32)) (off := 32) (tgt := 48) hx hb dX12_number_16 s16_0 (by decide) (by decide) (by decide) (by decide) ?_
      refine lv_aload_n hx hb dX12_number_48 rfl (lv_at hl 0 rfl) ?_
      obtain ⟨g6, hf⟩ := gd_e hf
      refine g_R hx hb hts hown hK X o0 hN g6 fl_X12_13 (by decide) rfl (by decide) dX12_number_49 ?_
      refine lv_iconst (v := (4 : Int32)) hx hb dX12_number_52 (by decide) ?_
      refine lv_iload_n hx hb dX12_number_53 rfl (lv_at hl 1 rfl) ?_
      refine lv_iadd hx hb dX12_number_54 ?_
      obtain ⟨g7, hf⟩ := gd_e hf
      refine g_ia hx hb hK X g6 hN g7 (by decide) dX12_number_55 ?_
      exact r_I hx hb hr hlocks X hf dX12_number_56
    have hf := ite_f hf s16_0
    by_cases s16_1 : x2 = (1 : Int32)
    · have hf := ite_t hf s16_1
      refine sw_in (k := (1 : Int32)) (off := 41) (tgt := 57) hx hb dX12_number_16 s16_1 (by decide) (by decide) (by decide) (by decide) ?_
      refine lv_aload_n hx hb dX12_number_57 rfl (lv_at hl 0 rfl) ?_
      obtain ⟨g8, hf⟩ := gd_e hf
      refine g_R hx hb hts hown hK X o0 hN g8 fl_X12_13 (by decide) rfl (by decide) dX12_number_58 ?_
      refine lv_bipush (v := (28 : Int32)) hx hb dX12_number_61 (by decide) ?_
      refine lv_iload_n hx hb dX12_number_63 rfl (lv_at hl 1 rfl) ?_
      refine lv_iadd hx hb dX12_number_64 ?_
      obtain ⟨g9, hf⟩ := gd_e hf
      refine g_ia hx hb hK X g8 hN g9 (by decide) dX12_number_65 ?_
      exact r_I hx hb hr hlocks X hf dX12_number_66
    have hf := ite_f hf s16_1
    by_cases s16_2 : x2 = (2 : Int32)
    · have hf := ite_t hf s16_2
      refine sw_in (k := (2 : Int32)) (off := 51) (tgt := 67) hx hb dX12_number_16 s16_2 (by decide) (by decide) (by decide) (by decide) ?_
      refine lv_aload_n hx hb dX12_number_67 rfl (lv_at hl 0 rfl) ?_
      obtain ⟨g10, hf⟩ := gd_e hf
      refine g_R hx hb hts hown hK X o0 hN g10 fl_X12_20 (by decide) rfl (by decide) dX12_number_68 ?_
      refine lv_iconst (v := (2 : Int32)) hx hb dX12_number_71 (by decide) ?_
      refine lv_iload_n hx hb dX12_number_72 rfl (lv_at hl 1 rfl) ?_
      refine lv_iadd hx hb dX12_number_73 ?_
      obtain ⟨g11, hf⟩ := gd_e hf
      refine g_ia hx hb hK X g10 hN g11 (by decide) dX12_number_74 ?_
      exact r_I hx hb hr hlocks X hf dX12_number_75
    have hf := ite_f hf s16_2
    by_cases s16_3 : x2 = (3 : Int32)
    · have hf := ite_t hf s16_3
      refine sw_in (k := (3 : Int32)) (off := 60) (tgt := 76) hx hb dX12_number_16 s16_3 (by decide) (by decide) (by decide) (by decide) ?_
      refine lv_aload_n hx hb dX12_number_76 rfl (lv_at hl 0 rfl) ?_
      obtain ⟨g12, hf⟩ := gd_e hf
      refine g_R hx hb hts hown hK X o0 hN g12 fl_X12_20 (by decide) rfl (by decide) dX12_number_77 ?_
      refine lv_bipush (v := (26 : Int32)) hx hb dX12_number_80 (by decide) ?_
      refine lv_iload_n hx hb dX12_number_82 rfl (lv_at hl 1 rfl) ?_
      refine lv_iadd hx hb dX12_number_83 ?_
      obtain ⟨g13, hf⟩ := gd_e hf
      refine g_ia hx hb hK X g12 hN g13 (by decide) dX12_number_84 ?_
      exact r_I hx hb hr hlocks X hf dX12_number_85
    have hf := ite_f hf s16_3
    refine sw_df (ex := [(0 : Int32), (1 : Int32), (2 : Int32), (3 : Int32)]) (tgt := 86) hx hb dX12_number_16 (by decide) (by decide) (List.forall_mem_cons.mpr ⟨s16_0, List.forall_mem_cons.mpr ⟨s16_1, List.forall_mem_cons.mpr ⟨s16_2, List.forall_mem_cons.mpr ⟨s16_3, (fun _ hz => absurd hz List.not_mem_nil)⟩⟩⟩⟩) (by decide) ?_
    refine lv_iconst (v := (-1 : Int32)) hx hb dX12_number_86 (by decide) ?_
    exact r_I hx hb hr hlocks X hf dX12_number_87
  · have hf := ite_f hf c10
    refine lv_iconst (v := (-1 : Int32)) hx hb dX12_number_13 (by decide) ?_
    exact r_I hx hb hr hlocks X hf dX12_number_14
end
theorem dX12_taken_0 : decode bX12_taken 0 = .ok (.iconst 0, 1) := by decide +kernel
theorem dX12_taken_1 : decode bX12_taken 1 = .ok (.istore_n 1, 1) := by decide +kernel
theorem dX12_taken_2 : decode bX12_taken 2 = .ok (.iconst 1, 1) := by decide +kernel
theorem dX12_taken_3 : decode bX12_taken 3 = .ok (.istore_n 2, 1) := by decide +kernel
theorem dX12_taken_4 : decode bX12_taken 4 = .ok (.iload_n 2, 1) := by decide +kernel
theorem dX12_taken_5 : decode bX12_taken 5 = .ok (.aload_n 0, 1) := by decide +kernel
theorem dX12_taken_6 : decode bX12_taken 6 = .ok (.getfield 13, 3) := by decide +kernel
theorem dX12_taken_9 : decode bX12_taken 9 = .ok (.iconst 0, 1) := by decide +kernel
theorem dX12_taken_10 : decode bX12_taken 10 = .ok (.iaload, 1) := by decide +kernel
theorem dX12_taken_11 : decode bX12_taken 11 = .ok (.if_icmp .gt 34, 3) := by decide +kernel
theorem dX12_taken_14 : decode bX12_taken 14 = .ok (.iload_n 1, 1) := by decide +kernel
theorem dX12_taken_15 : decode bX12_taken 15 = .ok (.aload_n 0, 1) := by decide +kernel
theorem dX12_taken_16 : decode bX12_taken 16 = .ok (.getfield 20, 3) := by decide +kernel
theorem dX12_taken_19 : decode bX12_taken 19 = .ok (.iconst 2, 1) := by decide +kernel
theorem dX12_taken_20 : decode bX12_taken 20 = .ok (.iload_n 2, 1) := by decide +kernel
theorem dX12_taken_21 : decode bX12_taken 21 = .ok (.iadd, 1) := by decide +kernel
theorem dX12_taken_22 : decode bX12_taken 22 = .ok (.iaload, 1) := by decide +kernel
theorem dX12_taken_23 : decode bX12_taken 23 = .ok (.bipush (-4), 2) := by decide +kernel
theorem dX12_taken_25 : decode bX12_taken 25 = .ok (.if_icmp .eq 11, 3) := by decide +kernel
theorem dX12_taken_28 : decode bX12_taken 28 = .ok (.iconst 1, 1) := by decide +kernel
theorem dX12_taken_29 : decode bX12_taken 29 = .ok (.iload_n 2, 1) := by decide +kernel
theorem dX12_taken_30 : decode bX12_taken 30 = .ok (.iconst 1, 1) := by decide +kernel
theorem dX12_taken_31 : decode bX12_taken 31 = .ok (.isub, 1) := by decide +kernel
theorem dX12_taken_32 : decode bX12_taken 32 = .ok (.ishl, 1) := by decide +kernel
theorem dX12_taken_33 : decode bX12_taken 33 = .ok (.goto 4, 3) := by decide +kernel
theorem dX12_taken_36 : decode bX12_taken 36 = .ok (.iconst 0, 1) := by decide +kernel
theorem dX12_taken_37 : decode bX12_taken 37 = .ok (.ior, 1) := by decide +kernel
theorem dX12_taken_38 : decode bX12_taken 38 = .ok (.istore_n 1, 1) := by decide +kernel
theorem dX12_taken_39 : decode bX12_taken 39 = .ok (.iinc 2 1, 3) := by decide +kernel
theorem dX12_taken_42 : decode bX12_taken 42 = .ok (.goto (-38), 3) := by decide +kernel
theorem dX12_taken_45 : decode bX12_taken 45 = .ok (.iload_n 1, 1) := by decide +kernel
theorem dX12_taken_46 : decode bX12_taken 46 = .ok (.ireturn, 1) := by decide +kernel
section
variable {p : Program} {l : Launch} {e : Env} {s : State} {m : MethodId} {args : Array Value} {below : List Frame} {meth : Method} {c : Code} {G : GG} {n : Nat} {h' : Hp} {rv : Int32}
set_option maxHeartbeats 4000000
set_option maxRecDepth 100000
theorem j_X12_taken_4 (C0 : Cx p s m args meth c G bX12_taken RX12 3 (some .int) "taken") (hN : NT ≤ n) : ∀ (fu : Nat), ∀ {H : Heap} {locs : List Loc} {ls : Array Slot} {h : Hp} {x0 : Nat} {x1 : Int32} {x2 : Int32}, XW G n h s 0 H locs → lv_has ls 3 [(0, .ref (bs G + x0)), (1, .int x1), (2, .int x2)] → kd x0 = 12 → f_X12_taken_4 fu h x0 x1 x2 = some (rv, h') → W p l e (rmC 0 0 0) s m args below meth c H locs 0 0 (MQ below (QP G n h' (some (.int rv))) args s 0 0 (Ab G)) (F0 m 4 ls []) := by
  obtain ⟨hx, hb, hr, hml, hown, hts, hK, hlocks, hnm⟩ := id C0
  intro fu
  induction fu with
  | zero => intro H locs ls h x0 x1 x2 X hl o0 hf; cases hf
  | succ fu ih =>
    intro H locs ls h x0 x1 x2 X hl o0 hf
    rw [f_X12_taken_4] at hf
    refine lv_iload_n hx hb dX12_taken_4 rfl (lv_at hl 2 rfl) ?_
    refine lv_aload_n hx hb dX12_taken_5 rfl (lv_at hl 0 rfl) ?_
    obtain ⟨g1, hf⟩ := gd_e hf
    refine g_R hx hb hts hown hK X o0 hN g1 fl_X12_13 (by decide) rfl (by decide) dX12_taken_6 ?_
    refine lv_iconst (v := (0 : Int32)) hx hb dX12_taken_9 (by decide) ?_
    obtain ⟨g2, hf⟩ := gd_e hf
    refine g_ia hx hb hK X g1 hN g2 (by decide) dX12_taken_10 ?_
    refine lv_icmp_gt (tgt := 45) hx hb dX12_taken_11 (by decide) (fun c11 => ?_) (fun c11 => ?_)
    · have hf := ite_t hf c11
      refine lv_iload_n hx hb dX12_taken_45 rfl (lv_at hl 1 rfl) ?_
      exact r_I hx hb hr hlocks X hf dX12_taken_46
    · have hf := ite_f hf c11
      refine lv_iload_n hx hb dX12_taken_14 rfl (lv_at hl 1 rfl) ?_
      refine lv_aload_n hx hb dX12_taken_15 rfl (lv_at hl 0 rfl) ?_
      obtain ⟨g3, hf⟩ := gd_e hf
      refine g_R hx hb hts hown hK X o0 hN g3 fl_X12_20 (by decide) rfl (by decide) dX12_taken_16 ?_
      refine lv_iconst (v := (2 : Int32)) hx hb dX12_taken_19 (by decide) ?_
      refine lv_iload_n hx hb dX12_taken_20 rfl (lv_at hl 2 rfl) ?_
      refine lv_iadd hx hb dX12_taken_21 ?_
      obtain ⟨g4, hf⟩ := gd_e hf
      refine g_ia hx hb hK X g3 hN g4 (by decide) dX12_taken_22 ?_
      refine lv_bipush (v := (-4 : Int32)) hx hb dX12_taken_23 (by decide) ?_
      refine lv_icmp_eq (tgt := 36) hx hb dX12_taken_25 (by decide) (fun c25 => ?_) (fun c25 => ?_)
      · have hf := ite_t hf c25
        refine lv_iconst (v := (0 : Int32)) hx hb dX12_taken_36 (by decide) ?_
        refine lv_ior hx hb dX12_taken_37 ?_
        refine lv_istore_n (lv' := [(1, .int (x1 ||| (0 : Int32))), (0, .ref (bs G + x0)), (2, .int x2)]) hx hb dX12_taken_38 rfl hl (by decide) rfl (fun ls hl => ?_)
        refine lv_iinc (v := (x2 + (1 : Int32))) (lv' := [(2, .int (x2 + (1 : Int32))), (1, .int (x1 ||| (0 : Int32))), (0, .ref (bs G + x0))]) hx hb dX12_taken_39 hl (k := 2) rfl rfl (by decide) rfl (fun ls hl => ?_)
        refine lv_goto (tgt := 4) hx hb dX12_taken_42 (by decide) ?_
        exact ih X (lv_sub hl [2, 1, 0] rfl) o0 hf
      · have hf := ite_f hf c25
        refine lv_iconst (v := (1 : Int32)) hx hb dX12_taken_28 (by decide) ?_
        refine lv_iload_n hx hb dX12_taken_29 rfl (lv_at hl 2 rfl) ?_
        refine lv_iconst (v := (1 : Int32)) hx hb dX12_taken_30 (by decide) ?_
        refine lv_isub hx hb dX12_taken_31 ?_
        refine lv_ishl hx hb dX12_taken_32 ?_
        refine lv_goto (tgt := 37) hx hb dX12_taken_33 (by decide) ?_
        refine lv_ior hx hb dX12_taken_37 ?_
        refine lv_istore_n (lv' := [(1, .int (x1 ||| ((1 : Int32) <<< ((x2 - (1 : Int32)) &&& 31)))), (0, .ref (bs G + x0)), (2, .int x2)]) hx hb dX12_taken_38 rfl hl (by decide) rfl (fun ls hl => ?_)
        refine lv_iinc (v := (x2 + (1 : Int32))) (lv' := [(2, .int (x2 + (1 : Int32))), (1, .int (x1 ||| ((1 : Int32) <<< ((x2 - (1 : Int32)) &&& 31)))), (0, .ref (bs G + x0))]) hx hb dX12_taken_39 hl (k := 2) rfl rfl (by decide) rfl (fun ls hl => ?_)
        refine lv_goto (tgt := 4) hx hb dX12_taken_42 (by decide) ?_
        exact ih X (lv_sub hl [2, 1, 0] rfl) o0 hf
theorem k_X12_taken (l : Launch) (G : GG) (n : Nat) (hN : NT ≤ n) {h h' : Hp} {x0 : Nat} {rv : Int32} (hf : f_X12_taken h x0 = some (rv, h')) : CT l G n n yX12_taken (.code yX12_taken bX12_taken 3 (some .int)) 0 0 0 [.ref (bs G + x0)] h h' (some (.int rv)) := by
  refine ct_of (maxL := 3) (ret := (some .int)) (bytes := bX12_taken) (by decide) (Nat.le_of_ble_eq_true rfl) (fun p e s m below meth c C0 X ls hl => ?_)
  have hl : lv_has ls 3 [(0, .ref (bs G + x0))] := hl
  obtain ⟨hx, hb, hr, hml, hown, hts, hK, hlocks, hnm⟩ := id C0
  unfold f_X12_taken at hf
  obtain ⟨o0, hf⟩ := gd_e hf
  refine lv_iconst (v := (0 : Int32)) hx hb dX12_taken_0 (by decide) ?_
  refine lv_istore_n (lv' := [(1, .int (0 : Int32)), (0, .ref (bs G + x0))]) hx hb dX12_taken_1 rfl hl (by decide) rfl (fun ls hl => ?_)
  refine lv_iconst (v := (1 : Int32)) hx hb dX12_taken_2 (by decide) ?_
  refine lv_istore_n (lv' := [(2, .int (1 : Int32)), (1, .int (0 : Int32)), (0, .ref (bs G + x0))]) hx hb dX12_taken_3 rfl hl (by decide) rfl (fun ls hl => ?_)
  exact j_X12_taken_4 C0 hN FU X (lv_sub hl [2, 1, 0] rfl) o0 hf
end
theorem dX12_ofOne_0 : decode bX12_ofOne 0 = .ok (.iconst 0, 1) := by decide +kernel
theorem dX12_ofOne_1 : decode bX12_ofOne 1 = .ok (.istore_n 2, 1) := by decide +kernel
theorem dX12_ofOne_2 : decode bX12_ofOne 2 = .ok (.iconst 1, 1) := by decide +kernel
theorem dX12_ofOne_3 : decode bX12_ofOne 3 = .ok (.istore_n 3, 1) := by decide +kernel
theorem dX12_ofOne_4 : decode bX12_ofOne 4 = .ok (.iload_n 3, 1) := by decide +kernel
theorem dX12_ofOne_5 : decode bX12_ofOne 5 = .ok (.aload_n 0, 1) := by decide +kernel
theorem dX12_ofOne_6 : decode bX12_ofOne 6 = .ok (.getfield 13, 3) := by decide +kernel
theorem dX12_ofOne_9 : decode bX12_ofOne 9 = .ok (.iconst 0, 1) := by decide +kernel
theorem dX12_ofOne_10 : decode bX12_ofOne 10 = .ok (.iaload, 1) := by decide +kernel
theorem dX12_ofOne_11 : decode bX12_ofOne 11 = .ok (.if_icmp .gt 81, 3) := by decide +kernel
theorem dX12_ofOne_14 : decode bX12_ofOne 14 = .ok (.aload_n 0, 1) := by decide +kernel
theorem dX12_ofOne_15 : decode bX12_ofOne 15 = .ok (.getfield 13, 3) := by decide +kernel
theorem dX12_ofOne_18 : decode bX12_ofOne 18 = .ok (.bipush 28, 2) := by decide +kernel
theorem dX12_ofOne_20 : decode bX12_ofOne 20 = .ok (.iload_n 3, 1) := by decide +kernel
theorem dX12_ofOne_21 : decode bX12_ofOne 21 = .ok (.iadd, 1) := by decide +kernel
theorem dX12_ofOne_22 : decode bX12_ofOne 22 = .ok (.iaload, 1) := by decide +kernel
theorem dX12_ofOne_23 : decode bX12_ofOne 23 = .ok (.bipush (-4), 2) := by decide +kernel
theorem dX12_ofOne_25 : decode bX12_ofOne 25 = .ok (.if_icmp .eq 37, 3) := by decide +kernel
theorem dX12_ofOne_28 : decode bX12_ofOne 28 = .ok (.aload_n 0, 1) := by decide +kernel
theorem dX12_ofOne_29 : decode bX12_ofOne 29 = .ok (.getfield 13, 3) := by decide +kernel
theorem dX12_ofOne_32 : decode bX12_ofOne 32 = .ok (.bipush 28, 2) := by decide +kernel
theorem dX12_ofOne_34 : decode bX12_ofOne 34 = .ok (.iload_n 3, 1) := by decide +kernel
theorem dX12_ofOne_35 : decode bX12_ofOne 35 = .ok (.iadd, 1) := by decide +kernel
theorem dX12_ofOne_36 : decode bX12_ofOne 36 = .ok (.iaload, 1) := by decide +kernel
theorem dX12_ofOne_37 : decode bX12_ofOne 37 = .ok (.iload_n 1, 1) := by decide +kernel
theorem dX12_ofOne_38 : decode bX12_ofOne 38 = .ok (.if_icmp .eq 24, 3) := by decide +kernel
theorem dX12_ofOne_41 : decode bX12_ofOne 41 = .ok (.aload_n 0, 1) := by decide +kernel
theorem dX12_ofOne_42 : decode bX12_ofOne 42 = .ok (.getfield 20, 3) := by decide +kernel
theorem dX12_ofOne_45 : decode bX12_ofOne 45 = .ok (.bipush 26, 2) := by decide +kernel
theorem dX12_ofOne_47 : decode bX12_ofOne 47 = .ok (.iload_n 3, 1) := by decide +kernel
theorem dX12_ofOne_48 : decode bX12_ofOne 48 = .ok (.iadd, 1) := by decide +kernel
theorem dX12_ofOne_49 : decode bX12_ofOne 49 = .ok (.iaload, 1) := by decide +kernel
theorem dX12_ofOne_50 : decode bX12_ofOne 50 = .ok (.iload_n 1, 1) := by decide +kernel
theorem dX12_ofOne_51 : decode bX12_ofOne 51 = .ok (.if_icmp .eq 11, 3) := by decide +kernel
theorem dX12_ofOne_54 : decode bX12_ofOne 54 = .ok (.iload_n 3, 1) := by decide +kernel
theorem dX12_ofOne_55 : decode bX12_ofOne 55 = .ok (.aload_n 0, 1) := by decide +kernel
theorem dX12_ofOne_56 : decode bX12_ofOne 56 = .ok (.getfield 128, 3) := by decide +kernel
theorem dX12_ofOne_59 : decode bX12_ofOne 59 = .ok (.if_icmp .ne 7, 3) := by decide +kernel
theorem dX12_ofOne_62 : decode bX12_ofOne 62 = .ok (.iconst 1, 1) := by decide +kernel
theorem dX12_ofOne_63 : decode bX12_ofOne 63 = .ok (.goto 4, 3) := by decide +kernel
theorem dX12_ofOne_66 : decode bX12_ofOne 66 = .ok (.iconst 0, 1) := by decide +kernel
theorem dX12_ofOne_67 : decode bX12_ofOne 67 = .ok (.istore 4, 2) := by decide +kernel
theorem dX12_ofOne_69 : decode bX12_ofOne 69 = .ok (.iload_n 2, 1) := by decide +kernel
theorem dX12_ofOne_70 : decode bX12_ofOne 70 = .ok (.iload 4, 2) := by decide +kernel
theorem dX12_ofOne_72 : decode bX12_ofOne 72 = .ok (.ifCond .eq 11, 3) := by decide +kernel
theorem dX12_ofOne_75 : decode bX12_ofOne 75 = .ok (.iconst 1, 1) := by decide +kernel
theorem dX12_ofOne_76 : decode bX12_ofOne 76 = .ok (.iload_n 3, 1) := by decide +kernel
theorem dX12_ofOne_77 : decode bX12_ofOne 77 = .ok (.iconst 1, 1) := by decide +kernel
theorem dX12_ofOne_78 : decode bX12_ofOne 78 = .ok (.isub, 1) := by decide +kernel
theorem dX12_ofOne_79 : decode bX12_ofOne 79 = .ok (.ishl, 1) := by decide +kernel
theorem dX12_ofOne_80 : decode bX12_ofOne 80 = .ok (.goto 4, 3) := by decide +kernel
theorem dX12_ofOne_83 : decode bX12_ofOne 83 = .ok (.iconst 0, 1) := by decide +kernel
theorem dX12_ofOne_84 : decode bX12_ofOne 84 = .ok (.ior, 1) := by decide +kernel
theorem dX12_ofOne_85 : decode bX12_ofOne 85 = .ok (.istore_n 2, 1) := by decide +kernel
theorem dX12_ofOne_86 : decode bX12_ofOne 86 = .ok (.iinc 3 1, 3) := by decide +kernel
theorem dX12_ofOne_89 : decode bX12_ofOne 89 = .ok (.goto (-85), 3) := by decide +kernel
theorem dX12_ofOne_92 : decode bX12_ofOne 92 = .ok (.iload_n 2, 1) := by decide +kernel
theorem dX12_ofOne_93 : decode bX12_ofOne 93 = .ok (.ireturn, 1) := by decide +kernel
section
variable {p : Program} {l : Launch} {e : Env} {s : State} {m : MethodId} {args : Array Value} {below : List Frame} {meth : Method} {c : Code} {G : GG} {n : Nat} {h' : Hp} {rv : Int32}
set_option maxHeartbeats 4000000
set_option maxRecDepth 100000
theorem j_X12_ofOne_67 (C0 : Cx p s m args meth c G bX12_ofOne RX12 5 (some .int) "ofOne") (hN : NT ≤ n) {k4 : Hp → Nat → Int32 → Int32 → Int32 → Option (Int32 × Hp)} (ih4 : ∀ {H : Heap} {locs : List Loc} {ls : Array Slot} {h : Hp} {x0 : Nat} {x1 : Int32} {x2 : Int32} {x3 : Int32}, XW G n h s 0 H locs → lv_has ls 5 [(0, .ref (bs G + x0)), (1, .int x1), (2, .int x2), (3, .int x3)] → kd x0 = 12 → k4 h x0 x1 x2 x3 = some (rv, h') → W p l e (rmC 0 0 0) s m args below meth c H locs 0 0 (MQ below (QP G n h' (some (.int rv))) args s 0 0 (Ab G)) (F0 m 4 ls [])) {H : Heap} {locs : List Loc} {ls : Array Slot} {h : Hp} {x0 : Nat} {x1 : Int32} {x2 : Int32} {x3 : Int32} {t0 : Int32} (X : XW G n h s 0 H locs) (hl : lv_has ls 5 [(0, .ref (bs G + x0)), (1, .int x1), (2, .int x2), (3, .int x3)]) (o0 : kd x0 = 12) (hf : f_X12_ofOne_67 k4 h x0 x1 x2 x3 t0 = some (rv, h')) : W p l e (rmC 0 0 0) s m args below meth c H locs 0 0 (MQ below (QP G n h' (some (.int rv))) args s 0 0 (Ab G)) (F0 m 67 ls [.int t0]) := by
  obtain ⟨hx, hb, hr, hml, hown, hts, hK, hlocks, hnm⟩ := id C0
  unfold f_X12_ofOne_67 at hf
  refine lv_istore (lv' := [(4, .int t0), (0, .ref (bs G + x0)), (1, .int x1), (2, .int x2), (3, .int x3)]) hx hb dX12_ofOne_67 hl (by decide) rfl (fun ls hl => ?_)
  refine lv_iload_n hx hb dX12_ofOne_69 rfl (lv_at hl 3 rfl) ?_
  refine lv_iload hx hb dX12_ofOne_70 (lv_at hl 0 rfl) ?_
  refine lv_if_eq (tgt := 83) hx hb dX12_ofOne_72 (by decide) (fun c72 => ?_) (fun c72 => ?_)
  · have hf := ite_t hf c72
    refine lv_iconst (v := (0 : Int32)) hx hb dX12_ofOne_83 (by decide) ?_
    refine lv_ior hx hb dX12_ofOne_84 ?_
    refine lv_istore_n (lv' := [(2, .int (x2 ||| (0 : Int32))), (4, .int t0), (0, .ref (bs G + x0)), (1, .int x1), (3, .int x3)]) hx hb dX12_ofOne_85 rfl hl (by decide) rfl (fun ls hl => ?_)
    refine lv_iinc (v := (x3 + (1 : Int32))) (lv' := [(3, .int (x3 + (1 : Int32))), (2, .int (x2 ||| (0 : Int32))), (4, .int t0), (0, .ref (bs G + x0)), (1, .int x1)]) hx hb dX12_ofOne_86 hl (k := 4) rfl rfl (by decide) rfl (fun ls hl => ?_)
    refine lv_goto (tgt := 4) hx hb dX12_ofOne_89 (by decide) ?_
    exact ih4 X (lv_sub hl [3, 4, 1, 0] rfl) o0 hf
  · have hf := ite_f hf c72
    refine lv_iconst (v := (1 : Int32)) hx hb dX12_ofOne_75 (by decide) ?_
    refine lv_iload_n hx hb dX12_ofOne_76 rfl (lv_at hl 4 rfl) ?_
    refine lv_iconst (v := (1 : Int32)) hx hb dX12_ofOne_77 (by decide) ?_
    refine lv_isub hx hb dX12_ofOne_78 ?_
    refine lv_ishl hx hb dX12_ofOne_79 ?_
    refine lv_goto (tgt := 84) hx hb dX12_ofOne_80 (by decide) ?_
    refine lv_ior hx hb dX12_ofOne_84 ?_
    refine lv_istore_n (lv' := [(2, .int (x2 ||| ((1 : Int32) <<< ((x3 - (1 : Int32)) &&& 31)))), (4, .int t0), (0, .ref (bs G + x0)), (1, .int x1), (3, .int x3)]) hx hb dX12_ofOne_85 rfl hl (by decide) rfl (fun ls hl => ?_)
    refine lv_iinc (v := (x3 + (1 : Int32))) (lv' := [(3, .int (x3 + (1 : Int32))), (2, .int (x2 ||| ((1 : Int32) <<< ((x3 - (1 : Int32)) &&& 31)))), (4, .int t0), (0, .ref (bs G + x0)), (1, .int x1)]) hx hb dX12_ofOne_86 hl (k := 4) rfl rfl (by decide) rfl (fun ls hl => ?_)
    refine lv_goto (tgt := 4) hx hb dX12_ofOne_89 (by decide) ?_
    exact ih4 X (lv_sub hl [3, 4, 1, 0] rfl) o0 hf
theorem j_X12_ofOne_62 (C0 : Cx p s m args meth c G bX12_ofOne RX12 5 (some .int) "ofOne") (hN : NT ≤ n) {k4 : Hp → Nat → Int32 → Int32 → Int32 → Option (Int32 × Hp)} (ih4 : ∀ {H : Heap} {locs : List Loc} {ls : Array Slot} {h : Hp} {x0 : Nat} {x1 : Int32} {x2 : Int32} {x3 : Int32}, XW G n h s 0 H locs → lv_has ls 5 [(0, .ref (bs G + x0)), (1, .int x1), (2, .int x2), (3, .int x3)] → kd x0 = 12 → k4 h x0 x1 x2 x3 = some (rv, h') → W p l e (rmC 0 0 0) s m args below meth c H locs 0 0 (MQ below (QP G n h' (some (.int rv))) args s 0 0 (Ab G)) (F0 m 4 ls [])) {H : Heap} {locs : List Loc} {ls : Array Slot} {h : Hp} {x0 : Nat} {x1 : Int32} {x2 : Int32} {x3 : Int32} (X : XW G n h s 0 H locs) (hl : lv_has ls 5 [(0, .ref (bs G + x0)), (1, .int x1), (2, .int x2), (3, .int x3)]) (o0 : kd x0 = 12) (hf : f_X12_ofOne_62 k4 h x0 x1 x2 x3 = some (rv, h')) : W p l e (rmC 0 0 0) s m args below meth c H locs 0 0 (MQ below (QP G n h' (some (.int rv))) args s 0 0 (Ab G)) (F0 m 62 ls []) := by
  obtain ⟨hx, hb, hr, hml, hown, hts, hK, hlocks, hnm⟩ := id C0
  unfold f_X12_ofOne_62 at hf
  refine lv_iconst (v := (1 : Int32)) hx hb dX12_ofOne_62 (by decide) ?_
  refine lv_goto (tgt := 67) hx hb dX12_ofOne_63 (by decide) ?_
  exact j_X12_ofOne_67 C0 hN @ih4 X (lv_sub hl [0, 1, 2, 3] rfl) o0 hf
theorem j_X12_ofOne_4 (C0 : Cx p s m args meth c G bX12_ofOne RX12 5 (some .int) "ofOne") (hN : NT ≤ n) : ∀ (fu : Nat), ∀ {H : Heap} {locs : List Loc} {ls : Array Slot} {h : Hp} {x0 : Nat} {x1 : Int32} {x2 : Int32} {x3 : Int32}, XW G n h s 0 H locs → lv_has ls 5 [(0, .ref (bs G + x0)), (1, .int x1), (2, .int x2), (3, .int x3)] → kd x0 = 12 → f_X12_ofOne_4 fu h x0 x1 x2 x3 = some (rv, h') → W p l e (rmC 0 0 0) s m args below meth c H locs 0 0 (MQ below (QP G n h' (some (.int rv))) args s 0 0 (Ab G)) (F0 m 4 ls []) := by
  obtain ⟨hx, hb, hr, hml, hown, hts, hK, hlocks, hnm⟩ := id C0
  intro fu
  induction fu with
  | zero => intro H locs ls h x0 x1 x2 x3 X hl o0 hf; cases hf
  | succ fu ih =>
    intro H locs ls h x0 x1 x2 x3 X hl o0 hf
    rw [f_X12_ofOne_4] at hf
    refine lv_iload_n hx hb dX12_ofOne_4 rfl (lv_at hl 3 rfl) ?_
    refine lv_aload_n hx hb dX12_ofOne_5 rfl (lv_at hl 0 rfl) ?_
    obtain ⟨g1, hf⟩ := gd_e hf
    refine g_R hx hb hts hown hK X o0 hN g1 fl_X12_13 (by decide) rfl (by decide) dX12_ofOne_6 ?_
    refine lv_iconst (v := (0 : Int32)) hx hb dX12_ofOne_9 (by decide) ?_
    obtain ⟨g2, hf⟩ := gd_e hf
    refine g_ia hx hb hK X g1 hN g2 (by decide) dX12_ofOne_10 ?_
    refine lv_icmp_gt (tgt := 92) hx hb dX12_ofOne_11 (by decide) (fun c11 => ?_) (fun c11 => ?_)
    · have hf := ite_t hf c11
      refine lv_iload_n hx hb dX12_ofOne_92 rfl (lv_at hl 2 rfl) ?_
      exact r_I hx hb hr hlocks X hf dX12_ofOne_93
    · have hf := ite_f hf c11
      refine lv_aload_n hx hb dX12_ofOne_14 rfl (lv_at hl 0 rfl) ?_
      obtain ⟨g3, hf⟩ := gd_e hf
      refine g_R hx hb hts hown hK X o0 hN g3 fl_X12_13 (by decide) rfl (by decide) dX12_ofOne_15 ?_
      refine lv_bipush (v := (28 : Int32)) hx hb dX12_ofOne_18 (by decide) ?_
      refine lv_iload_n hx hb dX12_ofOne_20 rfl (lv_at hl 3 rfl) ?_
      refine lv_iadd hx hb dX12_ofOne_21 ?_
      obtain ⟨g4, hf⟩ := gd_e hf
      refine g_ia hx hb hK X g3 hN g4 (by decide) dX12_ofOne_22 ?_
      refine lv_bipush (v := (-4 : Int32)) hx hb dX12_ofOne_23 (by decide) ?_
      refine lv_icmp_eq (tgt := 62) hx hb dX12_ofOne_25 (by decide) (fun c25 => ?_) (fun c25 => ?_)
      · have hf := ite_t hf c25
        exact j_X12_ofOne_62 C0 hN @ih X (lv_sub hl [0, 1, 2, 3] rfl) o0 hf
      · have hf := ite_f hf c25
        refine lv_aload_n hx hb dX12_ofOne_28 rfl (lv_at hl 0 rfl) ?_
        obtain ⟨g5, hf⟩ := gd_e hf
        refine g_R hx hb hts hown hK X o0 hN g5 fl_X12_13 (by decide) rfl (by decide) dX12_ofOne_29 ?_
        refine lv_bipush (v := (28 : Int32)) hx hb dX12_ofOne_32 (by decide) ?_
        refine lv_iload_n hx hb dX12_ofOne_34 rfl (lv_at hl 3 rfl) ?_
        refine lv_iadd hx hb dX12_ofOne_35 ?_
        obtain ⟨g6, hf⟩ := gd_e hf
        refine g_ia hx hb hK X g5 hN g6 (by decide) dX12_ofOne_36 ?_
        refine lv_iload_n hx hb dX12_ofOne_37 rfl (lv_at hl 1 rfl) ?_
        refine lv_icmp_eq (tgt := 62) hx hb dX12_ofOne_38 (by decide) (fun c38 => ?_) (fun c38 => ?_)
        · have hf := ite_t hf c38
          exact j_X12_ofOne_62 C0 hN @ih X (lv_sub hl [0, 1, 2, 3] rfl) o0 hf
        · have hf := ite_f hf c38
          refine lv_aload_n hx hb dX12_ofOne_41 rfl (lv_at hl 0 rfl) ?_
          obtain ⟨g7, hf⟩ := gd_e hf
          refine g_R hx hb hts hown hK X o0 hN g7 fl_X12_20 (by decide) rfl (by decide) dX12_ofOne_42 ?_
          refine lv_bipush (v := (26 : Int32)) hx hb dX12_ofOne_45 (by decide) ?_
          refine lv_iload_n hx hb dX12_ofOne_47 rfl (lv_at hl 3 rfl) ?_
          refine lv_iadd hx hb dX12_ofOne_48 ?_
          obtain ⟨g8, hf⟩ := gd_e hf
          refine g_ia hx hb hK X g7 hN g8 (by decide) dX12_ofOne_49 ?_
          refine lv_iload_n hx hb dX12_ofOne_50 rfl (lv_at hl 1 rfl) ?_
          refine lv_icmp_eq (tgt := 62) hx hb dX12_ofOne_51 (by decide) (fun c51 => ?_) (fun c51 => ?_)
          · have hf := ite_t hf c51
            exact j_X12_ofOne_62 C0 hN @ih X (lv_sub hl [0, 1, 2, 3] rfl) o0 hf
          · have hf := ite_f hf c51
            refine lv_iload_n hx hb dX12_ofOne_54 rfl (lv_at hl 3 rfl) ?_
            refine lv_aload_n hx hb dX12_ofOne_55 rfl (lv_at hl 0 rfl) ?_
            refine g_I hx hb hts hown hK X o0 hN fl_X12_128 (by decide) rfl dX12_ofOne_56 ?_
            refine lv_icmp_ne (tgt := 66) hx hb dX12_ofOne_59 (by decide) (fun c59 => ?_) (fun c59 => ?_)
            · have hf := ite_f hf c59
              refine lv_iconst (v := (0 : Int32)) hx hb dX12_ofOne_66 (by decide) ?_
              exact j_X12_ofOne_67 C0 hN @ih X (lv_sub hl [0, 1, 2, 3] rfl) o0 hf
            · have hf := ite_t hf c59
              exact j_X12_ofOne_62 C0 hN @ih X (lv_sub hl [0, 1, 2, 3] rfl) o0 hf
theorem k_X12_ofOne (l : Launch) (G : GG) (n : Nat) (hN : NT ≤ n) {h h' : Hp} {x0 : Nat} {x1 : Int32} {rv : Int32} (hf : f_X12_ofOne h x0 x1 = some (rv, h')) : CT l G n n yX12_ofOne (.code yX12_ofOne bX12_ofOne 5 (some .int)) 0 0 0 [.ref (bs G + x0), .int x1] h h' (some (.int rv)) := by
  refine ct_of (maxL := 5) (ret := (some .int)) (bytes := bX12_ofOne) (by decide) (Nat.le_of_ble_eq_true rfl) (fun p e s m below meth c C0 X ls hl => ?_)
  have hl : lv_has ls 5 [(0, .ref (bs G + x0)), (1, .int x1)] := hl
  obtain ⟨hx, hb, hr, hml, hown, hts, hK, hlocks, hnm⟩ := id C0
  unfold f_X12_ofOne at hf
  obtain ⟨o0, hf⟩ := gd_e hf
  refine lv_iconst (v := (0 : Int32)) hx hb dX12_ofOne_0 (by decide) ?_
  refine lv_istore_n (lv' := [(2, .int (0 : Int32)), (0, .ref (bs G + x0)), (1, .int x1)]) hx hb dX12_ofOne_1 rfl hl (by decide) rfl (fun ls hl => ?_)
  refine lv_iconst (v := (1 : Int32)) hx hb dX12_ofOne_2 (by decide) ?_
  refine lv_istore_n (lv' := [(3, .int (1 : Int32)), (2, .int (0 : Int32)), (0, .ref (bs G + x0)), (1, .int x1)]) hx hb dX12_ofOne_3 rfl hl (by decide) rfl (fun ls hl => ?_)
  exact j_X12_ofOne_4 C0 hN FU X (lv_sub hl [2, 3, 1, 0] rfl) o0 hf
end
theorem dX12_mayOf_0 : decode bX12_mayOf 0 = .ok (.aload_n 0, 1) := by decide +kernel
theorem dX12_mayOf_1 : decode bX12_mayOf 1 = .ok (.iload_n 1, 1) := by decide +kernel
theorem dX12_mayOf_2 : decode bX12_mayOf 2 = .ok (.invokevirtual 131, 3) := by decide +kernel
theorem dX12_mayOf_5 : decode bX12_mayOf 5 = .ok (.aload_n 0, 1) := by decide +kernel
theorem dX12_mayOf_6 : decode bX12_mayOf 6 = .ok (.invokevirtual 135, 3) := by decide +kernel
theorem dX12_mayOf_9 : decode bX12_mayOf 9 = .ok (.iconst (-1), 1) := by decide +kernel
theorem dX12_mayOf_10 : decode bX12_mayOf 10 = .ok (.ixor, 1) := by decide +kernel
theorem dX12_mayOf_11 : decode bX12_mayOf 11 = .ok (.iand, 1) := by decide +kernel
theorem dX12_mayOf_12 : decode bX12_mayOf 12 = .ok (.ireturn, 1) := by decide +kernel
section
variable {p : Program} {l : Launch} {e : Env} {s : State} {m : MethodId} {args : Array Value} {below : List Frame} {meth : Method} {c : Code} {G : GG} {n : Nat} {h' : Hp} {rv : Int32}
set_option maxHeartbeats 4000000
set_option maxRecDepth 100000
theorem k_X12_mayOf (l : Launch) (G : GG) (n : Nat) (hN : NT ≤ n) {h h' : Hp} {x0 : Nat} {x1 : Int32} {rv : Int32} (hf : f_X12_mayOf h x0 x1 = some (rv, h')) : CT l G n n yX12_mayOf (.code yX12_mayOf bX12_mayOf 2 (some .int)) 1 0 0 [.ref (bs G + x0), .int x1] h h' (some (.int rv)) := by
  refine ct_of (maxL := 2) (ret := (some .int)) (bytes := bX12_mayOf) (by decide) (Nat.le_of_ble_eq_true rfl) (fun p e s m below meth c C0 X ls hl => ?_)
  have hl : lv_has ls 2 [(0, .ref (bs G + x0)), (1, .int x1)] := hl
  obtain ⟨hx, hb, hr, hml, hown, hts, hK, hlocks, hnm⟩ := id C0
  unfold f_X12_mayOf at hf
  obtain ⟨o0, hf⟩ := gd_e hf
  refine lv_aload_n hx hb dX12_mayOf_0 rfl (lv_at hl 0 rfl) ?_
  refine lv_iload_n hx hb dX12_mayOf_1 rfl (lv_at hl 1 rfl) ?_
  obtain ⟨r1, h2, q3, hf⟩ := bd_e hf
  refine c_V0 (As := [.int x1]) (rest := []) (st1 := [.int r1]) hx hb hml hown hts hK X (k_X12_ofOne l G n hN q3) o0 hN lc_X12_ofOne lv_X12_131 (ci := 12) rfl rfl (by decide) rfl hl.1 (Nat.le_of_ble_eq_true rfl) dX12_mayOf_2 rfl (fun H locs X => ?_)
  refine lv_aload_n hx hb dX12_mayOf_5 rfl (lv_at hl 0 rfl) ?_
  obtain ⟨r4, h5, q6, hf⟩ := bd_e hf
  refine c_V0 (As := []) (rest := [.int r1]) (st1 := [.int r4, .int r1]) hx hb hml hown hts hK X (k_X12_taken l G n hN q6) o0 hN lc_X12_taken lv_X12_135 (ci := 12) rfl rfl (by decide) rfl hl.1 (Nat.le_of_ble_eq_true rfl) dX12_mayOf_6 rfl (fun H locs X => ?_)
  refine lv_iconst (v := (-1 : Int32)) hx hb dX12_mayOf_9 (by decide) ?_
  refine lv_ixor hx hb dX12_mayOf_10 ?_
  refine lv_iand hx hb dX12_mayOf_11 ?_
  exact r_I hx hb hr hlocks X hf dX12_mayOf_12
end
theorem dX12_person_0 : decode bX12_person 0 = .ok (.aload_n 0, 1) := by decide +kernel
theorem dX12_person_1 : decode bX12_person 1 = .ok (.iconst 0, 1) := by decide +kernel
theorem dX12_person_2 : decode bX12_person 2 = .ok (.putfield 1, 3) := by decide +kernel
theorem dX12_person_5 : decode bX12_person 5 = .ok (.aload_n 0, 1) := by decide +kernel
theorem dX12_person_6 : decode bX12_person 6 = .ok (.iload_n 1, 1) := by decide +kernel
theorem dX12_person_7 : decode bX12_person 7 = .ok (.invokevirtual 138, 3) := by decide +kernel
theorem dX12_person_10 : decode bX12_person 10 = .ok (.ifCond .eq 5, 3) := by decide +kernel
theorem dX12_person_13 : decode bX12_person 13 = .ok (.iconst (-1), 1) := by decide +kernel
theorem dX12_person_14 : decode bX12_person 14 = .ok (.ireturn, 1) := by decide +kernel
theorem dX12_person_15 : decode bX12_person 15 = .ok (.iload_n 2, 1) := by decide +kernel
theorem dX12_person_16 : decode bX12_person 16 = .ok (.tableswitch 55 0 2 #[28, 38, 49], 28) := by decide +kernel
theorem dX12_person_44 : decode bX12_person 44 = .ok (.aload_n 0, 1) := by decide +kernel
theorem dX12_person_45 : decode bX12_person 45 = .ok (.getfield 13, 3) := by decide +kernel
theorem dX12_person_48 : decode bX12_person 48 = .ok (.bipush 53, 2) := by decide +kernel
theorem dX12_person_50 : decode bX12_person 50 = .ok (.iload_n 1, 1) := by decide +kernel
theorem dX12_person_51 : decode bX12_person 51 = .ok (.iadd, 1) := by decide +kernel
theorem dX12_person_52 : decode bX12_person 52 = .ok (.iaload, 1) := by decide +kernel
theorem dX12_person_53 : decode bX12_person 53 = .ok (.ireturn, 1) := by decide +kernel
theorem dX12_person_54 : decode bX12_person 54 = .ok (.aload_n 0, 1) := by decide +kernel
theorem dX12_person_55 : decode bX12_person 55 = .ok (.getfield 20, 3) := by decide +kernel
theorem dX12_person_58 : decode bX12_person 58 = .ok (.iconst 2, 1) := by decide +kernel
theorem dX12_person_59 : decode bX12_person 59 = .ok (.iaload, 1) := by decide +kernel
theorem dX12_person_60 : decode bX12_person 60 = .ok (.iload_n 1, 1) := by decide +kernel
theorem dX12_person_61 : decode bX12_person 61 = .ok (.ishr, 1) := by decide +kernel
theorem dX12_person_62 : decode bX12_person 62 = .ok (.iconst 1, 1) := by decide +kernel
theorem dX12_person_63 : decode bX12_person 63 = .ok (.iand, 1) := by decide +kernel
theorem dX12_person_64 : decode bX12_person 64 = .ok (.ireturn, 1) := by decide +kernel
theorem dX12_person_65 : decode bX12_person 65 = .ok (.aload_n 0, 1) := by decide +kernel
theorem dX12_person_66 : decode bX12_person 66 = .ok (.iload_n 1, 1) := by decide +kernel
theorem dX12_person_67 : decode bX12_person 67 = .ok (.invokevirtual 141, 3) := by decide +kernel
theorem dX12_person_70 : decode bX12_person 70 = .ok (.ireturn, 1) := by decide +kernel
theorem dX12_person_71 : decode bX12_person 71 = .ok (.iconst (-1), 1) := by decide +kernel
theorem dX12_person_72 : decode bX12_person 72 = .ok (.ireturn, 1) := by decide +kernel
section
variable {p : Program} {l : Launch} {e : Env} {s : State} {m : MethodId} {args : Array Value} {below : List Frame} {meth : Method} {c : Code} {G : GG} {n : Nat} {h' : Hp} {rv : Int32}
set_option maxHeartbeats 4000000
set_option maxRecDepth 100000
theorem k_X12_person (l : Launch) (G : GG) (n : Nat) (hN : NT ≤ n) {h h' : Hp} {x0 : Nat} {x1 : Int32} {x2 : Int32} {rv : Int32} (hf : f_X12_person h x0 x1 x2 = some (rv, h')) : CT l G n n yX12_person (.code yX12_person bX12_person 3 (some .int)) 2 0 0 [.ref (bs G + x0), .int x1, .int x2] h h' (some (.int rv)) := by
  refine ct_of (maxL := 3) (ret := (some .int)) (bytes := bX12_person) (by decide) (Nat.le_of_ble_eq_true rfl) (fun p e s m below meth c C0 X ls hl => ?_)
  have hl : lv_has ls 3 [(0, .ref (bs G + x0)), (1, .int x1), (2, .int x2)] := hl
  obtain ⟨hx, hb, hr, hml, hown, hts, hK, hlocks, hnm⟩ := id C0
  unfold f_X12_person at hf
  obtain ⟨o0, hf⟩ := gd_e hf
  refine lv_aload_n hx hb dX12_person_0 rfl (lv_at hl 0 rfl) ?_
  refine lv_iconst (v := (0 : Int32)) hx hb dX12_person_1 (by decide) ?_
  refine g_PI hx hb hts hown hK X o0 hN fl_X12_1 ft_12_0 (by decide) rfl dX12_person_2 (fun H locs X => ?_)
  obtain ⟨h1, e2, hf⟩ := lt_e hf
  rw [← e2] at X
  refine lv_aload_n hx hb dX12_person_5 rfl (lv_at hl 0 rfl) ?_
  refine lv_iload_n hx hb dX12_person_6 rfl (lv_at hl 1 rfl) ?_
  obtain ⟨r3, h4, q5, hf⟩ := bd_e hf
  refine c_V0 (As := [.int x1]) (rest := []) (st1 := [.int r3]) hx hb hml hown hts hK X (k_X12_noOne l G n hN q5) o0 hN lc_X12_noOne lv_X12_138 (ci := 12) rfl rfl (by decide) rfl hl.1 (Nat.le_of_ble_eq_true rfl) dX12_person_7 rfl (fun H locs X => ?_)
  refine lv_if_eq (tgt := 15) hx hb dX12_person_10 (by decide) (fun c10 => ?_) (fun c10 => ?_)
  · have hf := ite_t hf c10
    refine lv_iload_n hx hb dX12_person_15 rfl (lv_at hl 2 rfl) ?_
    by_cases s16_0 : x2 = (0 : Int32)
    · have hf := ite_t hf s16_0
      refine sw_in (k := (0 : Int32)) (off := 28) (tgt := 44) hx hb dX12_person_16 s16_0 (by decide) (by decide) (by decide) (by decide) ?_
      refine lv_aload_n hx hb dX12_person_44 rfl (lv_at hl 0 rfl) ?_
      obtain ⟨g6, hf⟩ := gd_e hf
      refine g_R hx hb hts hown hK X o0 hN g6 fl_X12_13 (by decide) rfl (by decide) dX12_person_45 ?_
      refine lv_bipush (v := (53 : Int32)) hx hb dX12_person_48 (by decide) ?_
      refine lv_iload_n hx hb dX12_person_50 rfl (lv_at hl 1 rfl) ?_
      refine lv_iadd hx hb dX12_person_51 ?_
      obtain ⟨g7, hf⟩ := gd_e hf
      refine g_ia hx hb hK X g6 hN g7 (by decide) dX12_person_52 ?_
      exact r_I hx hb hr hlocks X hf dX12_person_53
    have hf := ite_f hf s16_0
    by_cases s16_1 : x2 = (1 : Int32)
    · have hf := ite_t hf s16_1
      refine sw_in (k := (1 : Int32)) (off := 38) (tgt := 54) hx hb dX12_person_16 s16_1 (by decide) (by decide) (by decide) (by decide) ?_
      refine lv_aload_n hx hb dX12_person_54 rfl (lv_at hl 0 rfl) ?_
      obtain ⟨g8, hf⟩ := gd_e hf
      refine g_R hx hb hts hown hK X o0 hN g8 fl_X12_20 (by decide) rfl (by decide) dX12_person_55 ?_
      refine lv_iconst (v := (2 : Int32)) hx hb dX12_person_58 (by decide) ?_
      obtain ⟨g9, hf⟩ := gd_e hf
      refine g_ia hx hb hK X g8 hN g9 (by decide) dX12_person_59 ?_
      refine lv_iload_n hx hb dX12_person_60 rfl (lv_at hl 1 rfl) ?_
      refine lv_ishr hx hb dX12_person_61 ?_
      refine lv_iconst (v := (1 : Int32)) hx hb dX12_person_62 (by decide) ?_
      refine lv_iand hx hb dX12_person_63 ?_
      exact r_I hx hb hr hlocks X hf dX12_person_64
    have hf := ite_f hf s16_1
    by_cases s16_2 : x2 = (2 : Int32)
    · have hf := ite_t hf s16_2
      refine sw_in (k := (2 : Int32)) (off := 49) (tgt := 65) hx hb dX12_person_16 s16_2 (by decide) (by decide) (by decide) (by decide) ?_
      refine lv_aload_n hx hb dX12_person_65 rfl (lv_at hl 0 rfl) ?_
      refine lv_iload_n hx hb dX12_person_66 rfl (lv_at hl 1 rfl) ?_
      obtain ⟨r10, h11, q12, hf⟩ := bd_e hf
      refine c_V0 (As := [.int x1]) (rest := []) (st1 := [.int r10]) hx hb hml hown hts hK X (k_X12_mayOf l G n hN q12) o0 hN lc_X12_mayOf lv_X12_141 (ci := 12) rfl rfl (by decide) rfl hl.1 (Nat.le_of_ble_eq_true rfl) dX12_person_67 rfl (fun H locs X => ?_)
      exact r_I hx hb hr hlocks X hf dX12_person_70
    have hf := ite_f hf s16_2
    refine sw_df (ex := [(0 : Int32), (1 : Int32), (2 : Int32)]) (tgt := 71) hx hb dX12_person_16 (by decide) (by decide) (List.forall_mem_cons.mpr ⟨s16_0, List.forall_mem_cons.mpr ⟨s16_1, List.forall_mem_cons.mpr ⟨s16_2, (fun _ hz => absurd hz List.not_mem_nil)⟩⟩⟩) (by decide) ?_
    refine lv_iconst (v := (-1 : Int32)) hx hb dX12_person_71 (by decide) ?_
    exact r_I hx hb hr hlocks X hf dX12_person_72
  · have hf := ite_f hf c10
    refine lv_iconst (v := (-1 : Int32)) hx hb dX12_person_13 (by decide) ?_
    exact r_I hx hb hr hlocks X hf dX12_person_14
end
theorem dX12_law_0 : decode bX12_law 0 = .ok (.aload_n 0, 1) := by decide +kernel
theorem dX12_law_1 : decode bX12_law 1 = .ok (.iconst 0, 1) := by decide +kernel
theorem dX12_law_2 : decode bX12_law 2 = .ok (.putfield 1, 3) := by decide +kernel
theorem dX12_law_5 : decode bX12_law 5 = .ok (.iload_n 1, 1) := by decide +kernel
theorem dX12_law_6 : decode bX12_law 6 = .ok (.i2l, 1) := by decide +kernel
theorem dX12_law_7 : decode bX12_law 7 = .ok (.lconst 0, 1) := by decide +kernel
theorem dX12_law_8 : decode bX12_law 8 = .ok (.ldc2_w 97, 3) := by decide +kernel
theorem dX12_law_11 : decode bX12_law 11 = .ok (.invokestatic 75, 3) := by decide +kernel
theorem dX12_law_14 : decode bX12_law 14 = .ok (.ifCond .eq 14, 3) := by decide +kernel
theorem dX12_law_17 : decode bX12_law 17 = .ok (.aload_n 0, 1) := by decide +kernel
theorem dX12_law_18 : decode bX12_law 18 = .ok (.getfield 13, 3) := by decide +kernel
theorem dX12_law_21 : decode bX12_law 21 = .ok (.iconst 2, 1) := by decide +kernel
theorem dX12_law_22 : decode bX12_law 22 = .ok (.iload_n 1, 1) := by decide +kernel
theorem dX12_law_23 : decode bX12_law 23 = .ok (.iadd, 1) := by decide +kernel
theorem dX12_law_24 : decode bX12_law 24 = .ok (.iaload, 1) := by decide +kernel
theorem dX12_law_25 : decode bX12_law 25 = .ok (.goto 4, 3) := by decide +kernel
theorem dX12_law_28 : decode bX12_law 28 = .ok (.iconst (-1), 1) := by decide +kernel
theorem dX12_law_29 : decode bX12_law 29 = .ok (.ireturn, 1) := by decide +kernel
section
variable {p : Program} {l : Launch} {e : Env} {s : State} {m : MethodId} {args : Array Value} {below : List Frame} {meth : Method} {c : Code} {G : GG} {n : Nat} {h' : Hp} {rv : Int32}
set_option maxHeartbeats 4000000
set_option maxRecDepth 100000
theorem k_X12_law (l : Launch) (G : GG) (n : Nat) (hN : NT ≤ n) {h h' : Hp} {x0 : Nat} {x1 : Int32} {rv : Int32} (hf : f_X12_law h x0 x1 = some (rv, h')) : CT l G n n yX12_law (.code yX12_law bX12_law 2 (some .int)) 1 0 0 [.ref (bs G + x0), .int x1] h h' (some (.int rv)) := by
  refine ct_of (maxL := 2) (ret := (some .int)) (bytes := bX12_law) (by decide) (Nat.le_of_ble_eq_true rfl) (fun p e s m below meth c C0 X ls hl => ?_)
  have hl : lv_has ls 2 [(0, .ref (bs G + x0)), (1, .int x1)] := hl
  obtain ⟨hx, hb, hr, hml, hown, hts, hK, hlocks, hnm⟩ := id C0
  unfold f_X12_law at hf
  obtain ⟨o0, hf⟩ := gd_e hf
  refine lv_aload_n hx hb dX12_law_0 rfl (lv_at hl 0 rfl) ?_
  refine lv_iconst (v := (0 : Int32)) hx hb dX12_law_1 (by decide) ?_
  refine g_PI hx hb hts hown hK X o0 hN fl_X12_1 ft_12_0 (by decide) rfl dX12_law_2 (fun H locs X => ?_)
  obtain ⟨h1, e2, hf⟩ := lt_e hf
  rw [← e2] at X
  refine lv_iload_n hx hb dX12_law_5 rfl (lv_at hl 1 rfl) ?_
  refine lv_i2l hx hb dX12_law_6 rfl ?_
  refine lv_lconst (v := 0) hx hb dX12_law_7 (by decide) ?_
  refine lv_ldc2 hx hb hown (hts _ cn_X12_97) dX12_law_8 ?_
  obtain ⟨r3, h4, q5, hf⟩ := bd_e hf
  refine c_S0 (As := [.long x1.toInt64, .long (0 : Int64), .long (2 : Int64)]) (rest := []) (st1 := [.int r3]) hx hb hml hown hts hK X (k_X12_in l G n hN q5) lc_X12_in ls_X12_75 (by decide) rfl hl.1 (Nat.le_of_ble_eq_true rfl) dX12_law_11 rfl (fun H locs X => ?_)
  refine lv_if_eq (tgt := 28) hx hb dX12_law_14 (by decide) (fun c14 => ?_) (fun c14 => ?_)
  · have hf := ite_t hf c14
    refine lv_iconst (v := (-1 : Int32)) hx hb dX12_law_28 (by decide) ?_
    exact r_I hx hb hr hlocks X hf dX12_law_29
  · have hf := ite_f hf c14
    refine lv_aload_n hx hb dX12_law_17 rfl (lv_at hl 0 rfl) ?_
    obtain ⟨g6, hf⟩ := gd_e hf
    refine g_R hx hb hts hown hK X o0 hN g6 fl_X12_13 (by decide) rfl (by decide) dX12_law_18 ?_
    refine lv_iconst (v := (2 : Int32)) hx hb dX12_law_21 (by decide) ?_
    refine lv_iload_n hx hb dX12_law_22 rfl (lv_at hl 1 rfl) ?_
    refine lv_iadd hx hb dX12_law_23 ?_
    obtain ⟨g7, hf⟩ := gd_e hf
    refine g_ia hx hb hK X g6 hN g7 (by decide) dX12_law_24 ?_
    refine lv_goto (tgt := 29) hx hb dX12_law_25 (by decide) ?_
    exact r_I hx hb hr hlocks X hf dX12_law_29
end
theorem dX12_counts_0 : decode bX12_counts 0 = .ok (.iload_n 1, 1) := by decide +kernel
theorem dX12_counts_1 : decode bX12_counts 1 = .ok (.iconst 1, 1) := by decide +kernel
theorem dX12_counts_2 : decode bX12_counts 2 = .ok (.if_icmp .ne 7, 3) := by decide +kernel
theorem dX12_counts_5 : decode bX12_counts 5 = .ok (.iload_n 0, 1) := by decide +kernel
theorem dX12_counts_6 : decode bX12_counts 6 = .ok (.goto 16, 3) := by decide +kernel
theorem dX12_counts_9 : decode bX12_counts 9 = .ok (.iload_n 1, 1) := by decide +kernel
theorem dX12_counts_10 : decode bX12_counts 10 = .ok (.iconst 2, 1) := by decide +kernel
theorem dX12_counts_11 : decode bX12_counts 11 = .ok (.if_icmp .ne 8, 3) := by decide +kernel
theorem dX12_counts_14 : decode bX12_counts 14 = .ok (.iload_n 0, 1) := by decide +kernel
theorem dX12_counts_15 : decode bX12_counts 15 = .ok (.ineg, 1) := by decide +kernel
theorem dX12_counts_16 : decode bX12_counts 16 = .ok (.goto 6, 3) := by decide +kernel
theorem dX12_counts_19 : decode bX12_counts 19 = .ok (.iload_n 0, 1) := by decide +kernel
theorem dX12_counts_20 : decode bX12_counts 20 = .ok (.iconst 2, 1) := by decide +kernel
theorem dX12_counts_21 : decode bX12_counts 21 = .ok (.idiv, 1) := by decide +kernel
theorem dX12_counts_22 : decode bX12_counts 22 = .ok (.ireturn, 1) := by decide +kernel
section
variable {p : Program} {l : Launch} {e : Env} {s : State} {m : MethodId} {args : Array Value} {below : List Frame} {meth : Method} {c : Code} {G : GG} {n : Nat} {h' : Hp} {rv : Int32}
set_option maxHeartbeats 4000000
set_option maxRecDepth 100000
theorem k_X12_counts (l : Launch) (G : GG) (n : Nat) (hN : NT ≤ n) {h h' : Hp} {x0 : Int32} {x1 : Int32} {rv : Int32} (hf : f_X12_counts h x0 x1 = some (rv, h')) : CT l G n n yX12_counts (.code yX12_counts bX12_counts 2 (some .int)) 0 0 0 [.int x0, .int x1] h h' (some (.int rv)) := by
  refine ct_of (maxL := 2) (ret := (some .int)) (bytes := bX12_counts) (by decide) (Nat.le_of_ble_eq_true rfl) (fun p e s m below meth c C0 X ls hl => ?_)
  have hl : lv_has ls 2 [(0, .int x0), (1, .int x1)] := hl
  obtain ⟨hx, hb, hr, hml, hown, hts, hK, hlocks, hnm⟩ := id C0
  unfold f_X12_counts at hf
  refine lv_iload_n hx hb dX12_counts_0 rfl (lv_at hl 1 rfl) ?_
  refine lv_iconst (v := (1 : Int32)) hx hb dX12_counts_1 (by decide) ?_
  refine lv_icmp_ne (tgt := 9) hx hb dX12_counts_2 (by decide) (fun c2 => ?_) (fun c2 => ?_)
  · have hf := ite_f hf c2
    refine lv_iload_n hx hb dX12_counts_9 rfl (lv_at hl 1 rfl) ?_
    refine lv_iconst (v := (2 : Int32)) hx hb dX12_counts_10 (by decide) ?_
    refine lv_icmp_ne (tgt := 19) hx hb dX12_counts_11 (by decide) (fun c11 => ?_) (fun c11 => ?_)
    · have hf := ite_f hf c11
      refine lv_iload_n hx hb dX12_counts_19 rfl (lv_at hl 0 rfl) ?_
      refine lv_iconst (v := (2 : Int32)) hx hb dX12_counts_20 (by decide) ?_
      refine lv_idiv hx hb dX12_counts_21 (by decide) ?_
      exact r_I hx hb hr hlocks X hf dX12_counts_22
    · have hf := ite_t hf c11
      refine lv_iload_n hx hb dX12_counts_14 rfl (lv_at hl 0 rfl) ?_
      refine lv_ineg hx hb dX12_counts_15 ?_
      refine lv_goto (tgt := 22) hx hb dX12_counts_16 (by decide) ?_
      exact r_I hx hb hr hlocks X hf dX12_counts_22
  · have hf := ite_t hf c2
    refine lv_iload_n hx hb dX12_counts_5 rfl (lv_at hl 0 rfl) ?_
    refine lv_goto (tgt := 22) hx hb dX12_counts_6 (by decide) ?_
    exact r_I hx hb hr hlocks X hf dX12_counts_22
end
theorem dX12_priceOf_0 : decode bX12_priceOf 0 = .ok (.aload_n 0, 1) := by decide +kernel
theorem dX12_priceOf_1 : decode bX12_priceOf 1 = .ok (.getfield 13, 3) := by decide +kernel
theorem dX12_priceOf_4 : decode bX12_priceOf 4 = .ok (.iconst 4, 1) := by decide +kernel
theorem dX12_priceOf_5 : decode bX12_priceOf 5 = .ok (.iload_n 1, 1) := by decide +kernel
theorem dX12_priceOf_6 : decode bX12_priceOf 6 = .ok (.iadd, 1) := by decide +kernel
theorem dX12_priceOf_7 : decode bX12_priceOf 7 = .ok (.iaload, 1) := by decide +kernel
theorem dX12_priceOf_8 : decode bX12_priceOf 8 = .ok (.iload_n 2, 1) := by decide +kernel
theorem dX12_priceOf_9 : decode bX12_priceOf 9 = .ok (.iconst 2, 1) := by decide +kernel
theorem dX12_priceOf_10 : decode bX12_priceOf 10 = .ok (.if_icmp .ne 12, 3) := by decide +kernel
theorem dX12_priceOf_13 : decode bX12_priceOf 13 = .ok (.aload_n 0, 1) := by decide +kernel
theorem dX12_priceOf_14 : decode bX12_priceOf 14 = .ok (.getfield 13, 3) := by decide +kernel
theorem dX12_priceOf_17 : decode bX12_priceOf 17 = .ok (.iconst 3, 1) := by decide +kernel
theorem dX12_priceOf_18 : decode bX12_priceOf 18 = .ok (.iaload, 1) := by decide +kernel
theorem dX12_priceOf_19 : decode bX12_priceOf 19 = .ok (.goto 18, 3) := by decide +kernel
theorem dX12_priceOf_22 : decode bX12_priceOf 22 = .ok (.iload_n 2, 1) := by decide +kernel
theorem dX12_priceOf_23 : decode bX12_priceOf 23 = .ok (.iconst 3, 1) := by decide +kernel
theorem dX12_priceOf_24 : decode bX12_priceOf 24 = .ok (.if_icmp .ne 12, 3) := by decide +kernel
theorem dX12_priceOf_27 : decode bX12_priceOf 27 = .ok (.aload_n 0, 1) := by decide +kernel
theorem dX12_priceOf_28 : decode bX12_priceOf 28 = .ok (.getfield 13, 3) := by decide +kernel
theorem dX12_priceOf_31 : decode bX12_priceOf 31 = .ok (.iconst 4, 1) := by decide +kernel
theorem dX12_priceOf_32 : decode bX12_priceOf 32 = .ok (.iaload, 1) := by decide +kernel
theorem dX12_priceOf_33 : decode bX12_priceOf 33 = .ok (.goto 4, 3) := by decide +kernel
theorem dX12_priceOf_36 : decode bX12_priceOf 36 = .ok (.iconst 0, 1) := by decide +kernel
theorem dX12_priceOf_37 : decode bX12_priceOf 37 = .ok (.iadd, 1) := by decide +kernel
theorem dX12_priceOf_38 : decode bX12_priceOf 38 = .ok (.ireturn, 1) := by decide +kernel
section
variable {p : Program} {l : Launch} {e : Env} {s : State} {m : MethodId} {args : Array Value} {below : List Frame} {meth : Method} {c : Code} {G : GG} {n : Nat} {h' : Hp} {rv : Int32}
set_option maxHeartbeats 4000000
set_option maxRecDepth 100000
theorem k_X12_priceOf (l : Launch) (G : GG) (n : Nat) (hN : NT ≤ n) {h h' : Hp} {x0 : Nat} {x1 : Int32} {x2 : Int32} {rv : Int32} (hf : f_X12_priceOf h x0 x1 x2 = some (rv, h')) : CT l G n n yX12_priceOf (.code yX12_priceOf bX12_priceOf 3 (some .int)) 0 0 0 [.ref (bs G + x0), .int x1, .int x2] h h' (some (.int rv)) := by
  refine ct_of (maxL := 3) (ret := (some .int)) (bytes := bX12_priceOf) (by decide) (Nat.le_of_ble_eq_true rfl) (fun p e s m below meth c C0 X ls hl => ?_)
  have hl : lv_has ls 3 [(0, .ref (bs G + x0)), (1, .int x1), (2, .int x2)] := hl
  obtain ⟨hx, hb, hr, hml, hown, hts, hK, hlocks, hnm⟩ := id C0
  unfold f_X12_priceOf at hf
  obtain ⟨o0, hf⟩ := gd_e hf
  refine lv_aload_n hx hb dX12_priceOf_0 rfl (lv_at hl 0 rfl) ?_
  obtain ⟨g1, hf⟩ := gd_e hf
  refine g_R hx hb hts hown hK X o0 hN g1 fl_X12_13 (by decide) rfl (by decide) dX12_priceOf_1 ?_
  refine lv_iconst (v := (4 : Int32)) hx hb dX12_priceOf_4 (by decide) ?_
  refine lv_iload_n hx hb dX12_priceOf_5 rfl (lv_at hl 1 rfl) ?_
  refine lv_iadd hx hb dX12_priceOf_6 ?_
  obtain ⟨g2, hf⟩ := gd_e hf
  refine g_ia hx hb hK X g1 hN g2 (by decide) dX12_priceOf_7 ?_
  refine lv_iload_n hx hb dX12_priceOf_8 rfl (lv_at hl 2 rfl) ?_
  refine lv_iconst (v := (2 : Int32)) hx hb dX12_priceOf_9 (by decide) ?_
  refine lv_icmp_ne (tgt := 22) hx hb dX12_priceOf_10 (by decide) (fun c10 => ?_) (fun c10 => ?_)
  · have hf := ite_f hf c10
    refine lv_iload_n hx hb dX12_priceOf_22 rfl (lv_at hl 2 rfl) ?_
    refine lv_iconst (v := (3 : Int32)) hx hb dX12_priceOf_23 (by decide) ?_
    refine lv_icmp_ne (tgt := 36) hx hb dX12_priceOf_24 (by decide) (fun c24 => ?_) (fun c24 => ?_)
    · have hf := ite_f hf c24
      refine lv_iconst (v := (0 : Int32)) hx hb dX12_priceOf_36 (by decide) ?_
      refine lv_iadd hx hb dX12_priceOf_37 ?_
      exact r_I hx hb hr hlocks X hf dX12_priceOf_38
    · have hf := ite_t hf c24
      refine lv_aload_n hx hb dX12_priceOf_27 rfl (lv_at hl 0 rfl) ?_
      obtain ⟨g3, hf⟩ := gd_e hf
      refine g_R hx hb hts hown hK X o0 hN g3 fl_X12_13 (by decide) rfl (by decide) dX12_priceOf_28 ?_
      refine lv_iconst (v := (4 : Int32)) hx hb dX12_priceOf_31 (by decide) ?_
      obtain ⟨g4, hf⟩ := gd_e hf
      refine g_ia hx hb hK X g3 hN g4 (by decide) dX12_priceOf_32 ?_
      refine lv_goto (tgt := 37) hx hb dX12_priceOf_33 (by decide) ?_
      refine lv_iadd hx hb dX12_priceOf_37 ?_
      exact r_I hx hb hr hlocks X hf dX12_priceOf_38
  · have hf := ite_t hf c10
    refine lv_aload_n hx hb dX12_priceOf_13 rfl (lv_at hl 0 rfl) ?_
    obtain ⟨g5, hf⟩ := gd_e hf
    refine g_R hx hb hts hown hK X o0 hN g5 fl_X12_13 (by decide) rfl (by decide) dX12_priceOf_14 ?_
    refine lv_iconst (v := (3 : Int32)) hx hb dX12_priceOf_17 (by decide) ?_
    obtain ⟨g6, hf⟩ := gd_e hf
    refine g_ia hx hb hK X g5 hN g6 (by decide) dX12_priceOf_18 ?_
    refine lv_goto (tgt := 37) hx hb dX12_priceOf_19 (by decide) ?_
    refine lv_iadd hx hb dX12_priceOf_37 ?_
    exact r_I hx hb hr hlocks X hf dX12_priceOf_38
end
theorem dX12_tell_0 : decode bX12_tell 0 = .ok (.aload_n 0, 1) := by decide +kernel
theorem dX12_tell_1 : decode bX12_tell 1 = .ok (.iconst 0, 1) := by decide +kernel
theorem dX12_tell_2 : decode bX12_tell 2 = .ok (.putfield 1, 3) := by decide +kernel
theorem dX12_tell_5 : decode bX12_tell 5 = .ok (.aload_n 0, 1) := by decide +kernel
theorem dX12_tell_6 : decode bX12_tell 6 = .ok (.iload_n 1, 1) := by decide +kernel
theorem dX12_tell_7 : decode bX12_tell 7 = .ok (.invokevirtual 125, 3) := by decide +kernel
theorem dX12_tell_10 : decode bX12_tell 10 = .ok (.ifCond .ne 15, 3) := by decide +kernel
theorem dX12_tell_13 : decode bX12_tell 13 = .ok (.iload_n 2, 1) := by decide +kernel
theorem dX12_tell_14 : decode bX12_tell 14 = .ok (.i2l, 1) := by decide +kernel
theorem dX12_tell_15 : decode bX12_tell 15 = .ok (.lconst 1, 1) := by decide +kernel
theorem dX12_tell_16 : decode bX12_tell 16 = .ok (.ldc2_w 144, 3) := by decide +kernel
theorem dX12_tell_19 : decode bX12_tell 19 = .ok (.invokestatic 75, 3) := by decide +kernel
theorem dX12_tell_22 : decode bX12_tell 22 = .ok (.ifCond .ne 5, 3) := by decide +kernel
theorem dX12_tell_25 : decode bX12_tell 25 = .ok (.iconst (-1), 1) := by decide +kernel
theorem dX12_tell_26 : decode bX12_tell 26 = .ok (.ireturn, 1) := by decide +kernel
theorem dX12_tell_27 : decode bX12_tell 27 = .ok (.iconst 0, 1) := by decide +kernel
theorem dX12_tell_28 : decode bX12_tell 28 = .ok (.istore_n 3, 1) := by decide +kernel
theorem dX12_tell_29 : decode bX12_tell 29 = .ok (.iload_n 3, 1) := by decide +kernel
theorem dX12_tell_30 : decode bX12_tell 30 = .ok (.aload_n 0, 1) := by decide +kernel
theorem dX12_tell_31 : decode bX12_tell 31 = .ok (.getfield 113, 3) := by decide +kernel
theorem dX12_tell_34 : decode bX12_tell 34 = .ok (.if_icmp .ge 24, 3) := by decide +kernel
theorem dX12_tell_37 : decode bX12_tell 37 = .ok (.aload_n 0, 1) := by decide +kernel
theorem dX12_tell_38 : decode bX12_tell 38 = .ok (.getfield 35, 3) := by decide +kernel
theorem dX12_tell_41 : decode bX12_tell 41 = .ok (.iconst 2, 1) := by decide +kernel
theorem dX12_tell_42 : decode bX12_tell 42 = .ok (.iload_n 3, 1) := by decide +kernel
theorem dX12_tell_43 : decode bX12_tell 43 = .ok (.imul, 1) := by decide +kernel
theorem dX12_tell_44 : decode bX12_tell 44 = .ok (.iaload, 1) := by decide +kernel
theorem dX12_tell_45 : decode bX12_tell 45 = .ok (.iload_n 1, 1) := by decide +kernel
theorem dX12_tell_46 : decode bX12_tell 46 = .ok (.if_icmp .ne 6, 3) := by decide +kernel
theorem dX12_tell_49 : decode bX12_tell 49 = .ok (.bipush (-2), 2) := by decide +kernel
theorem dX12_tell_51 : decode bX12_tell 51 = .ok (.ireturn, 1) := by decide +kernel
theorem dX12_tell_52 : decode bX12_tell 52 = .ok (.iinc 3 1, 3) := by decide +kernel
theorem dX12_tell_55 : decode bX12_tell 55 = .ok (.goto (-26), 3) := by decide +kernel
theorem dX12_tell_58 : decode bX12_tell 58 = .ok (.iload_n 2, 1) := by decide +kernel
theorem dX12_tell_59 : decode bX12_tell 59 = .ok (.iconst 3, 1) := by decide +kernel
theorem dX12_tell_60 : decode bX12_tell 60 = .ok (.if_icmp .ne 13, 3) := by decide +kernel
theorem dX12_tell_63 : decode bX12_tell 63 = .ok (.iload_n 1, 1) := by decide +kernel
theorem dX12_tell_64 : decode bX12_tell 64 = .ok (.iconst 2, 1) := by decide +kernel
theorem dX12_tell_65 : decode bX12_tell 65 = .ok (.irem, 1) := by decide +kernel
theorem dX12_tell_66 : decode bX12_tell 66 = .ok (.iconst 1, 1) := by decide +kernel
theorem dX12_tell_67 : decode bX12_tell 67 = .ok (.if_icmp .ne 6, 3) := by decide +kernel
theorem dX12_tell_70 : decode bX12_tell 70 = .ok (.bipush (-2), 2) := by decide +kernel
theorem dX12_tell_72 : decode bX12_tell 72 = .ok (.ireturn, 1) := by decide +kernel
theorem dX12_tell_73 : decode bX12_tell 73 = .ok (.aload_n 0, 1) := by decide +kernel
theorem dX12_tell_74 : decode bX12_tell 74 = .ok (.getfield 113, 3) := by decide +kernel
theorem dX12_tell_77 : decode bX12_tell 77 = .ok (.bipush 10, 2) := by decide +kernel
theorem dX12_tell_79 : decode bX12_tell 79 = .ok (.if_icmp .ne 6, 3) := by decide +kernel
theorem dX12_tell_82 : decode bX12_tell 82 = .ok (.bipush (-3), 2) := by decide +kernel
theorem dX12_tell_84 : decode bX12_tell 84 = .ok (.ireturn, 1) := by decide +kernel
theorem dX12_tell_85 : decode bX12_tell 85 = .ok (.aload_n 0, 1) := by decide +kernel
theorem dX12_tell_86 : decode bX12_tell 86 = .ok (.getfield 35, 3) := by decide +kernel
theorem dX12_tell_89 : decode bX12_tell 89 = .ok (.iconst 2, 1) := by decide +kernel
theorem dX12_tell_90 : decode bX12_tell 90 = .ok (.aload_n 0, 1) := by decide +kernel
theorem dX12_tell_91 : decode bX12_tell 91 = .ok (.getfield 113, 3) := by decide +kernel
theorem dX12_tell_94 : decode bX12_tell 94 = .ok (.imul, 1) := by decide +kernel
theorem dX12_tell_95 : decode bX12_tell 95 = .ok (.iload_n 1, 1) := by decide +kernel
theorem dX12_tell_96 : decode bX12_tell 96 = .ok (.iastore, 1) := by decide +kernel
theorem dX12_tell_97 : decode bX12_tell 97 = .ok (.aload_n 0, 1) := by decide +kernel
theorem dX12_tell_98 : decode bX12_tell 98 = .ok (.getfield 35, 3) := by decide +kernel
theorem dX12_tell_101 : decode bX12_tell 101 = .ok (.iconst 2, 1) := by decide +kernel
theorem dX12_tell_102 : decode bX12_tell 102 = .ok (.aload_n 0, 1) := by decide +kernel
theorem dX12_tell_103 : decode bX12_tell 103 = .ok (.getfield 113, 3) := by decide +kernel
theorem dX12_tell_106 : decode bX12_tell 106 = .ok (.imul, 1) := by decide +kernel
theorem dX12_tell_107 : decode bX12_tell 107 = .ok (.iconst 1, 1) := by decide +kernel
theorem dX12_tell_108 : decode bX12_tell 108 = .ok (.iadd, 1) := by decide +kernel
theorem dX12_tell_109 : decode bX12_tell 109 = .ok (.iload_n 2, 1) := by decide +kernel
theorem dX12_tell_110 : decode bX12_tell 110 = .ok (.iastore, 1) := by decide +kernel
theorem dX12_tell_111 : decode bX12_tell 111 = .ok (.aload_n 0, 1) := by decide +kernel
theorem dX12_tell_112 : decode bX12_tell 112 = .ok (.dup, 1) := by decide +kernel
theorem dX12_tell_113 : decode bX12_tell 113 = .ok (.getfield 113, 3) := by decide +kernel
theorem dX12_tell_116 : decode bX12_tell 116 = .ok (.iconst 1, 1) := by decide +kernel
theorem dX12_tell_117 : decode bX12_tell 117 = .ok (.iadd, 1) := by decide +kernel
theorem dX12_tell_118 : decode bX12_tell 118 = .ok (.putfield 113, 3) := by decide +kernel
theorem dX12_tell_121 : decode bX12_tell 121 = .ok (.aload_n 0, 1) := by decide +kernel
theorem dX12_tell_122 : decode bX12_tell 122 = .ok (.getfield 113, 3) := by decide +kernel
theorem dX12_tell_125 : decode bX12_tell 125 = .ok (.ireturn, 1) := by decide +kernel
section
variable {p : Program} {l : Launch} {e : Env} {s : State} {m : MethodId} {args : Array Value} {below : List Frame} {meth : Method} {c : Code} {G : GG} {n : Nat} {h' : Hp} {rv : Int32}
set_option maxHeartbeats 4000000
set_option maxRecDepth 100000
theorem j_X12_tell_73 (C0 : Cx p s m args meth c G bX12_tell RX12 4 (some .int) "tell") (hN : NT ≤ n) {H : Heap} {locs : List Loc} {ls : Array Slot} {h : Hp} {x0 : Nat} {x1 : Int32} {x2 : Int32} (X : XW G n h s 0 H locs) (hl : lv_has ls 4 [(0, .ref (bs G + x0)), (1, .int x1), (2, .int x2)]) (o0 : kd x0 = 12) (hf : f_X12_tell_73 h x0 x1 x2 = some (rv, h')) : W p l e (rmC 2 0 0) s m args below meth c H locs 0 0 (MQ below (QP G n h' (some (.int rv))) args s 0 0 (Ab G)) (F0 m 73 ls []) := by
  obtain ⟨hx, hb, hr, hml, hown, hts, hK, hlocks, hnm⟩ := id C0
  unfold f_X12_tell_73 at hf
  refine lv_aload_n hx hb dX12_tell_73 rfl (lv_at hl 0 rfl) ?_
  refine g_I hx hb hts hown hK X o0 hN fl_X12_113 (by decide) rfl dX12_tell_74 ?_
  refine lv_bipush (v := (10 : Int32)) hx hb dX12_tell_77 (by decide) ?_
  refine lv_icmp_ne (tgt := 85) hx hb dX12_tell_79 (by decide) (fun c79 => ?_) (fun c79 => ?_)
  · have hf := ite_f hf c79
    refine lv_aload_n hx hb dX12_tell_85 rfl (lv_at hl 0 rfl) ?_
    obtain ⟨g1, hf⟩ := gd_e hf
    refine g_R hx hb hts hown hK X o0 hN g1 fl_X12_35 (by decide) rfl (by decide) dX12_tell_86 ?_
    refine lv_iconst (v := (2 : Int32)) hx hb dX12_tell_89 (by decide) ?_
    refine lv_aload_n hx hb dX12_tell_90 rfl (lv_at hl 0 rfl) ?_
    refine g_I hx hb hts hown hK X o0 hN fl_X12_113 (by decide) rfl dX12_tell_91 ?_
    refine lv_imul hx hb dX12_tell_94 ?_
    refine lv_iload_n hx hb dX12_tell_95 rfl (lv_at hl 1 rfl) ?_
    obtain ⟨g2, hf⟩ := gd_e hf
    refine g_is hx hb hK X g1 hN g2 (by decide) dX12_tell_96 (fun H locs X => ?_)
    obtain ⟨h3, e4, hf⟩ := lt_e hf
    rw [← e4] at X
    refine lv_aload_n hx hb dX12_tell_97 rfl (lv_at hl 0 rfl) ?_
    obtain ⟨g5, hf⟩ := gd_e hf
    refine g_R hx hb hts hown hK X o0 hN g5 fl_X12_35 (by decide) rfl (by decide) dX12_tell_98 ?_
    refine lv_iconst (v := (2 : Int32)) hx hb dX12_tell_101 (by decide) ?_
    refine lv_aload_n hx hb dX12_tell_102 rfl (lv_at hl 0 rfl) ?_
    refine g_I hx hb hts hown hK X o0 hN fl_X12_113 (by decide) rfl dX12_tell_103 ?_
    refine lv_imul hx hb dX12_tell_106 ?_
    refine lv_iconst (v := (1 : Int32)) hx hb dX12_tell_107 (by decide) ?_
    refine lv_iadd hx hb dX12_tell_108 ?_
    refine lv_iload_n hx hb dX12_tell_109 rfl (lv_at hl 2 rfl) ?_
    obtain ⟨g6, hf⟩ := gd_e hf
    refine g_is hx hb hK X g5 hN g6 (by decide) dX12_tell_110 (fun H locs X => ?_)
    obtain ⟨h7, e8, hf⟩ := lt_e hf
    rw [← e8] at X
    refine lv_aload_n hx hb dX12_tell_111 rfl (lv_at hl 0 rfl) ?_
    refine lv_dup hx hb dX12_tell_112 rfl ?_
    refine g_I hx hb hts hown hK X o0 hN fl_X12_113 (by decide) rfl dX12_tell_113 ?_
    refine lv_iconst (v := (1 : Int32)) hx hb dX12_tell_116 (by decide) ?_
    refine lv_iadd hx hb dX12_tell_117 ?_
    refine g_PI hx hb hts hown hK X o0 hN fl_X12_113 ft_12_14 (by decide) rfl dX12_tell_118 (fun H locs X => ?_)
    obtain ⟨h9, e10, hf⟩ := lt_e hf
    rw [← e10] at X
    refine lv_aload_n hx hb dX12_tell_121 rfl (lv_at hl 0 rfl) ?_
    refine g_I hx hb hts hown hK X o0 hN fl_X12_113 (by decide) rfl dX12_tell_122 ?_
    exact r_I hx hb hr hlocks X hf dX12_tell_125
  · have hf := ite_t hf c79
    refine lv_bipush (v := (-3 : Int32)) hx hb dX12_tell_82 (by decide) ?_
    exact r_I hx hb hr hlocks X hf dX12_tell_84
theorem j_X12_tell_29 (C0 : Cx p s m args meth c G bX12_tell RX12 4 (some .int) "tell") (hN : NT ≤ n) : ∀ (fu : Nat), ∀ {H : Heap} {locs : List Loc} {ls : Array Slot} {h : Hp} {x0 : Nat} {x1 : Int32} {x2 : Int32} {x3 : Int32}, XW G n h s 0 H locs → lv_has ls 4 [(0, .ref (bs G + x0)), (1, .int x1), (2, .int x2), (3, .int x3)] → kd x0 = 12 → f_X12_tell_29 fu h x0 x1 x2 x3 = some (rv, h') → W p l e (rmC 2 0 0) s m args below meth c H locs 0 0 (MQ below (QP G n h' (some (.int rv))) args s 0 0 (Ab G)) (F0 m 29 ls []) := by
  obtain ⟨hx, hb, hr, hml, hown, hts, hK, hlocks, hnm⟩ := id C0
  intro fu
  induction fu with
  | zero => intro H locs ls h x0 x1 x2 x3 X hl o0 hf; cases hf
  | succ fu ih =>
    intro H locs ls h x0 x1 x2 x3 X hl o0 hf
    rw [f_X12_tell_29] at hf
    refine lv_iload_n hx hb dX12_tell_29 rfl (lv_at hl 3 rfl) ?_
    refine lv_aload_n hx hb dX12_tell_30 rfl (lv_at hl 0 rfl) ?_
    refine g_I hx hb hts hown hK X o0 hN fl_X12_113 (by decide) rfl dX12_tell_31 ?_
    refine lv_icmp_ge (tgt := 58) hx hb dX12_tell_34 (by decide) (fun c34 => ?_) (fun c34 => ?_)
    · have hf := ite_t hf c34
      refine lv_iload_n hx hb dX12_tell_58 rfl (lv_at hl 2 rfl) ?_
      refine lv_iconst (v := (3 : Int32)) hx hb dX12_tell_59 (by decide) ?_
      refine lv_icmp_ne (tgt := 73) hx hb dX12_tell_60 (by decide) (fun c60 => ?_) (fun c60 => ?_)
      · have hf := ite_f hf c60
        exact j_X12_tell_73 C0 hN X (lv_sub hl [0, 1, 2] rfl) o0 hf
      · have hf := ite_t hf c60
        refine lv_iload_n hx hb dX12_tell_63 rfl (lv_at hl 1 rfl) ?_
        refine lv_iconst (v := (2 : Int32)) hx hb dX12_tell_64 (by decide) ?_
        refine lv_irem hx hb dX12_tell_65 (by decide) ?_
        refine lv_iconst (v := (1 : Int32)) hx hb dX12_tell_66 (by decide) ?_
        refine lv_icmp_ne (tgt := 73) hx hb dX12_tell_67 (by decide) (fun c67 => ?_) (fun c67 => ?_)
        · have hf := ite_f hf c67
          exact j_X12_tell_73 C0 hN X (lv_sub hl [0, 1, 2] rfl) o0 hf
        · have hf := ite_t hf c67
          refine lv_bipush (v := (-2 : Int32)) hx hb dX12_tell_70 (by decide) ?_
          exact r_I hx hb hr hlocks X hf dX12_tell_72
    · have hf := ite_f hf c34
      refine lv_aload_n hx hb dX12_tell_37 rfl (lv_at hl 0 rfl) ?_
      obtain ⟨g1, hf⟩ := gd_e hf
      refine g_R hx hb hts hown hK X o0 hN g1 fl_X12_35 (by decide) rfl (by decide) dX12_tell_38 ?_
      refine lv_iconst (v := (2 : Int32)) hx hb dX12_tell_41 (by decide) ?_
      refine lv_iload_n hx hb dX12_tell_42 rfl (lv_at hl 3 rfl) ?_
      refine lv_imul hx hb dX12_tell_43 ?_
      obtain ⟨g2, hf⟩ := gd_e hf
      refine g_ia hx hb hK X g1 hN g2 (by decide) dX12_tell_44 ?_
      refine lv_iload_n hx hb dX12_tell_45 rfl (lv_at hl 1 rfl) ?_
      refine lv_icmp_ne (tgt := 52) hx hb dX12_tell_46 (by decide) (fun c46 => ?_) (fun c46 => ?_)
      · have hf := ite_f hf c46
        refine lv_iinc (v := (x3 + (1 : Int32))) (lv' := [(3, .int (x3 + (1 : Int32))), (0, .ref (bs G + x0)), (1, .int x1), (2, .int x2)]) hx hb dX12_tell_52 hl (k := 3) rfl rfl (by decide) rfl (fun ls hl => ?_)
        refine lv_goto (tgt := 29) hx hb dX12_tell_55 (by decide) ?_
        exact ih X (lv_sub hl [1, 2, 3, 0] rfl) o0 hf
      · have hf := ite_t hf c46
        refine lv_bipush (v := (-2 : Int32)) hx hb dX12_tell_49 (by decide) ?_
        exact r_I hx hb hr hlocks X hf dX12_tell_51
theorem k_X12_tell (l : Launch) (G : GG) (n : Nat) (hN : NT ≤ n) {h h' : Hp} {x0 : Nat} {x1 : Int32} {x2 : Int32} {rv : Int32} (hf : f_X12_tell h x0 x1 x2 = some (rv, h')) : CT l G n n yX12_tell (.code yX12_tell bX12_tell 4 (some .int)) 2 0 0 [.ref (bs G + x0), .int x1, .int x2] h h' (some (.int rv)) := by
  refine ct_of (maxL := 4) (ret := (some .int)) (bytes := bX12_tell) (by decide) (Nat.le_of_ble_eq_true rfl) (fun p e s m below meth c C0 X ls hl => ?_)
  have hl : lv_has ls 4 [(0, .ref (bs G + x0)), (1, .int x1), (2, .int x2)] := hl
  obtain ⟨hx, hb, hr, hml, hown, hts, hK, hlocks, hnm⟩ := id C0
  unfold f_X12_tell at hf
  obtain ⟨o0, hf⟩ := gd_e hf
  refine lv_aload_n hx hb dX12_tell_0 rfl (lv_at hl 0 rfl) ?_
  refine lv_iconst (v := (0 : Int32)) hx hb dX12_tell_1 (by decide) ?_
  refine g_PI hx hb hts hown hK X o0 hN fl_X12_1 ft_12_0 (by decide) rfl dX12_tell_2 (fun H locs X => ?_)
  obtain ⟨h1, e2, hf⟩ := lt_e hf
  rw [← e2] at X
  refine lv_aload_n hx hb dX12_tell_5 rfl (lv_at hl 0 rfl) ?_
  refine lv_iload_n hx hb dX12_tell_6 rfl (lv_at hl 1 rfl) ?_
  obtain ⟨r3, h4, q5, hf⟩ := bd_e hf
  refine c_V0 (As := [.int x1]) (rest := []) (st1 := [.int r3]) hx hb hml hown hts hK X (k_X12_noNumber l G n hN q5) o0 hN lc_X12_noNumber lv_X12_125 (ci := 12) rfl rfl (by decide) rfl hl.1 (Nat.le_of_ble_eq_true rfl) dX12_tell_7 rfl (fun H locs X => ?_)
  refine lv_if_ne (tgt := 25) hx hb dX12_tell_10 (by decide) (fun c10 => ?_) (fun c10 => ?_)
  · have hf := ite_f hf c10
    refine lv_iconst (v := (-1 : Int32)) hx hb dX12_tell_25 (by decide) ?_
    exact r_I hx hb hr hlocks X hf dX12_tell_26
  · have hf := ite_t hf c10
    refine lv_iload_n hx hb dX12_tell_13 rfl (lv_at hl 2 rfl) ?_
    refine lv_i2l hx hb dX12_tell_14 rfl ?_
    refine lv_lconst (v := 1) hx hb dX12_tell_15 (by decide) ?_
    refine lv_ldc2 hx hb hown (hts _ cn_X12_144) dX12_tell_16 ?_
    obtain ⟨r6, h7, q8, hf⟩ := bd_e hf
    refine c_S0 (As := [.long x2.toInt64, .long (1 : Int64), .long (3 : Int64)]) (rest := []) (st1 := [.int r6]) hx hb hml hown hts hK X (k_X12_in l G n hN q8) lc_X12_in ls_X12_75 (by decide) rfl hl.1 (Nat.le_of_ble_eq_true rfl) dX12_tell_19 rfl (fun H locs X => ?_)
    refine lv_if_ne (tgt := 27) hx hb dX12_tell_22 (by decide) (fun c22 => ?_) (fun c22 => ?_)
    · have hf := ite_f hf c22
      refine lv_iconst (v := (0 : Int32)) hx hb dX12_tell_27 (by decide) ?_
      refine lv_istore_n (lv' := [(3, .int (0 : Int32)), (0, .ref (bs G + x0)), (1, .int x1), (2, .int x2)]) hx hb dX12_tell_28 rfl hl (by decide) rfl (fun ls hl => ?_)
      exact j_X12_tell_29 C0 hN FU X (lv_sub hl [1, 2, 3, 0] rfl) o0 hf
    · have hf := ite_t hf c22
      refine lv_iconst (v := (-1 : Int32)) hx hb dX12_tell_25 (by decide) ?_
      exact r_I hx hb hr hlocks X hf dX12_tell_26
end
theorem dX12_hush_0 : decode bX12_hush 0 = .ok (.aload_n 0, 1) := by decide +kernel
theorem dX12_hush_1 : decode bX12_hush 1 = .ok (.iconst 0, 1) := by decide +kernel
theorem dX12_hush_2 : decode bX12_hush 2 = .ok (.putfield 1, 3) := by decide +kernel
theorem dX12_hush_5 : decode bX12_hush 5 = .ok (.aload_n 0, 1) := by decide +kernel
theorem dX12_hush_6 : decode bX12_hush 6 = .ok (.getfield 113, 3) := by decide +kernel
theorem dX12_hush_9 : decode bX12_hush 9 = .ok (.istore_n 1, 1) := by decide +kernel
theorem dX12_hush_10 : decode bX12_hush 10 = .ok (.aload_n 0, 1) := by decide +kernel
theorem dX12_hush_11 : decode bX12_hush 11 = .ok (.iconst 0, 1) := by decide +kernel
theorem dX12_hush_12 : decode bX12_hush 12 = .ok (.putfield 113, 3) := by decide +kernel
theorem dX12_hush_15 : decode bX12_hush 15 = .ok (.iload_n 1, 1) := by decide +kernel
theorem dX12_hush_16 : decode bX12_hush 16 = .ok (.ireturn, 1) := by decide +kernel
section
variable {p : Program} {l : Launch} {e : Env} {s : State} {m : MethodId} {args : Array Value} {below : List Frame} {meth : Method} {c : Code} {G : GG} {n : Nat} {h' : Hp} {rv : Int32}
set_option maxHeartbeats 4000000
set_option maxRecDepth 100000
theorem k_X12_hush (l : Launch) (G : GG) (n : Nat) (hN : NT ≤ n) {h h' : Hp} {x0 : Nat} {rv : Int32} (hf : f_X12_hush h x0 = some (rv, h')) : CT l G n n yX12_hush (.code yX12_hush bX12_hush 2 (some .int)) 0 0 0 [.ref (bs G + x0)] h h' (some (.int rv)) := by
  refine ct_of (maxL := 2) (ret := (some .int)) (bytes := bX12_hush) (by decide) (Nat.le_of_ble_eq_true rfl) (fun p e s m below meth c C0 X ls hl => ?_)
  have hl : lv_has ls 2 [(0, .ref (bs G + x0))] := hl
  obtain ⟨hx, hb, hr, hml, hown, hts, hK, hlocks, hnm⟩ := id C0
  unfold f_X12_hush at hf
  obtain ⟨o0, hf⟩ := gd_e hf
  refine lv_aload_n hx hb dX12_hush_0 rfl (lv_at hl 0 rfl) ?_
  refine lv_iconst (v := (0 : Int32)) hx hb dX12_hush_1 (by decide) ?_
  refine g_PI hx hb hts hown hK X o0 hN fl_X12_1 ft_12_0 (by decide) rfl dX12_hush_2 (fun H locs X => ?_)
  obtain ⟨h1, e2, hf⟩ := lt_e hf
  rw [← e2] at X
  refine lv_aload_n hx hb dX12_hush_5 rfl (lv_at hl 0 rfl) ?_
  refine g_I hx hb hts hown hK X o0 hN fl_X12_113 (by decide) rfl dX12_hush_6 ?_
  refine lv_istore_n (lv' := [(1, .int (h1.1 x0 14)), (0, .ref (bs G + x0))]) hx hb dX12_hush_9 rfl hl (by decide) rfl (fun ls hl => ?_)
  refine lv_aload_n hx hb dX12_hush_10 rfl (lv_at hl 1 rfl) ?_
  refine lv_iconst (v := (0 : Int32)) hx hb dX12_hush_11 (by decide) ?_
  refine g_PI hx hb hts hown hK X o0 hN fl_X12_113 ft_12_14 (by decide) rfl dX12_hush_12 (fun H locs X => ?_)
  obtain ⟨h3, e4, hf⟩ := lt_e hf
  rw [← e4] at X
  refine lv_iload_n hx hb dX12_hush_15 rfl (lv_at hl 0 rfl) ?_
  exact r_I hx hb hr hlocks X hf dX12_hush_16
end
theorem dX12_sumOfWords_0 : decode bX12_sumOfWords 0 = .ok (.iconst 0, 1) := by decide +kernel
theorem dX12_sumOfWords_1 : decode bX12_sumOfWords 1 = .ok (.istore_n 1, 1) := by decide +kernel
theorem dX12_sumOfWords_2 : decode bX12_sumOfWords 2 = .ok (.iconst 0, 1) := by decide +kernel
theorem dX12_sumOfWords_3 : decode bX12_sumOfWords 3 = .ok (.istore_n 2, 1) := by decide +kernel
theorem dX12_sumOfWords_4 : decode bX12_sumOfWords 4 = .ok (.iload_n 2, 1) := by decide +kernel
theorem dX12_sumOfWords_5 : decode bX12_sumOfWords 5 = .ok (.aload_n 0, 1) := by decide +kernel
theorem dX12_sumOfWords_6 : decode bX12_sumOfWords 6 = .ok (.getfield 113, 3) := by decide +kernel
theorem dX12_sumOfWords_9 : decode bX12_sumOfWords 9 = .ok (.if_icmp .ge 33, 3) := by decide +kernel
theorem dX12_sumOfWords_12 : decode bX12_sumOfWords 12 = .ok (.iload_n 1, 1) := by decide +kernel
theorem dX12_sumOfWords_13 : decode bX12_sumOfWords 13 = .ok (.aload_n 0, 1) := by decide +kernel
theorem dX12_sumOfWords_14 : decode bX12_sumOfWords 14 = .ok (.getfield 35, 3) := by decide +kernel
theorem dX12_sumOfWords_17 : decode bX12_sumOfWords 17 = .ok (.iconst 2, 1) := by decide +kernel
theorem dX12_sumOfWords_18 : decode bX12_sumOfWords 18 = .ok (.iload_n 2, 1) := by decide +kernel
theorem dX12_sumOfWords_19 : decode bX12_sumOfWords 19 = .ok (.imul, 1) := by decide +kernel
theorem dX12_sumOfWords_20 : decode bX12_sumOfWords 20 = .ok (.iaload, 1) := by decide +kernel
theorem dX12_sumOfWords_21 : decode bX12_sumOfWords 21 = .ok (.aload_n 0, 1) := by decide +kernel
theorem dX12_sumOfWords_22 : decode bX12_sumOfWords 22 = .ok (.getfield 35, 3) := by decide +kernel
theorem dX12_sumOfWords_25 : decode bX12_sumOfWords 25 = .ok (.iconst 2, 1) := by decide +kernel
theorem dX12_sumOfWords_26 : decode bX12_sumOfWords 26 = .ok (.iload_n 2, 1) := by decide +kernel
theorem dX12_sumOfWords_27 : decode bX12_sumOfWords 27 = .ok (.imul, 1) := by decide +kernel
theorem dX12_sumOfWords_28 : decode bX12_sumOfWords 28 = .ok (.iconst 1, 1) := by decide +kernel
theorem dX12_sumOfWords_29 : decode bX12_sumOfWords 29 = .ok (.iadd, 1) := by decide +kernel
theorem dX12_sumOfWords_30 : decode bX12_sumOfWords 30 = .ok (.iaload, 1) := by decide +kernel
theorem dX12_sumOfWords_31 : decode bX12_sumOfWords 31 = .ok (.invokestatic 146, 3) := by decide +kernel
theorem dX12_sumOfWords_34 : decode bX12_sumOfWords 34 = .ok (.iadd, 1) := by decide +kernel
theorem dX12_sumOfWords_35 : decode bX12_sumOfWords 35 = .ok (.istore_n 1, 1) := by decide +kernel
theorem dX12_sumOfWords_36 : decode bX12_sumOfWords 36 = .ok (.iinc 2 1, 3) := by decide +kernel
theorem dX12_sumOfWords_39 : decode bX12_sumOfWords 39 = .ok (.goto (-35), 3) := by decide +kernel
theorem dX12_sumOfWords_42 : decode bX12_sumOfWords 42 = .ok (.iload_n 1, 1) := by decide +kernel
theorem dX12_sumOfWords_43 : decode bX12_sumOfWords 43 = .ok (.ireturn, 1) := by decide +kernel
section
variable {p : Program} {l : Launch} {e : Env} {s : State} {m : MethodId} {args : Array Value} {below : List Frame} {meth : Method} {c : Code} {G : GG} {n : Nat} {h' : Hp} {rv : Int32}
set_option maxHeartbeats 4000000
set_option maxRecDepth 100000
theorem j_X12_sumOfWords_4 (C0 : Cx p s m args meth c G bX12_sumOfWords RX12 3 (some .int) "sumOfWords") (hN : NT ≤ n) : ∀ (fu : Nat), ∀ {H : Heap} {locs : List Loc} {ls : Array Slot} {h : Hp} {x0 : Nat} {x1 : Int32} {x2 : Int32}, XW G n h s 0 H locs → lv_has ls 3 [(0, .ref (bs G + x0)), (1, .int x1), (2, .int x2)] → kd x0 = 12 → f_X12_sumOfWords_4 fu h x0 x1 x2 = some (rv, h') → W p l e (rmC 1 0 0) s m args below meth c H locs 0 0 (MQ below (QP G n h' (some (.int rv))) args s 0 0 (Ab G)) (F0 m 4 ls []) := by
  obtain ⟨hx, hb, hr, hml, hown, hts, hK, hlocks, hnm⟩ := id C0
  intro fu
  induction fu with
  | zero => intro H locs ls h x0 x1 x2 X hl o0 hf; cases hf
  | succ fu ih =>
    intro H locs ls h x0 x1 x2 X hl o0 hf
    rw [f_X12_sumOfWords_4] at hf
    refine lv_iload_n hx hb dX12_sumOfWords_4 rfl (lv_at hl 2 rfl) ?_
    refine lv_aload_n hx hb dX12_sumOfWords_5 rfl (lv_at hl 0 rfl) ?_
    refine g_I hx hb hts hown hK X o0 hN fl_X12_113 (by decide) rfl dX12_sumOfWords_6 ?_
    refine lv_icmp_ge (tgt := 42) hx hb dX12_sumOfWords_9 (by decide) (fun c9 => ?_) (fun c9 => ?_)
    · have hf := ite_t hf c9
      refine lv_iload_n hx hb dX12_sumOfWords_42 rfl (lv_at hl 1 rfl) ?_
      exact r_I hx hb hr hlocks X hf dX12_sumOfWords_43
    · have hf := ite_f hf c9
      refine lv_iload_n hx hb dX12_sumOfWords_12 rfl (lv_at hl 1 rfl) ?_
      refine lv_aload_n hx hb dX12_sumOfWords_13 rfl (lv_at hl 0 rfl) ?_
      obtain ⟨g1, hf⟩ := gd_e hf
      refine g_R hx hb hts hown hK X o0 hN g1 fl_X12_35 (by decide) rfl (by decide) dX12_sumOfWords_14 ?_
      refine lv_iconst (v := (2 : Int32)) hx hb dX12_sumOfWords_17 (by decide) ?_
      refine lv_iload_n hx hb dX12_sumOfWords_18 rfl (lv_at hl 2 rfl) ?_
      refine lv_imul hx hb dX12_sumOfWords_19 ?_
      obtain ⟨g2, hf⟩ := gd_e hf
      refine g_ia hx hb hK X g1 hN g2 (by decide) dX12_sumOfWords_20 ?_
      refine lv_aload_n hx hb dX12_sumOfWords_21 rfl (lv_at hl 0 rfl) ?_
      obtain ⟨g3, hf⟩ := gd_e hf
      refine g_R hx hb hts hown hK X o0 hN g3 fl_X12_35 (by decide) rfl (by decide) dX12_sumOfWords_22 ?_
      refine lv_iconst (v := (2 : Int32)) hx hb dX12_sumOfWords_25 (by decide) ?_
      refine lv_iload_n hx hb dX12_sumOfWords_26 rfl (lv_at hl 2 rfl) ?_
      refine lv_imul hx hb dX12_sumOfWords_27 ?_
      refine lv_iconst (v := (1 : Int32)) hx hb dX12_sumOfWords_28 (by decide) ?_
      refine lv_iadd hx hb dX12_sumOfWords_29 ?_
      obtain ⟨g4, hf⟩ := gd_e hf
      refine g_ia hx hb hK X g3 hN g4 (by decide) dX12_sumOfWords_30 ?_
      obtain ⟨r5, h6, q7, hf⟩ := bd_e hf
      refine c_S0 (As := [.int (h.1 (h.2 x0 13) ((2 : Int32) * x2).toNatClampNeg), .int (h.1 (h.2 x0 13) (((2 : Int32) * x2) + (1 : Int32)).toNatClampNeg)]) (rest := [.int x1]) (st1 := [.int r5, .int x1]) hx hb hml hown hts hK X (k_X12_counts l G n hN q7) lc_X12_counts ls_X12_146 (by decide) rfl hl.1 (Nat.le_of_ble_eq_true rfl) dX12_sumOfWords_31 rfl (fun H locs X => ?_)
      refine lv_iadd hx hb dX12_sumOfWords_34 ?_
      refine lv_istore_n (lv' := [(1, .int (x1 + r5)), (0, .ref (bs G + x0)), (2, .int x2)]) hx hb dX12_sumOfWords_35 rfl hl (by decide) rfl (fun ls hl => ?_)
      refine lv_iinc (v := (x2 + (1 : Int32))) (lv' := [(2, .int (x2 + (1 : Int32))), (1, .int (x1 + r5)), (0, .ref (bs G + x0))]) hx hb dX12_sumOfWords_36 hl (k := 2) rfl rfl (by decide) rfl (fun ls hl => ?_)
      refine lv_goto (tgt := 4) hx hb dX12_sumOfWords_39 (by decide) ?_
      exact ih X (lv_sub hl [2, 1, 0] rfl) o0 hf
theorem k_X12_sumOfWords (l : Launch) (G : GG) (n : Nat) (hN : NT ≤ n) {h h' : Hp} {x0 : Nat} {rv : Int32} (hf : f_X12_sumOfWords h x0 = some (rv, h')) : CT l G n n yX12_sumOfWords (.code yX12_sumOfWords bX12_sumOfWords 3 (some .int)) 1 0 0 [.ref (bs G + x0)] h h' (some (.int rv)) := by
  refine ct_of (maxL := 3) (ret := (some .int)) (bytes := bX12_sumOfWords) (by decide) (Nat.le_of_ble_eq_true rfl) (fun p e s m below meth c C0 X ls hl => ?_)
  have hl : lv_has ls 3 [(0, .ref (bs G + x0))] := hl
  obtain ⟨hx, hb, hr, hml, hown, hts, hK, hlocks, hnm⟩ := id C0
  unfold f_X12_sumOfWords at hf
  obtain ⟨o0, hf⟩ := gd_e hf
  refine lv_iconst (v := (0 : Int32)) hx hb dX12_sumOfWords_0 (by decide) ?_
  refine lv_istore_n (lv' := [(1, .int (0 : Int32)), (0, .ref (bs G + x0))]) hx hb dX12_sumOfWords_1 rfl hl (by decide) rfl (fun ls hl => ?_)
  refine lv_iconst (v := (0 : Int32)) hx hb dX12_sumOfWords_2 (by decide) ?_
  refine lv_istore_n (lv' := [(2, .int (0 : Int32)), (1, .int (0 : Int32)), (0, .ref (bs G + x0))]) hx hb dX12_sumOfWords_3 rfl hl (by decide) rfl (fun ls hl => ?_)
  exact j_X12_sumOfWords_4 C0 hN FU X (lv_sub hl [2, 1, 0] rfl) o0 hf
end
theorem dX12_priceOfWords_0 : decode bX12_priceOfWords 0 = .ok (.iconst 0, 1) := by decide +kernel
theorem dX12_priceOfWords_1 : decode bX12_priceOfWords 1 = .ok (.istore_n 1, 1) := by decide +kernel
theorem dX12_priceOfWords_2 : decode bX12_priceOfWords 2 = .ok (.iconst 0, 1) := by decide +kernel
theorem dX12_priceOfWords_3 : decode bX12_priceOfWords 3 = .ok (.istore_n 2, 1) := by decide +kernel
theorem dX12_priceOfWords_4 : decode bX12_priceOfWords 4 = .ok (.iload_n 2, 1) := by decide +kernel
theorem dX12_priceOfWords_5 : decode bX12_priceOfWords 5 = .ok (.aload_n 0, 1) := by decide +kernel
theorem dX12_priceOfWords_6 : decode bX12_priceOfWords 6 = .ok (.getfield 113, 3) := by decide +kernel
theorem dX12_priceOfWords_9 : decode bX12_priceOfWords 9 = .ok (.if_icmp .ge 34, 3) := by decide +kernel
theorem dX12_priceOfWords_12 : decode bX12_priceOfWords 12 = .ok (.iload_n 1, 1) := by decide +kernel
theorem dX12_priceOfWords_13 : decode bX12_priceOfWords 13 = .ok (.aload_n 0, 1) := by decide +kernel
theorem dX12_priceOfWords_14 : decode bX12_priceOfWords 14 = .ok (.aload_n 0, 1) := by decide +kernel
theorem dX12_priceOfWords_15 : decode bX12_priceOfWords 15 = .ok (.getfield 35, 3) := by decide +kernel
theorem dX12_priceOfWords_18 : decode bX12_priceOfWords 18 = .ok (.iconst 2, 1) := by decide +kernel
theorem dX12_priceOfWords_19 : decode bX12_priceOfWords 19 = .ok (.iload_n 2, 1) := by decide +kernel
theorem dX12_priceOfWords_20 : decode bX12_priceOfWords 20 = .ok (.imul, 1) := by decide +kernel
theorem dX12_priceOfWords_21 : decode bX12_priceOfWords 21 = .ok (.iaload, 1) := by decide +kernel
theorem dX12_priceOfWords_22 : decode bX12_priceOfWords 22 = .ok (.aload_n 0, 1) := by decide +kernel
theorem dX12_priceOfWords_23 : decode bX12_priceOfWords 23 = .ok (.getfield 35, 3) := by decide +kernel
theorem dX12_priceOfWords_26 : decode bX12_priceOfWords 26 = .ok (.iconst 2, 1) := by decide +kernel
theorem dX12_priceOfWords_27 : decode bX12_priceOfWords 27 = .ok (.iload_n 2, 1) := by decide +kernel
theorem dX12_priceOfWords_28 : decode bX12_priceOfWords 28 = .ok (.imul, 1) := by decide +kernel
theorem dX12_priceOfWords_29 : decode bX12_priceOfWords 29 = .ok (.iconst 1, 1) := by decide +kernel
theorem dX12_priceOfWords_30 : decode bX12_priceOfWords 30 = .ok (.iadd, 1) := by decide +kernel
theorem dX12_priceOfWords_31 : decode bX12_priceOfWords 31 = .ok (.iaload, 1) := by decide +kernel
theorem dX12_priceOfWords_32 : decode bX12_priceOfWords 32 = .ok (.invokevirtual 150, 3) := by decide +kernel
theorem dX12_priceOfWords_35 : decode bX12_priceOfWords 35 = .ok (.iadd, 1) := by decide +kernel
theorem dX12_priceOfWords_36 : decode bX12_priceOfWords 36 = .ok (.istore_n 1, 1) := by decide +kernel
theorem dX12_priceOfWords_37 : decode bX12_priceOfWords 37 = .ok (.iinc 2 1, 3) := by decide +kernel
theorem dX12_priceOfWords_40 : decode bX12_priceOfWords 40 = .ok (.goto (-36), 3) := by decide +kernel
theorem dX12_priceOfWords_43 : decode bX12_priceOfWords 43 = .ok (.iload_n 1, 1) := by decide +kernel
theorem dX12_priceOfWords_44 : decode bX12_priceOfWords 44 = .ok (.ireturn, 1) := by decide +kernel
section
variable {p : Program} {l : Launch} {e : Env} {s : State} {m : MethodId} {args : Array Value} {below : List Frame} {meth : Method} {c : Code} {G : GG} {n : Nat} {h' : Hp} {rv : Int32}
set_option maxHeartbeats 4000000
set_option maxRecDepth 100000
theorem j_X12_priceOfWords_4 (C0 : Cx p s m args meth c G bX12_priceOfWords RX12 3 (some .int) "priceOfWords") (hN : NT ≤ n) : ∀ (fu : Nat), ∀ {H : Heap} {locs : List Loc} {ls : Array Slot} {h : Hp} {x0 : Nat} {x1 : Int32} {x2 : Int32}, XW G n h s 0 H locs → lv_has ls 3 [(0, .ref (bs G + x0)), (1, .int x1), (2, .int x2)] → kd x0 = 12 → f_X12_priceOfWords_4 fu h x0 x1 x2 = some (rv, h') → W p l e (rmC 1 0 0) s m args below meth c H locs 0 0 (MQ below (QP G n h' (some (.int rv))) args s 0 0 (Ab G)) (F0 m 4 ls []) := by
  obtain ⟨hx, hb, hr, hml, hown, hts, hK, hlocks, hnm⟩ := id C0
  intro fu
  induction fu with
  | zero => intro H locs ls h x0 x1 x2 X hl o0 hf; cases hf
  | succ fu ih =>
    intro H locs ls h x0 x1 x2 X hl o0 hf
    rw [f_X12_priceOfWords_4] at hf
    refine lv_iload_n hx hb dX12_priceOfWords_4 rfl (lv_at hl 2 rfl) ?_
    refine lv_aload_n hx hb dX12_priceOfWords_5 rfl (lv_at hl 0 rfl) ?_
    refine g_I hx hb hts hown hK X o0 hN fl_X12_113 (by decide) rfl dX12_priceOfWords_6 ?_
    refine lv_icmp_ge (tgt := 43) hx hb dX12_priceOfWords_9 (by decide) (fun c9 => ?_) (fun c9 => ?_)
    · have hf := ite_t hf c9
      refine lv_iload_n hx hb dX12_priceOfWords_43 rfl (lv_at hl 1 rfl) ?_
      exact r_I hx hb hr hlocks X hf dX12_priceOfWords_44
    · have hf := ite_f hf c9
      refine lv_iload_n hx hb dX12_priceOfWords_12 rfl (lv_at hl 1 rfl) ?_
      refine lv_aload_n hx hb dX12_priceOfWords_13 rfl (lv_at hl 0 rfl) ?_
      refine lv_aload_n hx hb dX12_priceOfWords_14 rfl (lv_at hl 0 rfl) ?_
      obtain ⟨g1, hf⟩ := gd_e hf
      refine g_R hx hb hts hown hK X o0 hN g1 fl_X12_35 (by decide) rfl (by decide) dX12_priceOfWords_15 ?_
      refine lv_iconst (v := (2 : Int32)) hx hb dX12_priceOfWords_18 (by decide) ?_
      refine lv_iload_n hx hb dX12_priceOfWords_19 rfl (lv_at hl 2 rfl) ?_
      refine lv_imul hx hb dX12_priceOfWords_20 ?_
      obtain ⟨g2, hf⟩ := gd_e hf
      refine g_ia hx hb hK X g1 hN g2 (by decide) dX12_priceOfWords_21 ?_
      refine lv_aload_n hx hb dX12_priceOfWords_22 rfl (lv_at hl 0 rfl) ?_
      obtain ⟨g3, hf⟩ := gd_e hf
      refine g_R hx hb hts hown hK X o0 hN g3 fl_X12_35 (by decide) rfl (by decide) dX12_priceOfWords_23 ?_
      refine lv_iconst (v := (2 : Int32)) hx hb dX12_priceOfWords_26 (by decide) ?_
      refine lv_iload_n hx hb dX12_priceOfWords_27 rfl (lv_at hl 2 rfl) ?_
      refine lv_imul hx hb dX12_priceOfWords_28 ?_
      refine lv_iconst (v := (1 : Int32)) hx hb dX12_priceOfWords_29 (by decide) ?_
      refine lv_iadd hx hb dX12_priceOfWords_30 ?_
      obtain ⟨g4, hf⟩ := gd_e hf
      refine g_ia hx hb hK X g3 hN g4 (by decide) dX12_priceOfWords_31 ?_
      obtain ⟨r5, h6, q7, hf⟩ := bd_e hf
      refine c_V0 (As := [.int (h.1 (h.2 x0 13) ((2 : Int32) * x2).toNatClampNeg), .int (h.1 (h.2 x0 13) (((2 : Int32) * x2) + (1 : Int32)).toNatClampNeg)]) (rest := [.int x1]) (st1 := [.int r5, .int x1]) hx hb hml hown hts hK X (k_X12_priceOf l G n hN q7) o0 hN lc_X12_priceOf lv_X12_150 (ci := 12) rfl rfl (by decide) rfl hl.1 (Nat.le_of_ble_eq_true rfl) dX12_priceOfWords_32 rfl (fun H locs X => ?_)
      refine lv_iadd hx hb dX12_priceOfWords_35 ?_
      refine lv_istore_n (lv' := [(1, .int (x1 + r5)), (0, .ref (bs G + x0)), (2, .int x2)]) hx hb dX12_priceOfWords_36 rfl hl (by decide) rfl (fun ls hl => ?_)
      refine lv_iinc (v := (x2 + (1 : Int32))) (lv' := [(2, .int (x2 + (1 : Int32))), (1, .int (x1 + r5)), (0, .ref (bs G + x0))]) hx hb dX12_priceOfWords_37 hl (k := 2) rfl rfl (by decide) rfl (fun ls hl => ?_)
      refine lv_goto (tgt := 4) hx hb dX12_priceOfWords_40 (by decide) ?_
      exact ih X (lv_sub hl [2, 1, 0] rfl) o0 hf
theorem k_X12_priceOfWords (l : Launch) (G : GG) (n : Nat) (hN : NT ≤ n) {h h' : Hp} {x0 : Nat} {rv : Int32} (hf : f_X12_priceOfWords h x0 = some (rv, h')) : CT l G n n yX12_priceOfWords (.code yX12_priceOfWords bX12_priceOfWords 3 (some .int)) 1 0 0 [.ref (bs G + x0)] h h' (some (.int rv)) := by
  refine ct_of (maxL := 3) (ret := (some .int)) (bytes := bX12_priceOfWords) (by decide) (Nat.le_of_ble_eq_true rfl) (fun p e s m below meth c C0 X ls hl => ?_)
  have hl : lv_has ls 3 [(0, .ref (bs G + x0))] := hl
  obtain ⟨hx, hb, hr, hml, hown, hts, hK, hlocks, hnm⟩ := id C0
  unfold f_X12_priceOfWords at hf
  obtain ⟨o0, hf⟩ := gd_e hf
  refine lv_iconst (v := (0 : Int32)) hx hb dX12_priceOfWords_0 (by decide) ?_
  refine lv_istore_n (lv' := [(1, .int (0 : Int32)), (0, .ref (bs G + x0))]) hx hb dX12_priceOfWords_1 rfl hl (by decide) rfl (fun ls hl => ?_)
  refine lv_iconst (v := (0 : Int32)) hx hb dX12_priceOfWords_2 (by decide) ?_
  refine lv_istore_n (lv' := [(2, .int (0 : Int32)), (1, .int (0 : Int32)), (0, .ref (bs G + x0))]) hx hb dX12_priceOfWords_3 rfl hl (by decide) rfl (fun ls hl => ?_)
  exact j_X12_priceOfWords_4 C0 hN FU X (lv_sub hl [2, 1, 0] rfl) o0 hf
end
theorem dX12_isSaying_0 : decode bX12_isSaying 0 = .ok (.aload_n 0, 1) := by decide +kernel
theorem dX12_isSaying_1 : decode bX12_isSaying 1 = .ok (.getfield 13, 3) := by decide +kernel
theorem dX12_isSaying_4 : decode bX12_isSaying 4 = .ok (.iconst 2, 1) := by decide +kernel
theorem dX12_isSaying_5 : decode bX12_isSaying 5 = .ok (.iaload, 1) := by decide +kernel
theorem dX12_isSaying_6 : decode bX12_isSaying 6 = .ok (.istore_n 1, 1) := by decide +kernel
theorem dX12_isSaying_7 : decode bX12_isSaying 7 = .ok (.aload_n 0, 1) := by decide +kernel
theorem dX12_isSaying_8 : decode bX12_isSaying 8 = .ok (.getfield 113, 3) := by decide +kernel
theorem dX12_isSaying_11 : decode bX12_isSaying 11 = .ok (.ifCond .le 19, 3) := by decide +kernel
theorem dX12_isSaying_14 : decode bX12_isSaying 14 = .ok (.iload_n 1, 1) := by decide +kernel
theorem dX12_isSaying_15 : decode bX12_isSaying 15 = .ok (.ifCond .ne 11, 3) := by decide +kernel
theorem dX12_isSaying_18 : decode bX12_isSaying 18 = .ok (.aload_n 0, 1) := by decide +kernel
theorem dX12_isSaying_19 : decode bX12_isSaying 19 = .ok (.getfield 113, 3) := by decide +kernel
theorem dX12_isSaying_22 : decode bX12_isSaying 22 = .ok (.iconst 1, 1) := by decide +kernel
theorem dX12_isSaying_23 : decode bX12_isSaying 23 = .ok (.if_icmp .ne 7, 3) := by decide +kernel
theorem dX12_isSaying_26 : decode bX12_isSaying 26 = .ok (.iconst 1, 1) := by decide +kernel
theorem dX12_isSaying_27 : decode bX12_isSaying 27 = .ok (.goto 4, 3) := by decide +kernel
theorem dX12_isSaying_30 : decode bX12_isSaying 30 = .ok (.iconst 0, 1) := by decide +kernel
theorem dX12_isSaying_31 : decode bX12_isSaying 31 = .ok (.istore_n 2, 1) := by decide +kernel
theorem dX12_isSaying_32 : decode bX12_isSaying 32 = .ok (.iconst 0, 1) := by decide +kernel
theorem dX12_isSaying_33 : decode bX12_isSaying 33 = .ok (.istore_n 3, 1) := by decide +kernel
theorem dX12_isSaying_34 : decode bX12_isSaying 34 = .ok (.iload_n 3, 1) := by decide +kernel
theorem dX12_isSaying_35 : decode bX12_isSaying 35 = .ok (.aload_n 0, 1) := by decide +kernel
theorem dX12_isSaying_36 : decode bX12_isSaying 36 = .ok (.getfield 113, 3) := by decide +kernel
theorem dX12_isSaying_39 : decode bX12_isSaying 39 = .ok (.if_icmp .ge 59, 3) := by decide +kernel
theorem dX12_isSaying_42 : decode bX12_isSaying 42 = .ok (.aload_n 0, 1) := by decide +kernel
theorem dX12_isSaying_43 : decode bX12_isSaying 43 = .ok (.getfield 35, 3) := by decide +kernel
theorem dX12_isSaying_46 : decode bX12_isSaying 46 = .ok (.iconst 2, 1) := by decide +kernel
theorem dX12_isSaying_47 : decode bX12_isSaying 47 = .ok (.iload_n 3, 1) := by decide +kernel
theorem dX12_isSaying_48 : decode bX12_isSaying 48 = .ok (.imul, 1) := by decide +kernel
theorem dX12_isSaying_49 : decode bX12_isSaying 49 = .ok (.iconst 1, 1) := by decide +kernel
theorem dX12_isSaying_50 : decode bX12_isSaying 50 = .ok (.iadd, 1) := by decide +kernel
theorem dX12_isSaying_51 : decode bX12_isSaying 51 = .ok (.iaload, 1) := by decide +kernel
theorem dX12_isSaying_52 : decode bX12_isSaying 52 = .ok (.istore 4, 2) := by decide +kernel
theorem dX12_isSaying_54 : decode bX12_isSaying 54 = .ok (.iload_n 2, 1) := by decide +kernel
theorem dX12_isSaying_55 : decode bX12_isSaying 55 = .ok (.ifCond .eq 35, 3) := by decide +kernel
theorem dX12_isSaying_58 : decode bX12_isSaying 58 = .ok (.iload 4, 2) := by decide +kernel
theorem dX12_isSaying_60 : decode bX12_isSaying 60 = .ok (.iconst 1, 1) := by decide +kernel
theorem dX12_isSaying_61 : decode bX12_isSaying 61 = .ok (.if_icmp .eq 25, 3) := by decide +kernel
theorem dX12_isSaying_64 : decode bX12_isSaying 64 = .ok (.iload 4, 2) := by decide +kernel
theorem dX12_isSaying_66 : decode bX12_isSaying 66 = .ok (.iconst 2, 1) := by decide +kernel
theorem dX12_isSaying_67 : decode bX12_isSaying 67 = .ok (.if_icmp .ne 8, 3) := by decide +kernel
theorem dX12_isSaying_70 : decode bX12_isSaying 70 = .ok (.iload_n 1, 1) := by decide +kernel
theorem dX12_isSaying_71 : decode bX12_isSaying 71 = .ok (.iconst 2, 1) := by decide +kernel
theorem dX12_isSaying_72 : decode bX12_isSaying 72 = .ok (.if_icmp .ge 14, 3) := by decide +kernel
theorem dX12_isSaying_75 : decode bX12_isSaying 75 = .ok (.iload 4, 2) := by decide +kernel
theorem dX12_isSaying_77 : decode bX12_isSaying 77 = .ok (.iconst 3, 1) := by decide +kernel
theorem dX12_isSaying_78 : decode bX12_isSaying 78 = .ok (.if_icmp .ne 12, 3) := by decide +kernel
theorem dX12_isSaying_81 : decode bX12_isSaying 81 = .ok (.iload_n 1, 1) := by decide +kernel
theorem dX12_isSaying_82 : decode bX12_isSaying 82 = .ok (.iconst 3, 1) := by decide +kernel
theorem dX12_isSaying_83 : decode bX12_isSaying 83 = .ok (.if_icmp .ne 7, 3) := by decide +kernel
theorem dX12_isSaying_86 : decode bX12_isSaying 86 = .ok (.iconst 1, 1) := by decide +kernel
theorem dX12_isSaying_87 : decode bX12_isSaying 87 = .ok (.goto 4, 3) := by decide +kernel
theorem dX12_isSaying_90 : decode bX12_isSaying 90 = .ok (.iconst 0, 1) := by decide +kernel
theorem dX12_isSaying_91 : decode bX12_isSaying 91 = .ok (.istore_n 2, 1) := by decide +kernel
theorem dX12_isSaying_92 : decode bX12_isSaying 92 = .ok (.iinc 3 1, 3) := by decide +kernel
theorem dX12_isSaying_95 : decode bX12_isSaying 95 = .ok (.goto (-61), 3) := by decide +kernel
theorem dX12_isSaying_98 : decode bX12_isSaying 98 = .ok (.iload_n 2, 1) := by decide +kernel
theorem dX12_isSaying_99 : decode bX12_isSaying 99 = .ok (.ireturn, 1) := by decide +kernel
section
variable {p : Program} {l : Launch} {e : Env} {s : State} {m : MethodId} {args : Array Value} {below : List Frame} {meth : Method} {c : Code} {G : GG} {n : Nat} {h' : Hp} {rv : Int32}
set_option maxHeartbeats 4000000
set_option maxRecDepth 100000
theorem j_X12_isSaying_75 (C0 : Cx p s m args meth c G bX12_isSaying RX12 5 (some .boolean) "isSaying") (hN : NT ≤ n) {k34 : Hp → Nat → Int32 → Int32 → Int32 → Option (Int32 × Hp)} (ih34 : ∀ {H : Heap} {locs : List Loc} {ls : Array Slot} {h : Hp} {x0 : Nat} {x1 : Int32} {x2 : Int32} {x3 : Int32}, XW G n h s 0 H locs → lv_has ls 5 [(0, .ref (bs G + x0)), (1, .int x1), (2, .int x2), (3, .int x3)] → kd x0 = 12 → k34 h x0 x1 x2 x3 = some (rv, h') → W p l e (rmC 0 0 0) s m args below meth c H locs 0 0 (MQ below (QP G n h' (some (.int rv))) args s 0 0 (Ab G)) (F0 m 34 ls [])) {H : Heap} {locs : List Loc} {ls : Array Slot} {h : Hp} {x0 : Nat} {x1 : Int32} {x3 : Int32} {x4 : Int32} (X : XW G n h s 0 H locs) (hl : lv_has ls 5 [(0, .ref (bs G + x0)), (1, .int x1), (3, .int x3), (4, .int x4)]) (o0 : kd x0 = 12) (hf : f_X12_isSaying_75 k34 h x0 x1 x3 x4 = some (rv, h')) : W p l e (rmC 0 0 0) s m args below meth c H locs 0 0 (MQ below (QP G n h' (some (.int rv))) args s 0 0 (Ab G)) (F0 m 75 ls []) := by
  obtain ⟨hx, hb, hr, hml, hown, hts, hK, hlocks, hnm⟩ := id C0
  unfold f_X12_isSaying_75 at hf
  refine lv_iload hx hb dX12_isSaying_75 (lv_at hl 3 rfl) ?_
  refine lv_iconst (v := (3 : Int32)) hx hb dX12_isSaying_77 (by decide) ?_
  refine lv_icmp_ne (tgt := 90) hx hb dX12_isSaying_78 (by decide) (fun c78 => ?_) (fun c78 => ?_)
  · have hf := ite_f hf c78
    refine lv_iconst (v := (0 : Int32)) hx hb dX12_isSaying_90 (by decide) ?_
    refine lv_istore_n (lv' := [(2, .int (0 : Int32)), (0, .ref (bs G + x0)), (1, .int x1), (3, .int x3), (4, .int x4)]) hx hb dX12_isSaying_91 rfl hl (by decide) rfl (fun ls hl => ?_)
    refine lv_iinc (v := (x3 + (1 : Int32))) (lv' := [(3, .int (x3 + (1 : Int32))), (2, .int (0 : Int32)), (0, .ref (bs G + x0)), (1, .int x1), (4, .int x4)]) hx hb dX12_isSaying_92 hl (k := 3) rfl rfl (by decide) rfl (fun ls hl => ?_)
    refine lv_goto (tgt := 34) hx hb dX12_isSaying_95 (by decide) ?_
    exact ih34 X (lv_sub hl [2, 3, 1, 0] rfl) o0 hf
  · have hf := ite_t hf c78
    refine lv_iload_n hx hb dX12_isSaying_81 rfl (lv_at hl 1 rfl) ?_
    refine lv_iconst (v := (3 : Int32)) hx hb dX12_isSaying_82 (by decide) ?_
    refine lv_icmp_ne (tgt := 90) hx hb dX12_isSaying_83 (by decide) (fun c83 => ?_) (fun c83 => ?_)
    · have hf := ite_f hf c83
      refine lv_iconst (v := (0 : Int32)) hx hb dX12_isSaying_90 (by decide) ?_
      refine lv_istore_n (lv' := [(2, .int (0 : Int32)), (0, .ref (bs G + x0)), (1, .int x1), (3, .int x3), (4, .int x4)]) hx hb dX12_isSaying_91 rfl hl (by decide) rfl (fun ls hl => ?_)
      refine lv_iinc (v := (x3 + (1 : Int32))) (lv' := [(3, .int (x3 + (1 : Int32))), (2, .int (0 : Int32)), (0, .ref (bs G + x0)), (1, .int x1), (4, .int x4)]) hx hb dX12_isSaying_92 hl (k := 3) rfl rfl (by decide) rfl (fun ls hl => ?_)
      refine lv_goto (tgt := 34) hx hb dX12_isSaying_95 (by decide) ?_
      exact ih34 X (lv_sub hl [2, 3, 1, 0] rfl) o0 hf
    · have hf := ite_t hf c83
      refine lv_iconst (v := (1 : Int32)) hx hb dX12_isSaying_86 (by decide) ?_
      refine lv_goto (tgt := 91) hx hb dX12_isSaying_87 (by decide) ?_
      refine lv_istore_n (lv' := [(2, .int (1 : Int32)), (0, .ref (bs G + x0)), (1, .int x1), (3, .int x3), (4, .int x4)]) hx hb dX12_isSaying_91 rfl hl (by decide) rfl (fun ls hl => ?_)
      refine lv_iinc (v := (x3 + (1 : Int32))) (lv' := [(3, .int (x3 + (1 : Int32))), (2, .int (1 : Int32)), (0, .ref (bs G + x0)), (1, .int x1), (4, .int x4)]) hx hb dX12_isSaying_92 hl (k := 3) rfl rfl (by decide) rfl (fun ls hl => ?_)
      refine lv_goto (tgt := 34) hx hb dX12_isSaying_95 (by decide) ?_
      exact ih34 X (lv_sub hl [2, 3, 1, 0] rfl) o0 hf
theorem j_X12_isSaying_34 (C0 : Cx p s m args meth c G bX12_isSaying RX12 5 (some .boolean) "isSaying") (hN : NT ≤ n) : ∀ (fu : Nat), ∀ {H : Heap} {locs : List Loc} {ls : Array Slot} {h : Hp} {x0 : Nat} {x1 : Int32} {x2 : Int32} {x3 : Int32}, XW G n h s 0 H locs → lv_has ls 5 [(0, .ref (bs G + x0)), (1, .int x1), (2, .int x2), (3, .int x3)] → kd x0 = 12 → f_X12_isSaying_34 fu h x0 x1 x2 x3 = some (rv, h') → W p l e (rmC 0 0 0) s m args below meth c H locs 0 0 (MQ below (QP G n h' (some (.int rv))) args s 0 0 (Ab G)) (F0 m 34 ls []) := by
  obtain ⟨hx, hb, hr, hml, hown, hts, hK, hlocks, hnm⟩ := id C0
  intro fu
  induction fu with
  | zero => intro H locs ls h x0 x1 x2 x3 X hl o0 hf; cases hf
  | succ fu ih =>
    intro H locs ls h x0 x1 x2 x3 X hl o0 hf
    rw [f_X12_isSaying_34] at hf
    refine lv_iload_n hx hb dX12_isSaying_34 rfl (lv_at hl 3 rfl) ?_
    refine lv_aload_n hx hb dX12_isSaying_35 rfl (lv_at hl 0 rfl) ?_
    refine g_I hx hb hts hown hK X o0 hN fl_X12_113 (by decide) rfl dX12_isSaying_36 ?_
    refine lv_icmp_ge (tgt := 98) hx hb dX12_isSaying_39 (by decide) (fun c39 => ?_) (fun c39 => ?_)
    · have hf := ite_t hf c39
      refine lv_iload_n hx hb dX12_isSaying_98 rfl (lv_at hl 2 rfl) ?_
      obtain ⟨g1, hf⟩ := gd_e hf
      exact r_Z hx hb hr hlocks X (z_ok g1).1 hf dX12_isSaying_99
    · have hf := ite_f hf c39
      refine lv_aload_n hx hb dX12_isSaying_42 rfl (lv_at hl 0 rfl) ?_
      obtain ⟨g2, hf⟩ := gd_e hf
      refine g_R hx hb hts hown hK X o0 hN g2 fl_X12_35 (by decide) rfl (by decide) dX12_isSaying_43 ?_
      refine lv_iconst (v := (2 : Int32)) hx hb dX12_isSaying_46 (by decide) ?_
      refine lv_iload_n hx hb dX12_isSaying_47 rfl (lv_at hl 3 rfl) ?_
      refine lv_imul hx hb dX12_isSaying_48 ?_
      refine lv_iconst (v := (1 : Int32)) hx hb dX12_isSaying_49 (by decide) ?_
      refine lv_iadd hx hb dX12_isSaying_50 ?_
      obtain ⟨g3, hf⟩ := gd_e hf
      refine g_ia hx hb hK X g2 hN g3 (by decide) dX12_isSaying_51 ?_
      refine lv_istore (lv' := [(4, .int (h.1 (h.2 x0 13) (((2 : Int32) * x3) + (1 : Int32)).toNatClampNeg)), (0, .ref (bs G + x0)), (1, .int x1), (2, .int x2), (3, .int x3)]) hx hb dX12_isSaying_52 hl (by decide) rfl (fun ls hl => ?_)
      refine lv_iload_n hx hb dX12_isSaying_54 rfl (lv_at hl 3 rfl) ?_
      refine lv_if_eq (tgt := 90) hx hb dX12_isSaying_55 (by decide) (fun c55 => ?_) (fun c55 => ?_)
      · have hf := ite_t hf c55
        refine lv_iconst (v := (0 : Int32)) hx hb dX12_isSaying_90 (by decide) ?_
        refine lv_istore_n (lv' := [(2, .int (0 : Int32)), (4, .int (h.1 (h.2 x0 13) (((2 : Int32) * x3) + (1 : Int32)).toNatClampNeg)), (0, .ref (bs G + x0)), (1, .int x1), (3, .int x3)]) hx hb dX12_isSaying_91 rfl hl (by decide) rfl (fun ls hl => ?_)
        refine lv_iinc (v := (x3 + (1 : Int32))) (lv' := [(3, .int (x3 + (1 : Int32))), (2, .int (0 : Int32)), (4, .int (h.1 (h.2 x0 13) (((2 : Int32) * x3) + (1 : Int32)).toNatClampNeg)), (0, .ref (bs G + x0)), (1, .int x1)]) hx hb dX12_isSaying_92 hl (k := 4) rfl rfl (by decide) rfl (fun ls hl => ?_)
        refine lv_goto (tgt := 34) hx hb dX12_isSaying_95 (by decide) ?_
        exact ih X (lv_sub hl [3, 4, 1, 0] rfl) o0 hf
      · have hf := ite_f hf c55
        refine lv_iload hx hb dX12_isSaying_58 (lv_at hl 0 rfl) ?_
        refine lv_iconst (v := (1 : Int32)) hx hb dX12_isSaying_60 (by decide) ?_
        refine lv_icmp_eq (tgt := 86) hx hb dX12_isSaying_61 (by decide) (fun c61 => ?_) (fun c61 => ?_)
        · have hf := ite_t hf c61
          refine lv_iconst (v := (1 : Int32)) hx hb dX12_isSaying_86 (by decide) ?_
          refine lv_goto (tgt := 91) hx hb dX12_isSaying_87 (by decide) ?_
          refine lv_istore_n (lv' := [(2, .int (1 : Int32)), (4, .int (h.1 (h.2 x0 13) (((2 : Int32) * x3) + (1 : Int32)).toNatClampNeg)), (0, .ref (bs G + x0)), (1, .int x1), (3, .int x3)]) hx hb dX12_isSaying_91 rfl hl (by decide) rfl (fun ls hl => ?_)
          refine lv_iinc (v := (x3 + (1 : Int32))) (lv' := [(3, .int (x3 + (1 : Int32))), (2, .int (1 : Int32)), (4, .int (h.1 (h.2 x0 13) (((2 : Int32) * x3) + (1 : Int32)).toNatClampNeg)), (0, .ref (bs G + x0)), (1, .int x1)]) hx hb dX12_isSaying_92 hl (k := 4) rfl rfl (by decide) rfl (fun ls hl => ?_)
          refine lv_goto (tgt := 34) hx hb dX12_isSaying_95 (by decide) ?_
          exact ih X (lv_sub hl [3, 4, 1, 0] rfl) o0 hf
        · have hf := ite_f hf c61
          refine lv_iload hx hb dX12_isSaying_64 (lv_at hl 0 rfl) ?_
          refine lv_iconst (v := (2 : Int32)) hx hb dX12_isSaying_66 (by decide) ?_
          refine lv_icmp_ne (tgt := 75) hx hb dX12_isSaying_67 (by decide) (fun c67 => ?_) (fun c67 => ?_)
          · have hf := ite_f hf c67
            exact j_X12_isSaying_75 C0 hN @ih X (lv_sub hl [1, 2, 4, 0] rfl) o0 hf
          · have hf := ite_t hf c67
            refine lv_iload_n hx hb dX12_isSaying_70 rfl (lv_at hl 2 rfl) ?_
            refine lv_iconst (v := (2 : Int32)) hx hb dX12_isSaying_71 (by decide) ?_
            refine lv_icmp_ge (tgt := 86) hx hb dX12_isSaying_72 (by decide) (fun c72 => ?_) (fun c72 => ?_)
            · have hf := ite_t hf c72
              refine lv_iconst (v := (1 : Int32)) hx hb dX12_isSaying_86 (by decide) ?_
              refine lv_goto (tgt := 91) hx hb dX12_isSaying_87 (by decide) ?_
              refine lv_istore_n (lv' := [(2, .int (1 : Int32)), (4, .int (h.1 (h.2 x0 13) (((2 : Int32) * x3) + (1 : Int32)).toNatClampNeg)), (0, .ref (bs G + x0)), (1, .int x1), (3, .int x3)]) hx hb dX12_isSaying_91 rfl hl (by decide) rfl (fun ls hl => ?_)
              refine lv_iinc (v := (x3 + (1 : Int32))) (lv' := [(3, .int (x3 + (1 : Int32))), (2, .int (1 : Int32)), (4, .int (h.1 (h.2 x0 13) (((2 : Int32) * x3) + (1 : Int32)).toNatClampNeg)), (0, .ref (bs G + x0)), (1, .int x1)]) hx hb dX12_isSaying_92 hl (k := 4) rfl rfl (by decide) rfl (fun ls hl => ?_)
              refine lv_goto (tgt := 34) hx hb dX12_isSaying_95 (by decide) ?_
              exact ih X (lv_sub hl [3, 4, 1, 0] rfl) o0 hf
            · have hf := ite_f hf c72
              exact j_X12_isSaying_75 C0 hN @ih X (lv_sub hl [1, 2, 4, 0] rfl) o0 hf
theorem k_X12_isSaying (l : Launch) (G : GG) (n : Nat) (hN : NT ≤ n) {h h' : Hp} {x0 : Nat} {rv : Int32} (hf : f_X12_isSaying h x0 = some (rv, h')) : CT l G n n yX12_isSaying (.code yX12_isSaying bX12_isSaying 5 (some .boolean)) 0 0 0 [.ref (bs G + x0)] h h' (some (.int rv)) := by
  refine ct_of (maxL := 5) (ret := (some .boolean)) (bytes := bX12_isSaying) (by decide) (Nat.le_of_ble_eq_true rfl) (fun p e s m below meth c C0 X ls hl => ?_)
  have hl : lv_has ls 5 [(0, .ref (bs G + x0))] := hl
  obtain ⟨hx, hb, hr, hml, hown, hts, hK, hlocks, hnm⟩ := id C0
  unfold f_X12_isSaying at hf
  obtain ⟨o0, hf⟩ := gd_e hf
  refine lv_aload_n hx hb dX12_isSaying_0 rfl (lv_at hl 0 rfl) ?_
  obtain ⟨g1, hf⟩ := gd_e hf
  refine g_R hx hb hts hown hK X o0 hN g1 fl_X12_13 (by decide) rfl (by decide) dX12_isSaying_1 ?_
  refine lv_iconst (v := (2 : Int32)) hx hb dX12_isSaying_4 (by decide) ?_
  obtain ⟨g2, hf⟩ := gd_e hf
  refine g_ia hx hb hK X g1 hN g2 (by decide) dX12_isSaying_5 ?_
  refine lv_istore_n (lv' := [(1, .int (h.1 (h.2 x0 1) (2 : Int32).toNatClampNeg)), (0, .ref (bs G + x0))]) hx hb dX12_isSaying_6 rfl hl (by decide) rfl (fun ls hl => ?_)
  refine lv_aload_n hx hb dX12_isSaying_7 rfl (lv_at hl 1 rfl) ?_
  refine g_I hx hb hts hown hK X o0 hN fl_X12_113 (by decide) rfl dX12_isSaying_8 ?_
  refine lv_if_le (tgt := 30) hx hb dX12_isSaying_11 (by decide) (fun c11 => ?_) (fun c11 => ?_)
  · have hf := ite_t hf c11
    refine lv_iconst (v := (0 : Int32)) hx hb dX12_isSaying_30 (by decide) ?_
    refine lv_istore_n (lv' := [(2, .int (0 : Int32)), (1, .int (h.1 (h.2 x0 1) (2 : Int32).toNatClampNeg)), (0, .ref (bs G + x0))]) hx hb dX12_isSaying_31 rfl hl (by decide) rfl (fun ls hl => ?_)
    refine lv_iconst (v := (0 : Int32)) hx hb dX12_isSaying_32 (by decide) ?_
    refine lv_istore_n (lv' := [(3, .int (0 : Int32)), (2, .int (0 : Int32)), (1, .int (h.1 (h.2 x0 1) (2 : Int32).toNatClampNeg)), (0, .ref (bs G + x0))]) hx hb dX12_isSaying_33 rfl hl (by decide) rfl (fun ls hl => ?_)
    exact j_X12_isSaying_34 C0 hN FU X (lv_sub hl [3, 2, 1, 0] rfl) o0 hf
  · have hf := ite_f hf c11
    refine lv_iload_n hx hb dX12_isSaying_14 rfl (lv_at hl 0 rfl) ?_
    refine lv_if_ne (tgt := 26) hx hb dX12_isSaying_15 (by decide) (fun c15 => ?_) (fun c15 => ?_)
    · have hf := ite_f hf c15
      refine lv_iconst (v := (1 : Int32)) hx hb dX12_isSaying_26 (by decide) ?_
      refine lv_goto (tgt := 31) hx hb dX12_isSaying_27 (by decide) ?_
      refine lv_istore_n (lv' := [(2, .int (1 : Int32)), (1, .int (h.1 (h.2 x0 1) (2 : Int32).toNatClampNeg)), (0, .ref (bs G + x0))]) hx hb dX12_isSaying_31 rfl hl (by decide) rfl (fun ls hl => ?_)
      refine lv_iconst (v := (0 : Int32)) hx hb dX12_isSaying_32 (by decide) ?_
      refine lv_istore_n (lv' := [(3, .int (0 : Int32)), (2, .int (1 : Int32)), (1, .int (h.1 (h.2 x0 1) (2 : Int32).toNatClampNeg)), (0, .ref (bs G + x0))]) hx hb dX12_isSaying_33 rfl hl (by decide) rfl (fun ls hl => ?_)
      exact j_X12_isSaying_34 C0 hN FU X (lv_sub hl [3, 2, 1, 0] rfl) o0 hf
    · have hf := ite_t hf c15
      refine lv_aload_n hx hb dX12_isSaying_18 rfl (lv_at hl 1 rfl) ?_
      refine g_I hx hb hts hown hK X o0 hN fl_X12_113 (by decide) rfl dX12_isSaying_19 ?_
      refine lv_iconst (v := (1 : Int32)) hx hb dX12_isSaying_22 (by decide) ?_
      refine lv_icmp_ne (tgt := 30) hx hb dX12_isSaying_23 (by decide) (fun c23 => ?_) (fun c23 => ?_)
      · have hf := ite_f hf c23
        refine lv_iconst (v := (0 : Int32)) hx hb dX12_isSaying_30 (by decide) ?_
        refine lv_istore_n (lv' := [(2, .int (0 : Int32)), (1, .int (h.1 (h.2 x0 1) (2 : Int32).toNatClampNeg)), (0, .ref (bs G + x0))]) hx hb dX12_isSaying_31 rfl hl (by decide) rfl (fun ls hl => ?_)
        refine lv_iconst (v := (0 : Int32)) hx hb dX12_isSaying_32 (by decide) ?_
        refine lv_istore_n (lv' := [(3, .int (0 : Int32)), (2, .int (0 : Int32)), (1, .int (h.1 (h.2 x0 1) (2 : Int32).toNatClampNeg)), (0, .ref (bs G + x0))]) hx hb dX12_isSaying_33 rfl hl (by decide) rfl (fun ls hl => ?_)
        exact j_X12_isSaying_34 C0 hN FU X (lv_sub hl [3, 2, 1, 0] rfl) o0 hf
      · have hf := ite_t hf c23
        refine lv_iconst (v := (1 : Int32)) hx hb dX12_isSaying_26 (by decide) ?_
        refine lv_goto (tgt := 31) hx hb dX12_isSaying_27 (by decide) ?_
        refine lv_istore_n (lv' := [(2, .int (1 : Int32)), (1, .int (h.1 (h.2 x0 1) (2 : Int32).toNatClampNeg)), (0, .ref (bs G + x0))]) hx hb dX12_isSaying_31 rfl hl (by decide) rfl (fun ls hl => ?_)
        refine lv_iconst (v := (0 : Int32)) hx hb dX12_isSaying_32 (by decide) ?_
        refine lv_istore_n (lv' := [(3, .int (0 : Int32)), (2, .int (1 : Int32)), (1, .int (h.1 (h.2 x0 1) (2 : Int32).toNatClampNeg)), (0, .ref (bs G + x0))]) hx hb dX12_isSaying_33 rfl hl (by decide) rfl (fun ls hl => ?_)
        exact j_X12_isSaying_34 C0 hN FU X (lv_sub hl [3, 2, 1, 0] rfl) o0 hf
end
theorem dX12_words_0 : decode bX12_words 0 = .ok (.aload_n 0, 1) := by decide +kernel
theorem dX12_words_1 : decode bX12_words 1 = .ok (.iconst 0, 1) := by decide +kernel
theorem dX12_words_2 : decode bX12_words 2 = .ok (.putfield 1, 3) := by decide +kernel
theorem dX12_words_5 : decode bX12_words 5 = .ok (.iload_n 1, 1) := by decide +kernel
theorem dX12_words_6 : decode bX12_words 6 = .ok (.tableswitch 53 0 2 #[26, 35, 40], 26) := by decide +kernel
theorem dX12_words_32 : decode bX12_words 32 = .ok (.sipush 1000, 3) := by decide +kernel
theorem dX12_words_35 : decode bX12_words 35 = .ok (.aload_n 0, 1) := by decide +kernel
theorem dX12_words_36 : decode bX12_words 36 = .ok (.invokevirtual 153, 3) := by decide +kernel
theorem dX12_words_39 : decode bX12_words 39 = .ok (.iadd, 1) := by decide +kernel
theorem dX12_words_40 : decode bX12_words 40 = .ok (.ireturn, 1) := by decide +kernel
theorem dX12_words_41 : decode bX12_words 41 = .ok (.aload_n 0, 1) := by decide +kernel
theorem dX12_words_42 : decode bX12_words 42 = .ok (.invokevirtual 156, 3) := by decide +kernel
theorem dX12_words_45 : decode bX12_words 45 = .ok (.ireturn, 1) := by decide +kernel
theorem dX12_words_46 : decode bX12_words 46 = .ok (.aload_n 0, 1) := by decide +kernel
theorem dX12_words_47 : decode bX12_words 47 = .ok (.invokevirtual 159, 3) := by decide +kernel
theorem dX12_words_50 : decode bX12_words 50 = .ok (.ifCond .eq 7, 3) := by decide +kernel
theorem dX12_words_53 : decode bX12_words 53 = .ok (.iconst 1, 1) := by decide +kernel
theorem dX12_words_54 : decode bX12_words 54 = .ok (.goto 4, 3) := by decide +kernel
theorem dX12_words_57 : decode bX12_words 57 = .ok (.iconst 0, 1) := by decide +kernel
theorem dX12_words_58 : decode bX12_words 58 = .ok (.ireturn, 1) := by decide +kernel
theorem dX12_words_59 : decode bX12_words 59 = .ok (.iconst (-1), 1) := by decide +kernel
theorem dX12_words_60 : decode bX12_words 60 = .ok (.ireturn, 1) := by decide +kernel
section
variable {p : Program} {l : Launch} {e : Env} {s : State} {m : MethodId} {args : Array Value} {below : List Frame} {meth : Method} {c : Code} {G : GG} {n : Nat} {h' : Hp} {rv : Int32}
set_option maxHeartbeats 4000000
set_option maxRecDepth 100000
theorem k_X12_words (l : Launch) (G : GG) (n : Nat) (hN : NT ≤ n) {h h' : Hp} {x0 : Nat} {x1 : Int32} {rv : Int32} (hf : f_X12_words h x0 x1 = some (rv, h')) : CT l G n n yX12_words (.code yX12_words bX12_words 2 (some .int)) 2 0 0 [.ref (bs G + x0), .int x1] h h' (some (.int rv)) := by
  refine ct_of (maxL := 2) (ret := (some .int)) (bytes := bX12_words) (by decide) (Nat.le_of_ble_eq_true rfl) (fun p e s m below meth c C0 X ls hl => ?_)
  have hl : lv_has ls 2 [(0, .ref (bs G + x0)), (1, .int x1)] := hl
  obtain ⟨hx, hb, hr, hml, hown, hts, hK, hlocks, hnm⟩ := id C0
  unfold f_X12_words at hf
  obtain ⟨o0, hf⟩ := gd_e hf
  refine lv_aload_n hx hb dX12_words_0 rfl (lv_at hl 0 rfl) ?_
  refine lv_iconst (v := (0 : Int32)) hx hb dX12_words_1 (by decide) ?_
  refine g_PI hx hb hts hown hK X o0 hN fl_X12_1 ft_12_0 (by decide) rfl dX12_words_2 (fun H locs X => ?_)
  obtain ⟨h1, e2, hf⟩ := lt_e hf
  rw [← e2] at X
  refine lv_iload_n hx hb dX12_words_5 rfl (lv_at hl 1 rfl) ?_
  by_cases s6_0 : x1 = (0 : Int32)
  · have hf := ite_t hf s6_0
    refine sw_in (k := (0 : Int32)) (off := 26) (tgt := 32) hx hb dX12_words_6 s6_0 (by decide) (by decide) (by decide) (by decide) ?_
    refine lv_sipush (v := (1000 : Int32)) hx hb dX12_words_32 (by decide) ?_
    refine lv_aload_n hx hb dX12_words_35 rfl (lv_at hl 0 rfl) ?_
    obtain ⟨r3, h4, q5, hf⟩ := bd_e hf
    refine c_V0 (As := []) (rest := [.int (1000 : Int32)]) (st1 := [.int r3, .int (1000 : Int32)]) hx hb hml hown hts hK X (k_X12_sumOfWords l G n hN q5) o0 hN lc_X12_sumOfWords lv_X12_153 (ci := 12) rfl rfl (by decide) rfl hl.1 (Nat.le_of_ble_eq_true rfl) dX12_words_36 rfl (fun H locs X => ?_)
    refine lv_iadd hx hb dX12_words_39 ?_
    exact r_I hx hb hr hlocks X hf dX12_words_40
  have hf := ite_f hf s6_0
  by_cases s6_1 : x1 = (1 : Int32)
  · have hf := ite_t hf s6_1
    refine sw_in (k := (1 : Int32)) (off := 35) (tgt := 41) hx hb dX12_words_6 s6_1 (by decide) (by decide) (by decide) (by decide) ?_
    refine lv_aload_n hx hb dX12_words_41 rfl (lv_at hl 0 rfl) ?_
    obtain ⟨r6, h7, q8, hf⟩ := bd_e hf
    refine c_V0 (As := []) (rest := []) (st1 := [.int r6]) hx hb hml hown hts hK X (k_X12_priceOfWords l G n hN q8) o0 hN lc_X12_priceOfWords lv_X12_156 (ci := 12) rfl rfl (by decide) rfl hl.1 (Nat.le_of_ble_eq_true rfl) dX12_words_42 rfl (fun H locs X => ?_)
    exact r_I hx hb hr hlocks X hf dX12_words_45
  have hf := ite_f hf s6_1
  by_cases s6_2 : x1 = (2 : Int32)
  · have hf := ite_t hf s6_2
    refine sw_in (k := (2 : Int32)) (off := 40) (tgt := 46) hx hb dX12_words_6 s6_2 (by decide) (by decide) (by decide) (by decide) ?_
    refine lv_aload_n hx hb dX12_words_46 rfl (lv_at hl 0 rfl) ?_
    obtain ⟨r9, h10, q11, hf⟩ := bd_e hf
    refine c_V0 (As := []) (rest := []) (st1 := [.int r9]) hx hb hml hown hts hK X (k_X12_isSaying l G n hN q11) o0 hN lc_X12_isSaying lv_X12_159 (ci := 12) rfl rfl (by decide) rfl hl.1 (Nat.le_of_ble_eq_true rfl) dX12_words_47 rfl (fun H locs X => ?_)
    refine lv_if_eq (tgt := 57) hx hb dX12_words_50 (by decide) (fun c50 => ?_) (fun c50 => ?_)
    · have hf := ite_t hf c50
      refine lv_iconst (v := (0 : Int32)) hx hb dX12_words_57 (by decide) ?_
      exact r_I hx hb hr hlocks X hf dX12_words_58
    · have hf := ite_f hf c50
      refine lv_iconst (v := (1 : Int32)) hx hb dX12_words_53 (by decide) ?_
      refine lv_goto (tgt := 58) hx hb dX12_words_54 (by decide) ?_
      exact r_I hx hb hr hlocks X hf dX12_words_58
  have hf := ite_f hf s6_2
  refine sw_df (ex := [(0 : Int32), (1 : Int32), (2 : Int32)]) (tgt := 59) hx hb dX12_words_6 (by decide) (by decide) (List.forall_mem_cons.mpr ⟨s6_0, List.forall_mem_cons.mpr ⟨s6_1, List.forall_mem_cons.mpr ⟨s6_2, (fun _ hz => absurd hz List.not_mem_nil)⟩⟩⟩) (by decide) ?_
  refine lv_iconst (v := (-1 : Int32)) hx hb dX12_words_59 (by decide) ?_
  exact r_I hx hb hr hlocks X hf dX12_words_60
end
theorem dX12_laid_0 : decode bX12_laid 0 = .ok (.iload_n 2, 1) := by decide +kernel
theorem dX12_laid_1 : decode bX12_laid 1 = .ok (.i2l, 1) := by decide +kernel
theorem dX12_laid_2 : decode bX12_laid 2 = .ok (.ldc2_w 162, 3) := by decide +kernel
theorem dX12_laid_5 : decode bX12_laid 5 = .ok (.ldc2_w 164, 3) := by decide +kernel
theorem dX12_laid_8 : decode bX12_laid 8 = .ok (.invokestatic 75, 3) := by decide +kernel
theorem dX12_laid_11 : decode bX12_laid 11 = .ok (.ifCond .eq 24, 3) := by decide +kernel
theorem dX12_laid_14 : decode bX12_laid 14 = .ok (.aload_n 0, 1) := by decide +kernel
theorem dX12_laid_15 : decode bX12_laid 15 = .ok (.getfield 38, 3) := by decide +kernel
theorem dX12_laid_18 : decode bX12_laid 18 = .ok (.sipush 601, 3) := by decide +kernel
theorem dX12_laid_21 : decode bX12_laid 21 = .ok (.iload_n 1, 1) := by decide +kernel
theorem dX12_laid_22 : decode bX12_laid 22 = .ok (.iconst 1, 1) := by decide +kernel
theorem dX12_laid_23 : decode bX12_laid 23 = .ok (.isub, 1) := by decide +kernel
theorem dX12_laid_24 : decode bX12_laid 24 = .ok (.imul, 1) := by decide +kernel
theorem dX12_laid_25 : decode bX12_laid 25 = .ok (.iload_n 2, 1) := by decide +kernel
theorem dX12_laid_26 : decode bX12_laid 26 = .ok (.iadd, 1) := by decide +kernel
theorem dX12_laid_27 : decode bX12_laid 27 = .ok (.sipush 300, 3) := by decide +kernel
theorem dX12_laid_30 : decode bX12_laid 30 = .ok (.iadd, 1) := by decide +kernel
theorem dX12_laid_31 : decode bX12_laid 31 = .ok (.iaload, 1) := by decide +kernel
theorem dX12_laid_32 : decode bX12_laid 32 = .ok (.goto 5, 3) := by decide +kernel
theorem dX12_laid_35 : decode bX12_laid 35 = .ok (.ldc 166, 2) := by decide +kernel
theorem dX12_laid_37 : decode bX12_laid 37 = .ok (.ireturn, 1) := by decide +kernel
section
variable {p : Program} {l : Launch} {e : Env} {s : State} {m : MethodId} {args : Array Value} {below : List Frame} {meth : Method} {c : Code} {G : GG} {n : Nat} {h' : Hp} {rv : Int32}
set_option maxHeartbeats 4000000
set_option maxRecDepth 100000
theorem k_X12_laid (l : Launch) (G : GG) (n : Nat) (hN : NT ≤ n) {h h' : Hp} {x0 : Nat} {x1 : Int32} {x2 : Int32} {rv : Int32} (hf : f_X12_laid h x0 x1 x2 = some (rv, h')) : CT l G n n yX12_laid (.code yX12_laid bX12_laid 3 (some .int)) 1 0 0 [.ref (bs G + x0), .int x1, .int x2] h h' (some (.int rv)) := by
  refine ct_of (maxL := 3) (ret := (some .int)) (bytes := bX12_laid) (by decide) (Nat.le_of_ble_eq_true rfl) (fun p e s m below meth c C0 X ls hl => ?_)
  have hl : lv_has ls 3 [(0, .ref (bs G + x0)), (1, .int x1), (2, .int x2)] := hl
  obtain ⟨hx, hb, hr, hml, hown, hts, hK, hlocks, hnm⟩ := id C0
  unfold f_X12_laid at hf
  obtain ⟨o0, hf⟩ := gd_e hf
  refine lv_iload_n hx hb dX12_laid_0 rfl (lv_at hl 2 rfl) ?_
  refine lv_i2l hx hb dX12_laid_1 rfl ?_
  refine lv_ldc2 hx hb hown (hts _ cn_X12_162) dX12_laid_2 ?_
  refine lv_ldc2 hx hb hown (hts _ cn_X12_164) dX12_laid_5 ?_
  obtain ⟨r1, h2, q3, hf⟩ := bd_e hf
  refine c_S0 (As := [.long x2.toInt64, .long (-300 : Int64), .long (300 : Int64)]) (rest := []) (st1 := [.int r1]) hx hb hml hown hts hK X (k_X12_in l G n hN q3) lc_X12_in ls_X12_75 (by decide) rfl hl.1 (Nat.le_of_ble_eq_true rfl) dX12_laid_8 rfl (fun H locs X => ?_)
  refine lv_if_eq (tgt := 35) hx hb dX12_laid_11 (by decide) (fun c11 => ?_) (fun c11 => ?_)
  · have hf := ite_t hf c11
    refine lv_ldc hx hb hown (hts _ cn_X12_166) dX12_laid_35 ?_
    exact r_I hx hb hr hlocks X hf dX12_laid_37
  · have hf := ite_f hf c11
    refine lv_aload_n hx hb dX12_laid_14 rfl (lv_at hl 0 rfl) ?_
    obtain ⟨g4, hf⟩ := gd_e hf
    refine g_R hx hb hts hown hK X o0 hN g4 fl_X12_38 (by decide) rfl (by decide) dX12_laid_15 ?_
    refine lv_sipush (v := (601 : Int32)) hx hb dX12_laid_18 (by decide) ?_
    refine lv_iload_n hx hb dX12_laid_21 rfl (lv_at hl 1 rfl) ?_
    refine lv_iconst (v := (1 : Int32)) hx hb dX12_laid_22 (by decide) ?_
    refine lv_isub hx hb dX12_laid_23 ?_
    refine lv_imul hx hb dX12_laid_24 ?_
    refine lv_iload_n hx hb dX12_laid_25 rfl (lv_at hl 2 rfl) ?_
    refine lv_iadd hx hb dX12_laid_26 ?_
    refine lv_sipush (v := (300 : Int32)) hx hb dX12_laid_27 (by decide) ?_
    refine lv_iadd hx hb dX12_laid_30 ?_
    obtain ⟨g5, hf⟩ := gd_e hf
    refine g_ia hx hb hK X g4 hN g5 (by decide) dX12_laid_31 ?_
    refine lv_goto (tgt := 37) hx hb dX12_laid_32 (by decide) ?_
    exact r_I hx hb hr hlocks X hf dX12_laid_37
end
