theorem dX1_denyTwo_0 : decode bX1_denyTwo 0 = .ok (.aload_n 1, 1) := by decide +kernel
theorem dX1_denyTwo_1 : decode bX1_denyTwo 1 = .ok (.getfield 28, 3) := by decide +kernel
theorem dX1_denyTwo_4 : decode bX1_denyTwo 4 = .ok (.istore_n 2, 1) := by decide +kernel
theorem dX1_denyTwo_5 : decode bX1_denyTwo 5 = .ok (.aload_n 0, 1) := by decide +kernel
theorem dX1_denyTwo_6 : decode bX1_denyTwo 6 = .ok (.bipush (-4), 2) := by decide +kernel
theorem dX1_denyTwo_8 : decode bX1_denyTwo 8 = .ok (.putfield 57, 3) := by decide +kernel
theorem dX1_denyTwo_11 : decode bX1_denyTwo 11 = .ok (.iconst 1, 1) := by decide +kernel
theorem dX1_denyTwo_12 : decode bX1_denyTwo 12 = .ok (.istore_n 3, 1) := by decide +kernel
theorem dX1_denyTwo_13 : decode bX1_denyTwo 13 = .ok (.iload_n 3, 1) := by decide +kernel
theorem dX1_denyTwo_14 : decode bX1_denyTwo 14 = .ok (.bipush 24, 2) := by decide +kernel
theorem dX1_denyTwo_16 : decode bX1_denyTwo 16 = .ok (.if_icmp .ge 83, 3) := by decide +kernel
theorem dX1_denyTwo_19 : decode bX1_denyTwo 19 = .ok (.iload_n 3, 1) := by decide +kernel
theorem dX1_denyTwo_20 : decode bX1_denyTwo 20 = .ok (.iconst 1, 1) := by decide +kernel
theorem dX1_denyTwo_21 : decode bX1_denyTwo 21 = .ok (.iadd, 1) := by decide +kernel
theorem dX1_denyTwo_22 : decode bX1_denyTwo 22 = .ok (.istore 4, 2) := by decide +kernel
theorem dX1_denyTwo_24 : decode bX1_denyTwo 24 = .ok (.iload 4, 2) := by decide +kernel
theorem dX1_denyTwo_26 : decode bX1_denyTwo 26 = .ok (.bipush 24, 2) := by decide +kernel
theorem dX1_denyTwo_28 : decode bX1_denyTwo 28 = .ok (.if_icmp .gt 65, 3) := by decide +kernel
theorem dX1_denyTwo_31 : decode bX1_denyTwo 31 = .ok (.iconst 1, 1) := by decide +kernel
theorem dX1_denyTwo_32 : decode bX1_denyTwo 32 = .ok (.iload_n 3, 1) := by decide +kernel
theorem dX1_denyTwo_33 : decode bX1_denyTwo 33 = .ok (.iconst 1, 1) := by decide +kernel
theorem dX1_denyTwo_34 : decode bX1_denyTwo 34 = .ok (.isub, 1) := by decide +kernel
theorem dX1_denyTwo_35 : decode bX1_denyTwo 35 = .ok (.ishl, 1) := by decide +kernel
theorem dX1_denyTwo_36 : decode bX1_denyTwo 36 = .ok (.iconst 1, 1) := by decide +kernel
theorem dX1_denyTwo_37 : decode bX1_denyTwo 37 = .ok (.iload 4, 2) := by decide +kernel
theorem dX1_denyTwo_39 : decode bX1_denyTwo 39 = .ok (.iconst 1, 1) := by decide +kernel
theorem dX1_denyTwo_40 : decode bX1_denyTwo 40 = .ok (.isub, 1) := by decide +kernel
theorem dX1_denyTwo_41 : decode bX1_denyTwo 41 = .ok (.ishl, 1) := by decide +kernel
theorem dX1_denyTwo_42 : decode bX1_denyTwo 42 = .ok (.ior, 1) := by decide +kernel
theorem dX1_denyTwo_43 : decode bX1_denyTwo 43 = .ok (.istore 5, 2) := by decide +kernel
theorem dX1_denyTwo_45 : decode bX1_denyTwo 45 = .ok (.iload 5, 2) := by decide +kernel
theorem dX1_denyTwo_47 : decode bX1_denyTwo 47 = .ok (.aload_n 1, 1) := by decide +kernel
theorem dX1_denyTwo_48 : decode bX1_denyTwo 48 = .ok (.getfield 60, 3) := by decide +kernel
theorem dX1_denyTwo_51 : decode bX1_denyTwo 51 = .ok (.iconst (-1), 1) := by decide +kernel
theorem dX1_denyTwo_52 : decode bX1_denyTwo 52 = .ok (.ixor, 1) := by decide +kernel
theorem dX1_denyTwo_53 : decode bX1_denyTwo 53 = .ok (.iand, 1) := by decide +kernel
theorem dX1_denyTwo_54 : decode bX1_denyTwo 54 = .ok (.ifCond .ne 33, 3) := by decide +kernel
theorem dX1_denyTwo_57 : decode bX1_denyTwo 57 = .ok (.iload 5, 2) := by decide +kernel
theorem dX1_denyTwo_59 : decode bX1_denyTwo 59 = .ok (.iload_n 2, 1) := by decide +kernel
theorem dX1_denyTwo_60 : decode bX1_denyTwo 60 = .ok (.iand, 1) := by decide +kernel
theorem dX1_denyTwo_61 : decode bX1_denyTwo 61 = .ok (.ifCond .ne 26, 3) := by decide +kernel
theorem dX1_denyTwo_64 : decode bX1_denyTwo 64 = .ok (.aload_n 0, 1) := by decide +kernel
theorem dX1_denyTwo_65 : decode bX1_denyTwo 65 = .ok (.aload_n 1, 1) := by decide +kernel
theorem dX1_denyTwo_66 : decode bX1_denyTwo 66 = .ok (.iload_n 2, 1) := by decide +kernel
theorem dX1_denyTwo_67 : decode bX1_denyTwo 67 = .ok (.iload 5, 2) := by decide +kernel
theorem dX1_denyTwo_69 : decode bX1_denyTwo 69 = .ok (.ior, 1) := by decide +kernel
theorem dX1_denyTwo_70 : decode bX1_denyTwo 70 = .ok (.invokevirtual 63, 3) := by decide +kernel
theorem dX1_denyTwo_73 : decode bX1_denyTwo 73 = .ok (.ifCond .eq 14, 3) := by decide +kernel
theorem dX1_denyTwo_76 : decode bX1_denyTwo 76 = .ok (.aload_n 0, 1) := by decide +kernel
theorem dX1_denyTwo_77 : decode bX1_denyTwo 77 = .ok (.iload_n 3, 1) := by decide +kernel
theorem dX1_denyTwo_78 : decode bX1_denyTwo 78 = .ok (.putfield 67, 3) := by decide +kernel
theorem dX1_denyTwo_81 : decode bX1_denyTwo 81 = .ok (.aload_n 0, 1) := by decide +kernel
theorem dX1_denyTwo_82 : decode bX1_denyTwo 82 = .ok (.iload 4, 2) := by decide +kernel
theorem dX1_denyTwo_84 : decode bX1_denyTwo 84 = .ok (.putfield 70, 3) := by decide +kernel
theorem dX1_denyTwo_87 : decode bX1_denyTwo 87 = .ok (.iinc 4 1, 3) := by decide +kernel
theorem dX1_denyTwo_90 : decode bX1_denyTwo 90 = .ok (.goto (-66), 3) := by decide +kernel
theorem dX1_denyTwo_93 : decode bX1_denyTwo 93 = .ok (.iinc 3 1, 3) := by decide +kernel
theorem dX1_denyTwo_96 : decode bX1_denyTwo 96 = .ok (.goto (-83), 3) := by decide +kernel
theorem dX1_denyTwo_99 : decode bX1_denyTwo 99 = .ok (.aload_n 0, 1) := by decide +kernel
theorem dX1_denyTwo_100 : decode bX1_denyTwo 100 = .ok (.getfield 57, 3) := by decide +kernel
theorem dX1_denyTwo_103 : decode bX1_denyTwo 103 = .ok (.bipush (-4), 2) := by decide +kernel
theorem dX1_denyTwo_105 : decode bX1_denyTwo 105 = .ok (.if_icmp .eq 7, 3) := by decide +kernel
theorem dX1_denyTwo_108 : decode bX1_denyTwo 108 = .ok (.iconst 1, 1) := by decide +kernel
theorem dX1_denyTwo_109 : decode bX1_denyTwo 109 = .ok (.goto 4, 3) := by decide +kernel
theorem dX1_denyTwo_112 : decode bX1_denyTwo 112 = .ok (.iconst 0, 1) := by decide +kernel
theorem dX1_denyTwo_113 : decode bX1_denyTwo 113 = .ok (.ireturn, 1) := by decide +kernel
section
variable {p : Program} {l : Launch} {e : Env} {s : State} {m : MethodId} {args : Array Value} {below : List Frame} {meth : Method} {c : Code} {G : GG} {n : Nat} {h' : Hp} {rv : Int32}
set_option maxHeartbeats 4000000
set_option maxRecDepth 100000
theorem j_X1_denyTwo_24 (C0 : Cx p s m args meth c G bX1_denyTwo RX1 6 (some .boolean) "denyTwo") (hN : NX ≤ n) {k13 : Hp → Nat → Nat → Int32 → Int32 → Option (Int32 × Hp)} (ih13 : ∀ {H : Heap} {locs : List Loc} {ls : Array Slot} {h : Hp} {x0 : Nat} {x1 : Nat} {x2 : Int32} {x3 : Int32}, XW G n h s 0 H locs → lv_has ls 6 [(0, .ref (bs G + x0)), (1, .ref (bs G + x1)), (2, .int x2), (3, .int x3)] → kd x0 = 1 → kd x1 = 6 → k13 h x0 x1 x2 x3 = some (rv, h') → W p l e (rmC 6 0 0) s m args below meth c H locs 0 0 (MQ below (QP G n h' (some (.int rv))) args s 0 0 (Ab G)) (F0 m 13 ls [])) : ∀ (fu : Nat), ∀ {H : Heap} {locs : List Loc} {ls : Array Slot} {h : Hp} {x0 : Nat} {x1 : Nat} {x2 : Int32} {x3 : Int32} {x4 : Int32}, XW G n h s 0 H locs → lv_has ls 6 [(0, .ref (bs G + x0)), (1, .ref (bs G + x1)), (2, .int x2), (3, .int x3), (4, .int x4)] → kd x0 = 1 → kd x1 = 6 → f_X1_denyTwo_24 k13 fu h x0 x1 x2 x3 x4 = some (rv, h') → W p l e (rmC 6 0 0) s m args below meth c H locs 0 0 (MQ below (QP G n h' (some (.int rv))) args s 0 0 (Ab G)) (F0 m 24 ls []) := by
  obtain ⟨hx, hb, hr, hml, hown, hts, hK, hlocks, hnm⟩ := id C0
  intro fu
  induction fu with
  | zero => intro H locs ls h x0 x1 x2 x3 x4 X hl o0 o1 hf; cases hf
  | succ fu ih =>
    intro H locs ls h x0 x1 x2 x3 x4 X hl o0 o1 hf
    rw [f_X1_denyTwo_24] at hf
    refine lv_iload hx hb dX1_denyTwo_24 (lv_at hl 4 rfl) ?_
    refine lv_bipush (v := (24 : Int32)) hx hb dX1_denyTwo_26 (by decide) ?_
    refine lv_icmp_gt (tgt := 93) hx hb dX1_denyTwo_28 (by decide) (fun c28 => ?_) (fun c28 => ?_)
    · have hf := ite_t hf c28
      refine lv_iinc (v := (x3 + (1 : Int32))) (lv' := [(3, .int (x3 + (1 : Int32))), (0, .ref (bs G + x0)), (1, .ref (bs G + x1)), (2, .int x2), (4, .int x4)]) hx hb dX1_denyTwo_93 hl (k := 3) rfl rfl (by decide) rfl (fun ls hl => ?_)
      refine lv_goto (tgt := 13) hx hb dX1_denyTwo_96 (by decide) ?_
      exact ih13 X (lv_sub hl [1, 2, 3, 0] rfl) o0 o1 hf
    · have hf := ite_f hf c28
      refine lv_iconst (v := (1 : Int32)) hx hb dX1_denyTwo_31 (by decide) ?_
      refine lv_iload_n hx hb dX1_denyTwo_32 rfl (lv_at hl 3 rfl) ?_
      refine lv_iconst (v := (1 : Int32)) hx hb dX1_denyTwo_33 (by decide) ?_
      refine lv_isub hx hb dX1_denyTwo_34 ?_
      refine lv_ishl hx hb dX1_denyTwo_35 ?_
      refine lv_iconst (v := (1 : Int32)) hx hb dX1_denyTwo_36 (by decide) ?_
      refine lv_iload hx hb dX1_denyTwo_37 (lv_at hl 4 rfl) ?_
      refine lv_iconst (v := (1 : Int32)) hx hb dX1_denyTwo_39 (by decide) ?_
      refine lv_isub hx hb dX1_denyTwo_40 ?_
      refine lv_ishl hx hb dX1_denyTwo_41 ?_
      refine lv_ior hx hb dX1_denyTwo_42 ?_
      refine lv_istore (lv' := [(5, .int (((1 : Int32) <<< ((x3 - (1 : Int32)) &&& 31)) ||| ((1 : Int32) <<< ((x4 - (1 : Int32)) &&& 31)))), (0, .ref (bs G + x0)), (1, .ref (bs G + x1)), (2, .int x2), (3, .int x3), (4, .int x4)]) hx hb dX1_denyTwo_43 hl (by decide) rfl (fun ls hl => ?_)
      refine lv_iload hx hb dX1_denyTwo_45 (lv_at hl 0 rfl) ?_
      refine lv_aload_n hx hb dX1_denyTwo_47 rfl (lv_at hl 2 rfl) ?_
      refine g_I hx hb hts hown hK X o1 hN fl_X1_60 (by decide) rfl dX1_denyTwo_48 ?_
      refine lv_iconst (v := (-1 : Int32)) hx hb dX1_denyTwo_51 (by decide) ?_
      refine lv_ixor hx hb dX1_denyTwo_52 ?_
      refine lv_iand hx hb dX1_denyTwo_53 ?_
      refine lv_if_ne (tgt := 87) hx hb dX1_denyTwo_54 (by decide) (fun c54 => ?_) (fun c54 => ?_)
      · have hf := ite_f hf c54
        refine lv_iinc (v := (x4 + (1 : Int32))) (lv' := [(4, .int (x4 + (1 : Int32))), (5, .int (((1 : Int32) <<< ((x3 - (1 : Int32)) &&& 31)) ||| ((1 : Int32) <<< ((x4 - (1 : Int32)) &&& 31)))), (0, .ref (bs G + x0)), (1, .ref (bs G + x1)), (2, .int x2), (3, .int x3)]) hx hb dX1_denyTwo_87 hl (k := 5) rfl rfl (by decide) rfl (fun ls hl => ?_)
        refine lv_goto (tgt := 24) hx hb dX1_denyTwo_90 (by decide) ?_
        exact ih X (lv_sub hl [2, 3, 4, 5, 0] rfl) o0 o1 hf
      · have hf := ite_t hf c54
        refine lv_iload hx hb dX1_denyTwo_57 (lv_at hl 0 rfl) ?_
        refine lv_iload_n hx hb dX1_denyTwo_59 rfl (lv_at hl 3 rfl) ?_
        refine lv_iand hx hb dX1_denyTwo_60 ?_
        refine lv_if_ne (tgt := 87) hx hb dX1_denyTwo_61 (by decide) (fun c61 => ?_) (fun c61 => ?_)
        · have hf := ite_f hf c61
          refine lv_iinc (v := (x4 + (1 : Int32))) (lv' := [(4, .int (x4 + (1 : Int32))), (5, .int (((1 : Int32) <<< ((x3 - (1 : Int32)) &&& 31)) ||| ((1 : Int32) <<< ((x4 - (1 : Int32)) &&& 31)))), (0, .ref (bs G + x0)), (1, .ref (bs G + x1)), (2, .int x2), (3, .int x3)]) hx hb dX1_denyTwo_87 hl (k := 5) rfl rfl (by decide) rfl (fun ls hl => ?_)
          refine lv_goto (tgt := 24) hx hb dX1_denyTwo_90 (by decide) ?_
          exact ih X (lv_sub hl [2, 3, 4, 5, 0] rfl) o0 o1 hf
        · have hf := ite_t hf c61
          refine lv_aload_n hx hb dX1_denyTwo_64 rfl (lv_at hl 1 rfl) ?_
          refine lv_aload_n hx hb dX1_denyTwo_65 rfl (lv_at hl 2 rfl) ?_
          refine lv_iload_n hx hb dX1_denyTwo_66 rfl (lv_at hl 3 rfl) ?_
          refine lv_iload hx hb dX1_denyTwo_67 (lv_at hl 0 rfl) ?_
          refine lv_ior hx hb dX1_denyTwo_69 ?_
          obtain ⟨r1, h2, q3, hf⟩ := bd_e hf
          refine c_V0 (As := [.ref (bs G + x1), .int (x2 ||| (((1 : Int32) <<< ((x3 - (1 : Int32)) &&& 31)) ||| ((1 : Int32) <<< ((x4 - (1 : Int32)) &&& 31))))]) (rest := []) (st1 := [.int r1]) hx hb hml hown hts hK X (k_X1_getsWorse l G n hN q3) o0 hN lc_X1_getsWorse lv_X1_63 (ci := 1) rfl rfl (by decide) rfl hl.1 (Nat.le_of_ble_eq_true rfl) dX1_denyTwo_70 rfl (fun H locs X => ?_)
          refine lv_if_eq (tgt := 87) hx hb dX1_denyTwo_73 (by decide) (fun c73 => ?_) (fun c73 => ?_)
          · have hf := ite_t hf c73
            refine lv_iinc (v := (x4 + (1 : Int32))) (lv' := [(4, .int (x4 + (1 : Int32))), (5, .int (((1 : Int32) <<< ((x3 - (1 : Int32)) &&& 31)) ||| ((1 : Int32) <<< ((x4 - (1 : Int32)) &&& 31)))), (0, .ref (bs G + x0)), (1, .ref (bs G + x1)), (2, .int x2), (3, .int x3)]) hx hb dX1_denyTwo_87 hl (k := 5) rfl rfl (by decide) rfl (fun ls hl => ?_)
            refine lv_goto (tgt := 24) hx hb dX1_denyTwo_90 (by decide) ?_
            exact ih X (lv_sub hl [2, 3, 4, 5, 0] rfl) o0 o1 hf
          · have hf := ite_f hf c73
            refine lv_aload_n hx hb dX1_denyTwo_76 rfl (lv_at hl 1 rfl) ?_
            refine lv_iload_n hx hb dX1_denyTwo_77 rfl (lv_at hl 4 rfl) ?_
            refine g_PI hx hb hts hown hK X o0 hN fl_X1_67 ft_1_1 (by decide) rfl dX1_denyTwo_78 (fun H locs X => ?_)
            obtain ⟨h4, e5, hf⟩ := lt_e hf
            rw [← e5] at X
            refine lv_aload_n hx hb dX1_denyTwo_81 rfl (lv_at hl 1 rfl) ?_
            refine lv_iload hx hb dX1_denyTwo_82 (lv_at hl 5 rfl) ?_
            refine g_PI hx hb hts hown hK X o0 hN fl_X1_70 ft_1_2 (by decide) rfl dX1_denyTwo_84 (fun H locs X => ?_)
            obtain ⟨h6, e7, hf⟩ := lt_e hf
            rw [← e7] at X
            refine lv_iinc (v := (x4 + (1 : Int32))) (lv' := [(4, .int (x4 + (1 : Int32))), (5, .int (((1 : Int32) <<< ((x3 - (1 : Int32)) &&& 31)) ||| ((1 : Int32) <<< ((x4 - (1 : Int32)) &&& 31)))), (0, .ref (bs G + x0)), (1, .ref (bs G + x1)), (2, .int x2), (3, .int x3)]) hx hb dX1_denyTwo_87 hl (k := 5) rfl rfl (by decide) rfl (fun ls hl => ?_)
            refine lv_goto (tgt := 24) hx hb dX1_denyTwo_90 (by decide) ?_
            exact ih X (lv_sub hl [2, 3, 4, 5, 0] rfl) o0 o1 hf
theorem j_X1_denyTwo_13 (C0 : Cx p s m args meth c G bX1_denyTwo RX1 6 (some .boolean) "denyTwo") (hN : NX ≤ n) : ∀ (fu : Nat), ∀ {H : Heap} {locs : List Loc} {ls : Array Slot} {h : Hp} {x0 : Nat} {x1 : Nat} {x2 : Int32} {x3 : Int32}, XW G n h s 0 H locs → lv_has ls 6 [(0, .ref (bs G + x0)), (1, .ref (bs G + x1)), (2, .int x2), (3, .int x3)] → kd x0 = 1 → kd x1 = 6 → f_X1_denyTwo_13 fu h x0 x1 x2 x3 = some (rv, h') → W p l e (rmC 6 0 0) s m args below meth c H locs 0 0 (MQ below (QP G n h' (some (.int rv))) args s 0 0 (Ab G)) (F0 m 13 ls []) := by
  obtain ⟨hx, hb, hr, hml, hown, hts, hK, hlocks, hnm⟩ := id C0
  intro fu
  induction fu with
  | zero => intro H locs ls h x0 x1 x2 x3 X hl o0 o1 hf; cases hf
  | succ fu ih =>
    intro H locs ls h x0 x1 x2 x3 X hl o0 o1 hf
    rw [f_X1_denyTwo_13] at hf
    refine lv_iload_n hx hb dX1_denyTwo_13 rfl (lv_at hl 3 rfl) ?_
    refine lv_bipush (v := (24 : Int32)) hx hb dX1_denyTwo_14 (by decide) ?_
    refine lv_icmp_ge (tgt := 99) hx hb dX1_denyTwo_16 (by decide) (fun c16 => ?_) (fun c16 => ?_)
    · have hf := ite_t hf c16
      refine lv_aload_n hx hb dX1_denyTwo_99 rfl (lv_at hl 0 rfl) ?_
      refine g_I hx hb hts hown hK X o0 hN fl_X1_57 (by decide) rfl dX1_denyTwo_100 ?_
      refine lv_bipush (v := (-4 : Int32)) hx hb dX1_denyTwo_103 (by decide) ?_
      refine lv_icmp_eq (tgt := 112) hx hb dX1_denyTwo_105 (by decide) (fun c105 => ?_) (fun c105 => ?_)
      · have hf := ite_t hf c105
        refine lv_iconst (v := (0 : Int32)) hx hb dX1_denyTwo_112 (by decide) ?_
        exact r_Z hx hb hr hlocks X rfl hf dX1_denyTwo_113
      · have hf := ite_f hf c105
        refine lv_iconst (v := (1 : Int32)) hx hb dX1_denyTwo_108 (by decide) ?_
        refine lv_goto (tgt := 113) hx hb dX1_denyTwo_109 (by decide) ?_
        exact r_Z hx hb hr hlocks X rfl hf dX1_denyTwo_113
    · have hf := ite_f hf c16
      refine lv_iload_n hx hb dX1_denyTwo_19 rfl (lv_at hl 3 rfl) ?_
      refine lv_iconst (v := (1 : Int32)) hx hb dX1_denyTwo_20 (by decide) ?_
      refine lv_iadd hx hb dX1_denyTwo_21 ?_
      refine lv_istore (lv' := [(4, .int (x3 + (1 : Int32))), (0, .ref (bs G + x0)), (1, .ref (bs G + x1)), (2, .int x2), (3, .int x3)]) hx hb dX1_denyTwo_22 hl (by decide) rfl (fun ls hl => ?_)
      exact j_X1_denyTwo_24 C0 hN @ih FU X (lv_sub hl [1, 2, 3, 4, 0] rfl) o0 o1 hf
theorem k_X1_denyTwo (l : Launch) (G : GG) (n : Nat) (hN : NX ≤ n) {h h' : Hp} {x0 : Nat} {x1 : Nat} {rv : Int32} (hf : f_X1_denyTwo h x0 x1 = some (rv, h')) : CT l G n n yX1_denyTwo (.code yX1_denyTwo bX1_denyTwo 6 (some .boolean)) 6 0 0 [.ref (bs G + x0), .ref (bs G + x1)] h h' (some (.int rv)) := by
  refine ct_of (maxL := 6) (ret := (some .boolean)) (bytes := bX1_denyTwo) (by decide) (Nat.le_of_ble_eq_true rfl) (fun p e s m below meth c C0 X ls hl => ?_)
  have hl : lv_has ls 6 [(0, .ref (bs G + x0)), (1, .ref (bs G + x1))] := hl
  obtain ⟨hx, hb, hr, hml, hown, hts, hK, hlocks, hnm⟩ := id C0
  unfold f_X1_denyTwo at hf
  obtain ⟨o0, hf⟩ := gd_e hf
  obtain ⟨o1, hf⟩ := gd_e hf
  refine lv_aload_n hx hb dX1_denyTwo_0 rfl (lv_at hl 1 rfl) ?_
  refine g_I hx hb hts hown hK X o1 hN fl_X1_28 (by decide) rfl dX1_denyTwo_1 ?_
  refine lv_istore_n (lv' := [(2, .int (h.1 x1 2)), (0, .ref (bs G + x0)), (1, .ref (bs G + x1))]) hx hb dX1_denyTwo_4 rfl hl (by decide) rfl (fun ls hl => ?_)
  refine lv_aload_n hx hb dX1_denyTwo_5 rfl (lv_at hl 1 rfl) ?_
  refine lv_bipush (v := (-4 : Int32)) hx hb dX1_denyTwo_6 (by decide) ?_
  refine g_PI hx hb hts hown hK X o0 hN fl_X1_57 ft_1_0 (by decide) rfl dX1_denyTwo_8 (fun H locs X => ?_)
  obtain ⟨h1, e2, hf⟩ := lt_e hf
  rw [← e2] at X
  refine lv_iconst (v := (1 : Int32)) hx hb dX1_denyTwo_11 (by decide) ?_
  refine lv_istore_n (lv' := [(3, .int (1 : Int32)), (2, .int (h.1 x1 2)), (0, .ref (bs G + x0)), (1, .ref (bs G + x1))]) hx hb dX1_denyTwo_12 rfl hl (by decide) rfl (fun ls hl => ?_)
  exact j_X1_denyTwo_13 C0 hN FU X (lv_sub hl [2, 3, 1, 0] rfl) o0 o1 hf
end
theorem dX1_cornerBy_0 : decode bX1_cornerBy 0 = .ok (.aload_n 1, 1) := by decide +kernel
theorem dX1_cornerBy_1 : decode bX1_cornerBy 1 = .ok (.getfield 28, 3) := by decide +kernel
theorem dX1_cornerBy_4 : decode bX1_cornerBy 4 = .ok (.istore_n 3, 1) := by decide +kernel
theorem dX1_cornerBy_5 : decode bX1_cornerBy 5 = .ok (.aload_n 1, 1) := by decide +kernel
theorem dX1_cornerBy_6 : decode bX1_cornerBy 6 = .ok (.iload_n 2, 1) := by decide +kernel
theorem dX1_cornerBy_7 : decode bX1_cornerBy 7 = .ok (.iload_n 3, 1) := by decide +kernel
theorem dX1_cornerBy_8 : decode bX1_cornerBy 8 = .ok (.invokevirtual 41, 3) := by decide +kernel
theorem dX1_cornerBy_11 : decode bX1_cornerBy 11 = .ok (.istore 4, 2) := by decide +kernel
theorem dX1_cornerBy_13 : decode bX1_cornerBy 13 = .ok (.iconst 1, 1) := by decide +kernel
theorem dX1_cornerBy_14 : decode bX1_cornerBy 14 = .ok (.istore 5, 2) := by decide +kernel
theorem dX1_cornerBy_16 : decode bX1_cornerBy 16 = .ok (.iload 5, 2) := by decide +kernel
theorem dX1_cornerBy_18 : decode bX1_cornerBy 18 = .ok (.bipush 99, 2) := by decide +kernel
theorem dX1_cornerBy_20 : decode bX1_cornerBy 20 = .ok (.if_icmp .gt 31, 3) := by decide +kernel
theorem dX1_cornerBy_23 : decode bX1_cornerBy 23 = .ok (.aload_n 0, 1) := by decide +kernel
theorem dX1_cornerBy_24 : decode bX1_cornerBy 24 = .ok (.getfield 15, 3) := by decide +kernel
theorem dX1_cornerBy_27 : decode bX1_cornerBy 27 = .ok (.iload 5, 2) := by decide +kernel
theorem dX1_cornerBy_29 : decode bX1_cornerBy 29 = .ok (.aload_n 0, 1) := by decide +kernel
theorem dX1_cornerBy_30 : decode bX1_cornerBy 30 = .ok (.getfield 24, 3) := by decide +kernel
theorem dX1_cornerBy_33 : decode bX1_cornerBy 33 = .ok (.iload 4, 2) := by decide +kernel
theorem dX1_cornerBy_35 : decode bX1_cornerBy 35 = .ok (.iload 5, 2) := by decide +kernel
theorem dX1_cornerBy_37 : decode bX1_cornerBy 37 = .ok (.aload_n 1, 1) := by decide +kernel
theorem dX1_cornerBy_38 : decode bX1_cornerBy 38 = .ok (.getfield 48, 3) := by decide +kernel
theorem dX1_cornerBy_41 : decode bX1_cornerBy 41 = .ok (.invokevirtual 51, 3) := by decide +kernel
theorem dX1_cornerBy_44 : decode bX1_cornerBy 44 = .ok (.iastore, 1) := by decide +kernel
theorem dX1_cornerBy_45 : decode bX1_cornerBy 45 = .ok (.iinc 5 1, 3) := by decide +kernel
theorem dX1_cornerBy_48 : decode bX1_cornerBy 48 = .ok (.goto (-32), 3) := by decide +kernel
theorem dX1_cornerBy_51 : decode bX1_cornerBy 51 = .ok (.aload_n 1, 1) := by decide +kernel
theorem dX1_cornerBy_52 : decode bX1_cornerBy 52 = .ok (.dup, 1) := by decide +kernel
theorem dX1_cornerBy_53 : decode bX1_cornerBy 53 = .ok (.getfield 34, 3) := by decide +kernel
theorem dX1_cornerBy_56 : decode bX1_cornerBy 56 = .ok (.iconst 1, 1) := by decide +kernel
theorem dX1_cornerBy_57 : decode bX1_cornerBy 57 = .ok (.iload_n 2, 1) := by decide +kernel
theorem dX1_cornerBy_58 : decode bX1_cornerBy 58 = .ok (.ishl, 1) := by decide +kernel
theorem dX1_cornerBy_59 : decode bX1_cornerBy 59 = .ok (.iconst (-1), 1) := by decide +kernel
theorem dX1_cornerBy_60 : decode bX1_cornerBy 60 = .ok (.ixor, 1) := by decide +kernel
theorem dX1_cornerBy_61 : decode bX1_cornerBy 61 = .ok (.iand, 1) := by decide +kernel
theorem dX1_cornerBy_62 : decode bX1_cornerBy 62 = .ok (.putfield 34, 3) := by decide +kernel
theorem dX1_cornerBy_65 : decode bX1_cornerBy 65 = .ok (.aload_n 0, 1) := by decide +kernel
theorem dX1_cornerBy_66 : decode bX1_cornerBy 66 = .ok (.bipush (-4), 2) := by decide +kernel
theorem dX1_cornerBy_68 : decode bX1_cornerBy 68 = .ok (.putfield 57, 3) := by decide +kernel
theorem dX1_cornerBy_71 : decode bX1_cornerBy 71 = .ok (.iconst 1, 1) := by decide +kernel
theorem dX1_cornerBy_72 : decode bX1_cornerBy 72 = .ok (.istore 5, 2) := by decide +kernel
theorem dX1_cornerBy_74 : decode bX1_cornerBy 74 = .ok (.iload 5, 2) := by decide +kernel
theorem dX1_cornerBy_76 : decode bX1_cornerBy 76 = .ok (.bipush 99, 2) := by decide +kernel
theorem dX1_cornerBy_78 : decode bX1_cornerBy 78 = .ok (.if_icmp .gt 42, 3) := by decide +kernel
theorem dX1_cornerBy_81 : decode bX1_cornerBy 81 = .ok (.aload_n 0, 1) := by decide +kernel
theorem dX1_cornerBy_82 : decode bX1_cornerBy 82 = .ok (.getfield 15, 3) := by decide +kernel
theorem dX1_cornerBy_85 : decode bX1_cornerBy 85 = .ok (.iload 5, 2) := by decide +kernel
theorem dX1_cornerBy_87 : decode bX1_cornerBy 87 = .ok (.iaload, 1) := by decide +kernel
theorem dX1_cornerBy_88 : decode bX1_cornerBy 88 = .ok (.ifCond .eq 26, 3) := by decide +kernel
theorem dX1_cornerBy_91 : decode bX1_cornerBy 91 = .ok (.aload_n 0, 1) := by decide +kernel
theorem dX1_cornerBy_92 : decode bX1_cornerBy 92 = .ok (.aload_n 1, 1) := by decide +kernel
theorem dX1_cornerBy_93 : decode bX1_cornerBy 93 = .ok (.iload_n 3, 1) := by decide +kernel
theorem dX1_cornerBy_94 : decode bX1_cornerBy 94 = .ok (.aload_n 0, 1) := by decide +kernel
theorem dX1_cornerBy_95 : decode bX1_cornerBy 95 = .ok (.getfield 15, 3) := by decide +kernel
theorem dX1_cornerBy_98 : decode bX1_cornerBy 98 = .ok (.iload 5, 2) := by decide +kernel
theorem dX1_cornerBy_100 : decode bX1_cornerBy 100 = .ok (.iaload, 1) := by decide +kernel
theorem dX1_cornerBy_101 : decode bX1_cornerBy 101 = .ok (.ior, 1) := by decide +kernel
theorem dX1_cornerBy_102 : decode bX1_cornerBy 102 = .ok (.invokevirtual 63, 3) := by decide +kernel
theorem dX1_cornerBy_105 : decode bX1_cornerBy 105 = .ok (.ifCond .eq 9, 3) := by decide +kernel
theorem dX1_cornerBy_108 : decode bX1_cornerBy 108 = .ok (.aload_n 0, 1) := by decide +kernel
theorem dX1_cornerBy_109 : decode bX1_cornerBy 109 = .ok (.iload 5, 2) := by decide +kernel
theorem dX1_cornerBy_111 : decode bX1_cornerBy 111 = .ok (.putfield 73, 3) := by decide +kernel
theorem dX1_cornerBy_114 : decode bX1_cornerBy 114 = .ok (.iinc 5 1, 3) := by decide +kernel
theorem dX1_cornerBy_117 : decode bX1_cornerBy 117 = .ok (.goto (-43), 3) := by decide +kernel
theorem dX1_cornerBy_120 : decode bX1_cornerBy 120 = .ok (.aload_n 0, 1) := by decide +kernel
theorem dX1_cornerBy_121 : decode bX1_cornerBy 121 = .ok (.getfield 57, 3) := by decide +kernel
theorem dX1_cornerBy_124 : decode bX1_cornerBy 124 = .ok (.bipush (-4), 2) := by decide +kernel
theorem dX1_cornerBy_126 : decode bX1_cornerBy 126 = .ok (.if_icmp .eq 7, 3) := by decide +kernel
theorem dX1_cornerBy_129 : decode bX1_cornerBy 129 = .ok (.iconst 1, 1) := by decide +kernel
theorem dX1_cornerBy_130 : decode bX1_cornerBy 130 = .ok (.goto 4, 3) := by decide +kernel
theorem dX1_cornerBy_133 : decode bX1_cornerBy 133 = .ok (.iconst 0, 1) := by decide +kernel
theorem dX1_cornerBy_134 : decode bX1_cornerBy 134 = .ok (.ireturn, 1) := by decide +kernel
section
variable {p : Program} {l : Launch} {e : Env} {s : State} {m : MethodId} {args : Array Value} {below : List Frame} {meth : Method} {c : Code} {G : GG} {n : Nat} {h' : Hp} {rv : Int32}
set_option maxHeartbeats 4000000
set_option maxRecDepth 100000
theorem j_X1_cornerBy_74 (C0 : Cx p s m args meth c G bX1_cornerBy RX1 6 (some .boolean) "cornerBy") (hN : NX ≤ n) : ∀ (fu : Nat), ∀ {H : Heap} {locs : List Loc} {ls : Array Slot} {h : Hp} {x0 : Nat} {x1 : Nat} {x3 : Int32} {x5 : Int32}, XW G n h s 0 H locs → lv_has ls 6 [(0, .ref (bs G + x0)), (1, .ref (bs G + x1)), (3, .int x3), (5, .int x5)] → kd x0 = 1 → kd x1 = 6 → f_X1_cornerBy_74 fu h x0 x1 x3 x5 = some (rv, h') → W p l e (rmC 6 0 0) s m args below meth c H locs 0 0 (MQ below (QP G n h' (some (.int rv))) args s 0 0 (Ab G)) (F0 m 74 ls []) := by
  obtain ⟨hx, hb, hr, hml, hown, hts, hK, hlocks, hnm⟩ := id C0
  intro fu
  induction fu with
  | zero => intro H locs ls h x0 x1 x3 x5 X hl o0 o1 hf; cases hf
  | succ fu ih =>
    intro H locs ls h x0 x1 x3 x5 X hl o0 o1 hf
    rw [f_X1_cornerBy_74] at hf
    refine lv_iload hx hb dX1_cornerBy_74 (lv_at hl 3 rfl) ?_
    refine lv_bipush (v := (99 : Int32)) hx hb dX1_cornerBy_76 (by decide) ?_
    refine lv_icmp_gt (tgt := 120) hx hb dX1_cornerBy_78 (by decide) (fun c78 => ?_) (fun c78 => ?_)
    · have hf := ite_t hf c78
      refine lv_aload_n hx hb dX1_cornerBy_120 rfl (lv_at hl 0 rfl) ?_
      refine g_I hx hb hts hown hK X o0 hN fl_X1_57 (by decide) rfl dX1_cornerBy_121 ?_
      refine lv_bipush (v := (-4 : Int32)) hx hb dX1_cornerBy_124 (by decide) ?_
      refine lv_icmp_eq (tgt := 133) hx hb dX1_cornerBy_126 (by decide) (fun c126 => ?_) (fun c126 => ?_)
      · have hf := ite_t hf c126
        refine lv_iconst (v := (0 : Int32)) hx hb dX1_cornerBy_133 (by decide) ?_
        exact r_Z hx hb hr hlocks X rfl hf dX1_cornerBy_134
      · have hf := ite_f hf c126
        refine lv_iconst (v := (1 : Int32)) hx hb dX1_cornerBy_129 (by decide) ?_
        refine lv_goto (tgt := 134) hx hb dX1_cornerBy_130 (by decide) ?_
        exact r_Z hx hb hr hlocks X rfl hf dX1_cornerBy_134
    · have hf := ite_f hf c78
      refine lv_aload_n hx hb dX1_cornerBy_81 rfl (lv_at hl 0 rfl) ?_
      obtain ⟨g1, hf⟩ := gd_e hf
      refine g_R hx hb hts hown hK X o0 hN g1 fl_X1_15 (by decide) rfl (by decide) dX1_cornerBy_82 ?_
      refine lv_iload hx hb dX1_cornerBy_85 (lv_at hl 3 rfl) ?_
      obtain ⟨g2, hf⟩ := gd_e hf
      refine g_ia hx hb hK X g1 hN g2 (by decide) dX1_cornerBy_87 ?_
      refine lv_if_eq (tgt := 114) hx hb dX1_cornerBy_88 (by decide) (fun c88 => ?_) (fun c88 => ?_)
      · have hf := ite_t hf c88
        refine lv_iinc (v := (x5 + (1 : Int32))) (lv' := [(5, .int (x5 + (1 : Int32))), (0, .ref (bs G + x0)), (1, .ref (bs G + x1)), (3, .int x3)]) hx hb dX1_cornerBy_114 hl (k := 3) rfl rfl (by decide) rfl (fun ls hl => ?_)
        refine lv_goto (tgt := 74) hx hb dX1_cornerBy_117 (by decide) ?_
        exact ih X (lv_sub hl [1, 2, 3, 0] rfl) o0 o1 hf
      · have hf := ite_f hf c88
        refine lv_aload_n hx hb dX1_cornerBy_91 rfl (lv_at hl 0 rfl) ?_
        refine lv_aload_n hx hb dX1_cornerBy_92 rfl (lv_at hl 1 rfl) ?_
        refine lv_iload_n hx hb dX1_cornerBy_93 rfl (lv_at hl 2 rfl) ?_
        refine lv_aload_n hx hb dX1_cornerBy_94 rfl (lv_at hl 0 rfl) ?_
        obtain ⟨g3, hf⟩ := gd_e hf
        refine g_R hx hb hts hown hK X o0 hN g3 fl_X1_15 (by decide) rfl (by decide) dX1_cornerBy_95 ?_
        refine lv_iload hx hb dX1_cornerBy_98 (lv_at hl 3 rfl) ?_
        obtain ⟨g4, hf⟩ := gd_e hf
        refine g_ia hx hb hK X g3 hN g4 (by decide) dX1_cornerBy_100 ?_
        refine lv_ior hx hb dX1_cornerBy_101 ?_
        obtain ⟨r5, h6, q7, hf⟩ := bd_e hf
        refine c_V0 (As := [.ref (bs G + x1), .int (x3 ||| (h.1 (h.2 x0 7) x5.toNatClampNeg))]) (rest := []) (st1 := [.int r5]) hx hb hml hown hts hK X (k_X1_getsWorse l G n hN q7) o0 hN lc_X1_getsWorse lv_X1_63 (ci := 1) rfl rfl (by decide) rfl hl.1 (Nat.le_of_ble_eq_true rfl) dX1_cornerBy_102 rfl (fun H locs X => ?_)
        refine lv_if_eq (tgt := 114) hx hb dX1_cornerBy_105 (by decide) (fun c105 => ?_) (fun c105 => ?_)
        · have hf := ite_t hf c105
          refine lv_iinc (v := (x5 + (1 : Int32))) (lv' := [(5, .int (x5 + (1 : Int32))), (0, .ref (bs G + x0)), (1, .ref (bs G + x1)), (3, .int x3)]) hx hb dX1_cornerBy_114 hl (k := 3) rfl rfl (by decide) rfl (fun ls hl => ?_)
          refine lv_goto (tgt := 74) hx hb dX1_cornerBy_117 (by decide) ?_
          exact ih X (lv_sub hl [1, 2, 3, 0] rfl) o0 o1 hf
        · have hf := ite_f hf c105
          refine lv_aload_n hx hb dX1_cornerBy_108 rfl (lv_at hl 0 rfl) ?_
          refine lv_iload hx hb dX1_cornerBy_109 (lv_at hl 3 rfl) ?_
          refine g_PI hx hb hts hown hK X o0 hN fl_X1_73 ft_1_3 (by decide) rfl dX1_cornerBy_111 (fun H locs X => ?_)
          obtain ⟨h8, e9, hf⟩ := lt_e hf
          rw [← e9] at X
          refine lv_iinc (v := (x5 + (1 : Int32))) (lv' := [(5, .int (x5 + (1 : Int32))), (0, .ref (bs G + x0)), (1, .ref (bs G + x1)), (3, .int x3)]) hx hb dX1_cornerBy_114 hl (k := 3) rfl rfl (by decide) rfl (fun ls hl => ?_)
          refine lv_goto (tgt := 74) hx hb dX1_cornerBy_117 (by decide) ?_
          exact ih X (lv_sub hl [1, 2, 3, 0] rfl) o0 o1 hf
theorem j_X1_cornerBy_16 (C0 : Cx p s m args meth c G bX1_cornerBy RX1 6 (some .boolean) "cornerBy") (hN : NX ≤ n) : ∀ (fu : Nat), ∀ {H : Heap} {locs : List Loc} {ls : Array Slot} {h : Hp} {x0 : Nat} {x1 : Nat} {x2 : Int32} {x3 : Int32} {x4 : Int32} {x5 : Int32}, XW G n h s 0 H locs → lv_has ls 6 [(0, .ref (bs G + x0)), (1, .ref (bs G + x1)), (2, .int x2), (3, .int x3), (4, .int x4), (5, .int x5)] → kd x0 = 1 → kd x1 = 6 → f_X1_cornerBy_16 fu h x0 x1 x2 x3 x4 x5 = some (rv, h') → W p l e (rmC 6 0 0) s m args below meth c H locs 0 0 (MQ below (QP G n h' (some (.int rv))) args s 0 0 (Ab G)) (F0 m 16 ls []) := by
  obtain ⟨hx, hb, hr, hml, hown, hts, hK, hlocks, hnm⟩ := id C0
  intro fu
  induction fu with
  | zero => intro H locs ls h x0 x1 x2 x3 x4 x5 X hl o0 o1 hf; cases hf
  | succ fu ih =>
    intro H locs ls h x0 x1 x2 x3 x4 x5 X hl o0 o1 hf
    rw [f_X1_cornerBy_16] at hf
    refine lv_iload hx hb dX1_cornerBy_16 (lv_at hl 5 rfl) ?_
    refine lv_bipush (v := (99 : Int32)) hx hb dX1_cornerBy_18 (by decide) ?_
    refine lv_icmp_gt (tgt := 51) hx hb dX1_cornerBy_20 (by decide) (fun c20 => ?_) (fun c20 => ?_)
    · have hf := ite_t hf c20
      refine lv_aload_n hx hb dX1_cornerBy_51 rfl (lv_at hl 1 rfl) ?_
      refine lv_dup hx hb dX1_cornerBy_52 rfl ?_
      refine g_I hx hb hts hown hK X o1 hN fl_X1_34 (by decide) rfl dX1_cornerBy_53 ?_
      refine lv_iconst (v := (1 : Int32)) hx hb dX1_cornerBy_56 (by decide) ?_
      refine lv_iload_n hx hb dX1_cornerBy_57 rfl (lv_at hl 2 rfl) ?_
      refine lv_ishl hx hb dX1_cornerBy_58 ?_
      refine lv_iconst (v := (-1 : Int32)) hx hb dX1_cornerBy_59 (by decide) ?_
      refine lv_ixor hx hb dX1_cornerBy_60 ?_
      refine lv_iand hx hb dX1_cornerBy_61 ?_
      refine g_PI hx hb hts hown hK X o1 hN fl_X1_34 ft_6_0 (by decide) rfl dX1_cornerBy_62 (fun H locs X => ?_)
      obtain ⟨h1, e2, hf⟩ := lt_e hf
      rw [← e2] at X
      refine lv_aload_n hx hb dX1_cornerBy_65 rfl (lv_at hl 0 rfl) ?_
      refine lv_bipush (v := (-4 : Int32)) hx hb dX1_cornerBy_66 (by decide) ?_
      refine g_PI hx hb hts hown hK X o0 hN fl_X1_57 ft_1_0 (by decide) rfl dX1_cornerBy_68 (fun H locs X => ?_)
      obtain ⟨h3, e4, hf⟩ := lt_e hf
      rw [← e4] at X
      refine lv_iconst (v := (1 : Int32)) hx hb dX1_cornerBy_71 (by decide) ?_
      refine lv_istore (lv' := [(5, .int (1 : Int32)), (0, .ref (bs G + x0)), (1, .ref (bs G + x1)), (2, .int x2), (3, .int x3), (4, .int x4)]) hx hb dX1_cornerBy_72 hl (by decide) rfl (fun ls hl => ?_)
      exact j_X1_cornerBy_74 C0 hN FU X (lv_sub hl [1, 2, 4, 0] rfl) o0 o1 hf
    · have hf := ite_f hf c20
      refine lv_aload_n hx hb dX1_cornerBy_23 rfl (lv_at hl 0 rfl) ?_
      obtain ⟨g5, hf⟩ := gd_e hf
      refine g_R hx hb hts hown hK X o0 hN g5 fl_X1_15 (by decide) rfl (by decide) dX1_cornerBy_24 ?_
      refine lv_iload hx hb dX1_cornerBy_27 (lv_at hl 5 rfl) ?_
      refine lv_aload_n hx hb dX1_cornerBy_29 rfl (lv_at hl 0 rfl) ?_
      obtain ⟨g6, hf⟩ := gd_e hf
      refine g_R hx hb hts hown hK X o0 hN g6 fl_X1_24 (by decide) rfl (by decide) dX1_cornerBy_30 ?_
      refine lv_iload hx hb dX1_cornerBy_33 (lv_at hl 4 rfl) ?_
      refine lv_iload hx hb dX1_cornerBy_35 (lv_at hl 5 rfl) ?_
      refine lv_aload_n hx hb dX1_cornerBy_37 rfl (lv_at hl 1 rfl) ?_
      refine g_I hx hb hts hown hK X o1 hN fl_X1_48 (by decide) rfl dX1_cornerBy_38 ?_
      obtain ⟨r7, h8, q9, hf⟩ := bd_e hf
      refine c_V0 (As := [.int x4, .int x5, .int (h.1 x1 4)]) (rest := [.int x5, .ref (bs G + (h.2 x0 7))]) (st1 := [.int r7, .int x5, .ref (bs G + (h.2 x0 7))]) hx hb hml hown hts hK X (k_X5_find l G n hN q9) g6 hN lc_X5_find lv_X1_51 (ci := 5) rfl rfl (by decide) rfl hl.1 (Nat.le_of_ble_eq_true rfl) dX1_cornerBy_41 rfl (fun H locs X => ?_)
      obtain ⟨g10, hf⟩ := gd_e hf
      refine g_is hx hb hK X g5 hN g10 (by decide) dX1_cornerBy_44 (fun H locs X => ?_)
      obtain ⟨h11, e12, hf⟩ := lt_e hf
      rw [← e12] at X
      refine lv_iinc (v := (x5 + (1 : Int32))) (lv' := [(5, .int (x5 + (1 : Int32))), (0, .ref (bs G + x0)), (1, .ref (bs G + x1)), (2, .int x2), (3, .int x3), (4, .int x4)]) hx hb dX1_cornerBy_45 hl (k := 5) rfl rfl (by decide) rfl (fun ls hl => ?_)
      refine lv_goto (tgt := 16) hx hb dX1_cornerBy_48 (by decide) ?_
      exact ih X (lv_sub hl [1, 2, 3, 4, 5, 0] rfl) o0 o1 hf
theorem k_X1_cornerBy (l : Launch) (G : GG) (n : Nat) (hN : NX ≤ n) {h h' : Hp} {x0 : Nat} {x1 : Nat} {x2 : Int32} {rv : Int32} (hf : f_X1_cornerBy h x0 x1 x2 = some (rv, h')) : CT l G n n yX1_cornerBy (.code yX1_cornerBy bX1_cornerBy 6 (some .boolean)) 6 0 0 [.ref (bs G + x0), .ref (bs G + x1), .int x2] h h' (some (.int rv)) := by
  refine ct_of (maxL := 6) (ret := (some .boolean)) (bytes := bX1_cornerBy) (by decide) (Nat.le_of_ble_eq_true rfl) (fun p e s m below meth c C0 X ls hl => ?_)
  have hl : lv_has ls 6 [(0, .ref (bs G + x0)), (1, .ref (bs G + x1)), (2, .int x2)] := hl
  obtain ⟨hx, hb, hr, hml, hown, hts, hK, hlocks, hnm⟩ := id C0
  unfold f_X1_cornerBy at hf
  obtain ⟨o0, hf⟩ := gd_e hf
  obtain ⟨o1, hf⟩ := gd_e hf
  refine lv_aload_n hx hb dX1_cornerBy_0 rfl (lv_at hl 1 rfl) ?_
  refine g_I hx hb hts hown hK X o1 hN fl_X1_28 (by decide) rfl dX1_cornerBy_1 ?_
  refine lv_istore_n (lv' := [(3, .int (h.1 x1 2)), (0, .ref (bs G + x0)), (1, .ref (bs G + x1)), (2, .int x2)]) hx hb dX1_cornerBy_4 rfl hl (by decide) rfl (fun ls hl => ?_)
  refine lv_aload_n hx hb dX1_cornerBy_5 rfl (lv_at hl 2 rfl) ?_
  refine lv_iload_n hx hb dX1_cornerBy_6 rfl (lv_at hl 3 rfl) ?_
  refine lv_iload_n hx hb dX1_cornerBy_7 rfl (lv_at hl 0 rfl) ?_
  obtain ⟨r1, h2, q3, hf⟩ := bd_e hf
  refine c_V0 (As := [.int x2, .int (h.1 x1 2)]) (rest := []) (st1 := [.int r1]) hx hb hml hown hts hK X (k_X6_mayUse l G n hN q3) o1 hN lc_X6_mayUse lv_X1_41 (ci := 6) rfl rfl (by decide) rfl hl.1 (Nat.le_of_ble_eq_true rfl) dX1_cornerBy_8 rfl (fun H locs X => ?_)
  refine lv_istore (lv' := [(4, .int r1), (3, .int (h.1 x1 2)), (0, .ref (bs G + x0)), (1, .ref (bs G + x1)), (2, .int x2)]) hx hb dX1_cornerBy_11 hl (by decide) rfl (fun ls hl => ?_)
  refine lv_iconst (v := (1 : Int32)) hx hb dX1_cornerBy_13 (by decide) ?_
  refine lv_istore (lv' := [(5, .int (1 : Int32)), (4, .int r1), (3, .int (h.1 x1 2)), (0, .ref (bs G + x0)), (1, .ref (bs G + x1)), (2, .int x2)]) hx hb dX1_cornerBy_14 hl (by decide) rfl (fun ls hl => ?_)
  exact j_X1_cornerBy_16 C0 hN FU X (lv_sub hl [3, 4, 5, 2, 1, 0] rfl) o0 o1 hf
end
theorem dX1_ableAt_0 : decode bX1_ableAt 0 = .ok (.iconst 0, 1) := by decide +kernel
theorem dX1_ableAt_1 : decode bX1_ableAt 1 = .ok (.istore 5, 2) := by decide +kernel
theorem dX1_ableAt_3 : decode bX1_ableAt 3 = .ok (.iconst 0, 1) := by decide +kernel
theorem dX1_ableAt_4 : decode bX1_ableAt 4 = .ok (.istore 6, 2) := by decide +kernel
theorem dX1_ableAt_6 : decode bX1_ableAt 6 = .ok (.iload 6, 2) := by decide +kernel
theorem dX1_ableAt_8 : decode bX1_ableAt 8 = .ok (.bipush 6, 2) := by decide +kernel
theorem dX1_ableAt_10 : decode bX1_ableAt 10 = .ok (.if_icmp .ge 78, 3) := by decide +kernel
theorem dX1_ableAt_13 : decode bX1_ableAt 13 = .ok (.iload 4, 2) := by decide +kernel
theorem dX1_ableAt_15 : decode bX1_ableAt 15 = .ok (.iload 6, 2) := by decide +kernel
theorem dX1_ableAt_17 : decode bX1_ableAt 17 = .ok (.invokestatic 37, 3) := by decide +kernel
theorem dX1_ableAt_20 : decode bX1_ableAt 20 = .ok (.ifCond .eq 62, 3) := by decide +kernel
theorem dX1_ableAt_23 : decode bX1_ableAt 23 = .ok (.aload_n 0, 1) := by decide +kernel
theorem dX1_ableAt_24 : decode bX1_ableAt 24 = .ok (.getfield 24, 3) := by decide +kernel
theorem dX1_ableAt_27 : decode bX1_ableAt 27 = .ok (.aload_n 1, 1) := by decide +kernel
theorem dX1_ableAt_28 : decode bX1_ableAt 28 = .ok (.iload 6, 2) := by decide +kernel
theorem dX1_ableAt_30 : decode bX1_ableAt 30 = .ok (.iload_n 3, 1) := by decide +kernel
theorem dX1_ableAt_31 : decode bX1_ableAt 31 = .ok (.invokevirtual 41, 3) := by decide +kernel
theorem dX1_ableAt_34 : decode bX1_ableAt 34 = .ok (.aload_n 1, 1) := by decide +kernel
theorem dX1_ableAt_35 : decode bX1_ableAt 35 = .ok (.getfield 45, 3) := by decide +kernel
theorem dX1_ableAt_38 : decode bX1_ableAt 38 = .ok (.iload 6, 2) := by decide +kernel
theorem dX1_ableAt_40 : decode bX1_ableAt 40 = .ok (.iaload, 1) := by decide +kernel
theorem dX1_ableAt_41 : decode bX1_ableAt 41 = .ok (.aload_n 1, 1) := by decide +kernel
theorem dX1_ableAt_42 : decode bX1_ableAt 42 = .ok (.getfield 48, 3) := by decide +kernel
theorem dX1_ableAt_45 : decode bX1_ableAt 45 = .ok (.invokevirtual 51, 3) := by decide +kernel
theorem dX1_ableAt_48 : decode bX1_ableAt 48 = .ok (.istore 7, 2) := by decide +kernel
theorem dX1_ableAt_50 : decode bX1_ableAt 50 = .ok (.aload_n 0, 1) := by decide +kernel
theorem dX1_ableAt_51 : decode bX1_ableAt 51 = .ok (.getfield 21, 3) := by decide +kernel
theorem dX1_ableAt_54 : decode bX1_ableAt 54 = .ok (.iload_n 2, 1) := by decide +kernel
theorem dX1_ableAt_55 : decode bX1_ableAt 55 = .ok (.bipush 6, 2) := by decide +kernel
theorem dX1_ableAt_57 : decode bX1_ableAt 57 = .ok (.imul, 1) := by decide +kernel
theorem dX1_ableAt_58 : decode bX1_ableAt 58 = .ok (.iload 6, 2) := by decide +kernel
theorem dX1_ableAt_60 : decode bX1_ableAt 60 = .ok (.iadd, 1) := by decide +kernel
theorem dX1_ableAt_61 : decode bX1_ableAt 61 = .ok (.iload 7, 2) := by decide +kernel
theorem dX1_ableAt_63 : decode bX1_ableAt 63 = .ok (.iastore, 1) := by decide +kernel
theorem dX1_ableAt_64 : decode bX1_ableAt 64 = .ok (.iload 5, 2) := by decide +kernel
theorem dX1_ableAt_66 : decode bX1_ableAt 66 = .ok (.iload 7, 2) := by decide +kernel
theorem dX1_ableAt_68 : decode bX1_ableAt 68 = .ok (.ifCond .eq 10, 3) := by decide +kernel
theorem dX1_ableAt_71 : decode bX1_ableAt 71 = .ok (.iconst 1, 1) := by decide +kernel
theorem dX1_ableAt_72 : decode bX1_ableAt 72 = .ok (.iload 6, 2) := by decide +kernel
theorem dX1_ableAt_74 : decode bX1_ableAt 74 = .ok (.ishl, 1) := by decide +kernel
theorem dX1_ableAt_75 : decode bX1_ableAt 75 = .ok (.goto 4, 3) := by decide +kernel
theorem dX1_ableAt_78 : decode bX1_ableAt 78 = .ok (.iconst 0, 1) := by decide +kernel
theorem dX1_ableAt_79 : decode bX1_ableAt 79 = .ok (.ior, 1) := by decide +kernel
theorem dX1_ableAt_80 : decode bX1_ableAt 80 = .ok (.istore 5, 2) := by decide +kernel
theorem dX1_ableAt_82 : decode bX1_ableAt 82 = .ok (.iinc 6 1, 3) := by decide +kernel
theorem dX1_ableAt_85 : decode bX1_ableAt 85 = .ok (.goto (-79), 3) := by decide +kernel
theorem dX1_ableAt_88 : decode bX1_ableAt 88 = .ok (.iload 5, 2) := by decide +kernel
theorem dX1_ableAt_90 : decode bX1_ableAt 90 = .ok (.ireturn, 1) := by decide +kernel
section
variable {p : Program} {l : Launch} {e : Env} {s : State} {m : MethodId} {args : Array Value} {below : List Frame} {meth : Method} {c : Code} {G : GG} {n : Nat} {h' : Hp} {rv : Int32}
set_option maxHeartbeats 4000000
set_option maxRecDepth 100000
theorem j_X1_ableAt_6 (C0 : Cx p s m args meth c G bX1_ableAt RX1 8 (some .int) "ableAt") (hN : NX ≤ n) : ∀ (fu : Nat), ∀ {H : Heap} {locs : List Loc} {ls : Array Slot} {h : Hp} {x0 : Nat} {x1 : Nat} {x2 : Int32} {x3 : Int32} {x4 : Int32} {x5 : Int32} {x6 : Int32}, XW G n h s 0 H locs → lv_has ls 8 [(0, .ref (bs G + x0)), (1, .ref (bs G + x1)), (2, .int x2), (3, .int x3), (4, .int x4), (5, .int x5), (6, .int x6)] → kd x0 = 1 → kd x1 = 6 → f_X1_ableAt_6 fu h x0 x1 x2 x3 x4 x5 x6 = some (rv, h') → W p l e (rmC 4 0 0) s m args below meth c H locs 0 0 (MQ below (QP G n h' (some (.int rv))) args s 0 0 (Ab G)) (F0 m 6 ls []) := by
  obtain ⟨hx, hb, hr, hml, hown, hts, hK, hlocks, hnm⟩ := id C0
  intro fu
  induction fu with
  | zero => intro H locs ls h x0 x1 x2 x3 x4 x5 x6 X hl o0 o1 hf; cases hf
  | succ fu ih =>
    intro H locs ls h x0 x1 x2 x3 x4 x5 x6 X hl o0 o1 hf
    rw [f_X1_ableAt_6] at hf
    refine lv_iload hx hb dX1_ableAt_6 (lv_at hl 6 rfl) ?_
    refine lv_bipush (v := (6 : Int32)) hx hb dX1_ableAt_8 (by decide) ?_
    refine lv_icmp_ge (tgt := 88) hx hb dX1_ableAt_10 (by decide) (fun c10 => ?_) (fun c10 => ?_)
    · have hf := ite_t hf c10
      refine lv_iload hx hb dX1_ableAt_88 (lv_at hl 5 rfl) ?_
      exact r_I hx hb hr hlocks X hf dX1_ableAt_90
    · have hf := ite_f hf c10
      refine lv_iload hx hb dX1_ableAt_13 (lv_at hl 4 rfl) ?_
      refine lv_iload hx hb dX1_ableAt_15 (lv_at hl 6 rfl) ?_
      obtain ⟨r1, h2, q3, hf⟩ := bd_e hf
      refine c_SN0 (As := [.int x4, .int x6]) (rest := []) (st1 := [.int r1]) hx hb hml hown hts hK X (k_X11_hasBit l G n hN q3) lc_X11_hasBit ls_X1_37 (by decide) rfl hl.1 (Nat.le_of_ble_eq_true rfl) dX1_ableAt_17 rfl (fun H locs X => ?_)
      refine lv_if_eq (tgt := 82) hx hb dX1_ableAt_20 (by decide) (fun c20 => ?_) (fun c20 => ?_)
      · have hf := ite_t hf c20
        refine lv_iinc (v := (x6 + (1 : Int32))) (lv' := [(6, .int (x6 + (1 : Int32))), (0, .ref (bs G + x0)), (1, .ref (bs G + x1)), (2, .int x2), (3, .int x3), (4, .int x4), (5, .int x5)]) hx hb dX1_ableAt_82 hl (k := 6) rfl rfl (by decide) rfl (fun ls hl => ?_)
        refine lv_goto (tgt := 6) hx hb dX1_ableAt_85 (by decide) ?_
        exact ih X (lv_sub hl [1, 2, 3, 4, 5, 6, 0] rfl) o0 o1 hf
      · have hf := ite_f hf c20
        refine lv_aload_n hx hb dX1_ableAt_23 rfl (lv_at hl 0 rfl) ?_
        obtain ⟨g4, hf⟩ := gd_e hf
        refine g_R hx hb hts hown hK X o0 hN g4 fl_X1_24 (by decide) rfl (by decide) dX1_ableAt_24 ?_
        refine lv_aload_n hx hb dX1_ableAt_27 rfl (lv_at hl 1 rfl) ?_
        refine lv_iload hx hb dX1_ableAt_28 (lv_at hl 6 rfl) ?_
        refine lv_iload_n hx hb dX1_ableAt_30 rfl (lv_at hl 3 rfl) ?_
        obtain ⟨r5, h6, q7, hf⟩ := bd_e hf
        refine c_V0 (As := [.int x6, .int x3]) (rest := [.ref (bs G + (h2.2 x0 6))]) (st1 := [.int r5, .ref (bs G + (h2.2 x0 6))]) hx hb hml hown hts hK X (k_X6_mayUse l G n hN q7) o1 hN lc_X6_mayUse lv_X1_41 (ci := 6) rfl rfl (by decide) rfl hl.1 (Nat.le_of_ble_eq_true rfl) dX1_ableAt_31 rfl (fun H locs X => ?_)
        refine lv_aload_n hx hb dX1_ableAt_34 rfl (lv_at hl 1 rfl) ?_
        obtain ⟨g8, hf⟩ := gd_e hf
        refine g_R hx hb hts hown hK X o1 hN g8 fl_X1_45 (by decide) rfl (by decide) dX1_ableAt_35 ?_
        refine lv_iload hx hb dX1_ableAt_38 (lv_at hl 6 rfl) ?_
        obtain ⟨g9, hf⟩ := gd_e hf
        refine g_ia hx hb hK X g8 hN g9 (by decide) dX1_ableAt_40 ?_
        refine lv_aload_n hx hb dX1_ableAt_41 rfl (lv_at hl 1 rfl) ?_
        refine g_I hx hb hts hown hK X o1 hN fl_X1_48 (by decide) rfl dX1_ableAt_42 ?_
        obtain ⟨r10, h11, q12, hf⟩ := bd_e hf
        refine c_V0 (As := [.int r5, .int (h6.1 (h6.2 x1 5) x6.toNatClampNeg), .int (h6.1 x1 4)]) (rest := []) (st1 := [.int r10]) hx hb hml hown hts hK X (k_X5_find l G n hN q12) g4 hN lc_X5_find lv_X1_51 (ci := 5) rfl rfl (by decide) rfl hl.1 (Nat.le_of_ble_eq_true rfl) dX1_ableAt_45 rfl (fun H locs X => ?_)
        refine lv_istore (lv' := [(7, .int r10), (0, .ref (bs G + x0)), (1, .ref (bs G + x1)), (2, .int x2), (3, .int x3), (4, .int x4), (5, .int x5), (6, .int x6)]) hx hb dX1_ableAt_48 hl (by decide) rfl (fun ls hl => ?_)
        refine lv_aload_n hx hb dX1_ableAt_50 rfl (lv_at hl 1 rfl) ?_
        obtain ⟨g13, hf⟩ := gd_e hf
        refine g_R hx hb hts hown hK X o0 hN g13 fl_X1_21 (by decide) rfl (by decide) dX1_ableAt_51 ?_
        refine lv_iload_n hx hb dX1_ableAt_54 rfl (lv_at hl 3 rfl) ?_
        refine lv_bipush (v := (6 : Int32)) hx hb dX1_ableAt_55 (by decide) ?_
        refine lv_imul hx hb dX1_ableAt_57 ?_
        refine lv_iload hx hb dX1_ableAt_58 (lv_at hl 7 rfl) ?_
        refine lv_iadd hx hb dX1_ableAt_60 ?_
        refine lv_iload hx hb dX1_ableAt_61 (lv_at hl 0 rfl) ?_
        obtain ⟨g14, hf⟩ := gd_e hf
        refine g_is hx hb hK X g13 hN g14 (by decide) dX1_ableAt_63 (fun H locs X => ?_)
        obtain ⟨h15, e16, hf⟩ := lt_e hf
        rw [← e16] at X
        refine lv_iload hx hb dX1_ableAt_64 (lv_at hl 6 rfl) ?_
        refine lv_iload hx hb dX1_ableAt_66 (lv_at hl 0 rfl) ?_
        refine lv_if_eq (tgt := 78) hx hb dX1_ableAt_68 (by decide) (fun c68 => ?_) (fun c68 => ?_)
        · have hf := ite_t hf c68
          refine lv_iconst (v := (0 : Int32)) hx hb dX1_ableAt_78 (by decide) ?_
          refine lv_ior hx hb dX1_ableAt_79 ?_
          refine lv_istore (lv' := [(5, .int (x5 ||| (0 : Int32))), (7, .int r10), (0, .ref (bs G + x0)), (1, .ref (bs G + x1)), (2, .int x2), (3, .int x3), (4, .int x4), (6, .int x6)]) hx hb dX1_ableAt_80 hl (by decide) rfl (fun ls hl => ?_)
          refine lv_iinc (v := (x6 + (1 : Int32))) (lv' := [(6, .int (x6 + (1 : Int32))), (5, .int (x5 ||| (0 : Int32))), (7, .int r10), (0, .ref (bs G + x0)), (1, .ref (bs G + x1)), (2, .int x2), (3, .int x3), (4, .int x4)]) hx hb dX1_ableAt_82 hl (k := 7) rfl rfl (by decide) rfl (fun ls hl => ?_)
          refine lv_goto (tgt := 6) hx hb dX1_ableAt_85 (by decide) ?_
          exact ih X (lv_sub hl [3, 4, 5, 6, 7, 1, 0] rfl) o0 o1 hf
        · have hf := ite_f hf c68
          refine lv_iconst (v := (1 : Int32)) hx hb dX1_ableAt_71 (by decide) ?_
          refine lv_iload hx hb dX1_ableAt_72 (lv_at hl 7 rfl) ?_
          refine lv_ishl hx hb dX1_ableAt_74 ?_
          refine lv_goto (tgt := 79) hx hb dX1_ableAt_75 (by decide) ?_
          refine lv_ior hx hb dX1_ableAt_79 ?_
          refine lv_istore (lv' := [(5, .int (x5 ||| ((1 : Int32) <<< (x6 &&& 31)))), (7, .int r10), (0, .ref (bs G + x0)), (1, .ref (bs G + x1)), (2, .int x2), (3, .int x3), (4, .int x4), (6, .int x6)]) hx hb dX1_ableAt_80 hl (by decide) rfl (fun ls hl => ?_)
          refine lv_iinc (v := (x6 + (1 : Int32))) (lv' := [(6, .int (x6 + (1 : Int32))), (5, .int (x5 ||| ((1 : Int32) <<< (x6 &&& 31)))), (7, .int r10), (0, .ref (bs G + x0)), (1, .ref (bs G + x1)), (2, .int x2), (3, .int x3), (4, .int x4)]) hx hb dX1_ableAt_82 hl (k := 7) rfl rfl (by decide) rfl (fun ls hl => ?_)
          refine lv_goto (tgt := 6) hx hb dX1_ableAt_85 (by decide) ?_
          exact ih X (lv_sub hl [3, 4, 5, 6, 7, 1, 0] rfl) o0 o1 hf
theorem k_X1_ableAt (l : Launch) (G : GG) (n : Nat) (hN : NX ≤ n) {h h' : Hp} {x0 : Nat} {x1 : Nat} {x2 : Int32} {x3 : Int32} {x4 : Int32} {rv : Int32} (hf : f_X1_ableAt h x0 x1 x2 x3 x4 = some (rv, h')) : CT l G n n yX1_ableAt (.code yX1_ableAt bX1_ableAt 8 (some .int)) 4 0 0 [.ref (bs G + x0), .ref (bs G + x1), .int x2, .int x3, .int x4] h h' (some (.int rv)) := by
  refine ct_of (maxL := 8) (ret := (some .int)) (bytes := bX1_ableAt) (by decide) (Nat.le_of_ble_eq_true rfl) (fun p e s m below meth c C0 X ls hl => ?_)
  have hl : lv_has ls 8 [(0, .ref (bs G + x0)), (1, .ref (bs G + x1)), (2, .int x2), (3, .int x3), (4, .int x4)] := hl
  obtain ⟨hx, hb, hr, hml, hown, hts, hK, hlocks, hnm⟩ := id C0
  unfold f_X1_ableAt at hf
  obtain ⟨o0, hf⟩ := gd_e hf
  obtain ⟨o1, hf⟩ := gd_e hf
  refine lv_iconst (v := (0 : Int32)) hx hb dX1_ableAt_0 (by decide) ?_
  refine lv_istore (lv' := [(5, .int (0 : Int32)), (0, .ref (bs G + x0)), (1, .ref (bs G + x1)), (2, .int x2), (3, .int x3), (4, .int x4)]) hx hb dX1_ableAt_1 hl (by decide) rfl (fun ls hl => ?_)
  refine lv_iconst (v := (0 : Int32)) hx hb dX1_ableAt_3 (by decide) ?_
  refine lv_istore (lv' := [(6, .int (0 : Int32)), (5, .int (0 : Int32)), (0, .ref (bs G + x0)), (1, .ref (bs G + x1)), (2, .int x2), (3, .int x3), (4, .int x4)]) hx hb dX1_ableAt_4 hl (by decide) rfl (fun ls hl => ?_)
  exact j_X1_ableAt_6 C0 hN FU X (lv_sub hl [2, 3, 4, 5, 6, 1, 0] rfl) o0 o1 hf
end
theorem dX1_record_0 : decode bX1_record 0 = .ok (.aload_n 0, 1) := by decide +kernel
theorem dX1_record_1 : decode bX1_record 1 = .ok (.iload_n 3, 1) := by decide +kernel
theorem dX1_record_2 : decode bX1_record 2 = .ok (.putfield 76, 3) := by decide +kernel
theorem dX1_record_5 : decode bX1_record 5 = .ok (.iconst 0, 1) := by decide +kernel
theorem dX1_record_6 : decode bX1_record 6 = .ok (.istore 4, 2) := by decide +kernel
theorem dX1_record_8 : decode bX1_record 8 = .ok (.iload 4, 2) := by decide +kernel
theorem dX1_record_10 : decode bX1_record 10 = .ok (.iload_n 1, 1) := by decide +kernel
theorem dX1_record_11 : decode bX1_record 11 = .ok (.if_icmp .ge 30, 3) := by decide +kernel
theorem dX1_record_14 : decode bX1_record 14 = .ok (.iload 4, 2) := by decide +kernel
theorem dX1_record_16 : decode bX1_record 16 = .ok (.bipush 6, 2) := by decide +kernel
theorem dX1_record_18 : decode bX1_record 18 = .ok (.if_icmp .ge 23, 3) := by decide +kernel
theorem dX1_record_21 : decode bX1_record 21 = .ok (.aload_n 0, 1) := by decide +kernel
theorem dX1_record_22 : decode bX1_record 22 = .ok (.getfield 9, 3) := by decide +kernel
theorem dX1_record_25 : decode bX1_record 25 = .ok (.iload 4, 2) := by decide +kernel
theorem dX1_record_27 : decode bX1_record 27 = .ok (.aload_n 0, 1) := by decide +kernel
theorem dX1_record_28 : decode bX1_record 28 = .ok (.getfield 18, 3) := by decide +kernel
theorem dX1_record_31 : decode bX1_record 31 = .ok (.iload 4, 2) := by decide +kernel
theorem dX1_record_33 : decode bX1_record 33 = .ok (.iaload, 1) := by decide +kernel
theorem dX1_record_34 : decode bX1_record 34 = .ok (.iastore, 1) := by decide +kernel
theorem dX1_record_35 : decode bX1_record 35 = .ok (.iinc 4 1, 3) := by decide +kernel
theorem dX1_record_38 : decode bX1_record 38 = .ok (.goto (-30), 3) := by decide +kernel
theorem dX1_record_41 : decode bX1_record 41 = .ok (.iload_n 1, 1) := by decide +kernel
theorem dX1_record_42 : decode bX1_record 42 = .ok (.istore 4, 2) := by decide +kernel
theorem dX1_record_44 : decode bX1_record 44 = .ok (.iconst 0, 1) := by decide +kernel
theorem dX1_record_45 : decode bX1_record 45 = .ok (.istore 5, 2) := by decide +kernel
theorem dX1_record_47 : decode bX1_record 47 = .ok (.iload 5, 2) := by decide +kernel
theorem dX1_record_49 : decode bX1_record 49 = .ok (.bipush 6, 2) := by decide +kernel
theorem dX1_record_51 : decode bX1_record 51 = .ok (.if_icmp .ge 37, 3) := by decide +kernel
theorem dX1_record_54 : decode bX1_record 54 = .ok (.iload_n 2, 1) := by decide +kernel
theorem dX1_record_55 : decode bX1_record 55 = .ok (.iload 5, 2) := by decide +kernel
theorem dX1_record_57 : decode bX1_record 57 = .ok (.invokestatic 37, 3) := by decide +kernel
theorem dX1_record_60 : decode bX1_record 60 = .ok (.ifCond .eq 22, 3) := by decide +kernel
theorem dX1_record_63 : decode bX1_record 63 = .ok (.iload 4, 2) := by decide +kernel
theorem dX1_record_65 : decode bX1_record 65 = .ok (.bipush 6, 2) := by decide +kernel
theorem dX1_record_67 : decode bX1_record 67 = .ok (.if_icmp .ge 15, 3) := by decide +kernel
theorem dX1_record_70 : decode bX1_record 70 = .ok (.aload_n 0, 1) := by decide +kernel
theorem dX1_record_71 : decode bX1_record 71 = .ok (.getfield 9, 3) := by decide +kernel
theorem dX1_record_74 : decode bX1_record 74 = .ok (.iload 4, 2) := by decide +kernel
theorem dX1_record_76 : decode bX1_record 76 = .ok (.iload 5, 2) := by decide +kernel
theorem dX1_record_78 : decode bX1_record 78 = .ok (.iastore, 1) := by decide +kernel
theorem dX1_record_79 : decode bX1_record 79 = .ok (.iinc 4 1, 3) := by decide +kernel
theorem dX1_record_82 : decode bX1_record 82 = .ok (.iinc 5 1, 3) := by decide +kernel
theorem dX1_record_85 : decode bX1_record 85 = .ok (.goto (-38), 3) := by decide +kernel
theorem dX1_record_88 : decode bX1_record 88 = .ok (.return_, 1) := by decide +kernel
section
variable {p : Program} {l : Launch} {e : Env} {s : State} {m : MethodId} {args : Array Value} {below : List Frame} {meth : Method} {c : Code} {G : GG} {n : Nat} {h' : Hp} {rv : Unit}
set_option maxHeartbeats 4000000
set_option maxRecDepth 100000
theorem j_X1_record_47 (C0 : Cx p s m args meth c G bX1_record RX1 6 none "record") (hN : NX ≤ n) : ∀ (fu : Nat), ∀ {H : Heap} {locs : List Loc} {ls : Array Slot} {h : Hp} {x0 : Nat} {x2 : Int32} {x4 : Int32} {x5 : Int32}, XW G n h s 0 H locs → lv_has ls 6 [(0, .ref (bs G + x0)), (2, .int x2), (4, .int x4), (5, .int x5)] → kd x0 = 1 → f_X1_record_47 fu h x0 x2 x4 x5 = some (rv, h') → W p l e (rmC 1 0 0) s m args below meth c H locs 0 0 (MQ below (QP G n h' none) args s 0 0 (Ab G)) (F0 m 47 ls []) := by
  obtain ⟨hx, hb, hr, hml, hown, hts, hK, hlocks, hnm⟩ := id C0
  intro fu
  induction fu with
  | zero => intro H locs ls h x0 x2 x4 x5 X hl o0 hf; cases hf
  | succ fu ih =>
    intro H locs ls h x0 x2 x4 x5 X hl o0 hf
    rw [f_X1_record_47] at hf
    refine lv_iload hx hb dX1_record_47 (lv_at hl 3 rfl) ?_
    refine lv_bipush (v := (6 : Int32)) hx hb dX1_record_49 (by decide) ?_
    refine lv_icmp_ge (tgt := 88) hx hb dX1_record_51 (by decide) (fun c51 => ?_) (fun c51 => ?_)
    · have hf := ite_t hf c51
      exact r_V hx hb hr hlocks X hf dX1_record_88
    · have hf := ite_f hf c51
      refine lv_iload_n hx hb dX1_record_54 rfl (lv_at hl 1 rfl) ?_
      refine lv_iload hx hb dX1_record_55 (lv_at hl 3 rfl) ?_
      obtain ⟨r1, h2, q3, hf⟩ := bd_e hf
      refine c_SN0 (As := [.int x2, .int x5]) (rest := []) (st1 := [.int r1]) hx hb hml hown hts hK X (k_X11_hasBit l G n hN q3) lc_X11_hasBit ls_X1_37 (by decide) rfl hl.1 (Nat.le_of_ble_eq_true rfl) dX1_record_57 rfl (fun H locs X => ?_)
      refine lv_if_eq (tgt := 82) hx hb dX1_record_60 (by decide) (fun c60 => ?_) (fun c60 => ?_)
      · have hf := ite_t hf c60
        refine lv_iinc (v := (x5 + (1 : Int32))) (lv' := [(5, .int (x5 + (1 : Int32))), (0, .ref (bs G + x0)), (2, .int x2), (4, .int x4)]) hx hb dX1_record_82 hl (k := 3) rfl rfl (by decide) rfl (fun ls hl => ?_)
        refine lv_goto (tgt := 47) hx hb dX1_record_85 (by decide) ?_
        exact ih X (lv_sub hl [1, 2, 3, 0] rfl) o0 hf
      · have hf := ite_f hf c60
        refine lv_iload hx hb dX1_record_63 (lv_at hl 2 rfl) ?_
        refine lv_bipush (v := (6 : Int32)) hx hb dX1_record_65 (by decide) ?_
        refine lv_icmp_ge (tgt := 82) hx hb dX1_record_67 (by decide) (fun c67 => ?_) (fun c67 => ?_)
        · have hf := ite_t hf c67
          refine lv_iinc (v := (x5 + (1 : Int32))) (lv' := [(5, .int (x5 + (1 : Int32))), (0, .ref (bs G + x0)), (2, .int x2), (4, .int x4)]) hx hb dX1_record_82 hl (k := 3) rfl rfl (by decide) rfl (fun ls hl => ?_)
          refine lv_goto (tgt := 47) hx hb dX1_record_85 (by decide) ?_
          exact ih X (lv_sub hl [1, 2, 3, 0] rfl) o0 hf
        · have hf := ite_f hf c67
          refine lv_aload_n hx hb dX1_record_70 rfl (lv_at hl 0 rfl) ?_
          obtain ⟨g4, hf⟩ := gd_e hf
          refine g_R hx hb hts hown hK X o0 hN g4 fl_X1_9 (by decide) rfl (by decide) dX1_record_71 ?_
          refine lv_iload hx hb dX1_record_74 (lv_at hl 2 rfl) ?_
          refine lv_iload hx hb dX1_record_76 (lv_at hl 3 rfl) ?_
          obtain ⟨g5, hf⟩ := gd_e hf
          refine g_is hx hb hK X g4 hN g5 (by decide) dX1_record_78 (fun H locs X => ?_)
          obtain ⟨h6, e7, hf⟩ := lt_e hf
          rw [← e7] at X
          refine lv_iinc (v := (x4 + (1 : Int32))) (lv' := [(4, .int (x4 + (1 : Int32))), (0, .ref (bs G + x0)), (2, .int x2), (5, .int x5)]) hx hb dX1_record_79 hl (k := 2) rfl rfl (by decide) rfl (fun ls hl => ?_)
          refine lv_iinc (v := (x5 + (1 : Int32))) (lv' := [(5, .int (x5 + (1 : Int32))), (4, .int (x4 + (1 : Int32))), (0, .ref (bs G + x0)), (2, .int x2)]) hx hb dX1_record_82 hl (k := 3) rfl rfl (by decide) rfl (fun ls hl => ?_)
          refine lv_goto (tgt := 47) hx hb dX1_record_85 (by decide) ?_
          exact ih X (lv_sub hl [2, 3, 1, 0] rfl) o0 hf
theorem j_X1_record_8 (C0 : Cx p s m args meth c G bX1_record RX1 6 none "record") (hN : NX ≤ n) : ∀ (fu : Nat), ∀ {H : Heap} {locs : List Loc} {ls : Array Slot} {h : Hp} {x0 : Nat} {x1 : Int32} {x2 : Int32} {x4 : Int32}, XW G n h s 0 H locs → lv_has ls 6 [(0, .ref (bs G + x0)), (1, .int x1), (2, .int x2), (4, .int x4)] → kd x0 = 1 → f_X1_record_8 fu h x0 x1 x2 x4 = some (rv, h') → W p l e (rmC 1 0 0) s m args below meth c H locs 0 0 (MQ below (QP G n h' none) args s 0 0 (Ab G)) (F0 m 8 ls []) := by
  obtain ⟨hx, hb, hr, hml, hown, hts, hK, hlocks, hnm⟩ := id C0
  intro fu
  induction fu with
  | zero => intro H locs ls h x0 x1 x2 x4 X hl o0 hf; cases hf
  | succ fu ih =>
    intro H locs ls h x0 x1 x2 x4 X hl o0 hf
    rw [f_X1_record_8] at hf
    refine lv_iload hx hb dX1_record_8 (lv_at hl 3 rfl) ?_
    refine lv_iload_n hx hb dX1_record_10 rfl (lv_at hl 1 rfl) ?_
    refine lv_icmp_ge (tgt := 41) hx hb dX1_record_11 (by decide) (fun c11 => ?_) (fun c11 => ?_)
    · have hf := ite_t hf c11
      refine lv_iload_n hx hb dX1_record_41 rfl (lv_at hl 1 rfl) ?_
      refine lv_istore (lv' := [(4, .int x1), (0, .ref (bs G + x0)), (1, .int x1), (2, .int x2)]) hx hb dX1_record_42 hl (by decide) rfl (fun ls hl => ?_)
      refine lv_iconst (v := (0 : Int32)) hx hb dX1_record_44 (by decide) ?_
      refine lv_istore (lv' := [(5, .int (0 : Int32)), (4, .int x1), (0, .ref (bs G + x0)), (1, .int x1), (2, .int x2)]) hx hb dX1_record_45 hl (by decide) rfl (fun ls hl => ?_)
      exact j_X1_record_47 C0 hN FU X (lv_sub hl [2, 4, 1, 0] rfl) o0 hf
    · have hf := ite_f hf c11
      refine lv_iload hx hb dX1_record_14 (lv_at hl 3 rfl) ?_
      refine lv_bipush (v := (6 : Int32)) hx hb dX1_record_16 (by decide) ?_
      refine lv_icmp_ge (tgt := 41) hx hb dX1_record_18 (by decide) (fun c18 => ?_) (fun c18 => ?_)
      · have hf := ite_t hf c18
        refine lv_iload_n hx hb dX1_record_41 rfl (lv_at hl 1 rfl) ?_
        refine lv_istore (lv' := [(4, .int x1), (0, .ref (bs G + x0)), (1, .int x1), (2, .int x2)]) hx hb dX1_record_42 hl (by decide) rfl (fun ls hl => ?_)
        refine lv_iconst (v := (0 : Int32)) hx hb dX1_record_44 (by decide) ?_
        refine lv_istore (lv' := [(5, .int (0 : Int32)), (4, .int x1), (0, .ref (bs G + x0)), (1, .int x1), (2, .int x2)]) hx hb dX1_record_45 hl (by decide) rfl (fun ls hl => ?_)
        exact j_X1_record_47 C0 hN FU X (lv_sub hl [2, 4, 1, 0] rfl) o0 hf
      · have hf := ite_f hf c18
        refine lv_aload_n hx hb dX1_record_21 rfl (lv_at hl 0 rfl) ?_
        obtain ⟨g1, hf⟩ := gd_e hf
        refine g_R hx hb hts hown hK X o0 hN g1 fl_X1_9 (by decide) rfl (by decide) dX1_record_22 ?_
        refine lv_iload hx hb dX1_record_25 (lv_at hl 3 rfl) ?_
        refine lv_aload_n hx hb dX1_record_27 rfl (lv_at hl 0 rfl) ?_
        obtain ⟨g2, hf⟩ := gd_e hf
        refine g_R hx hb hts hown hK X o0 hN g2 fl_X1_18 (by decide) rfl (by decide) dX1_record_28 ?_
        refine lv_iload hx hb dX1_record_31 (lv_at hl 3 rfl) ?_
        obtain ⟨g3, hf⟩ := gd_e hf
        refine g_ia hx hb hK X g2 hN g3 (by decide) dX1_record_33 ?_
        obtain ⟨g4, hf⟩ := gd_e hf
        refine g_is hx hb hK X g1 hN g4 (by decide) dX1_record_34 (fun H locs X => ?_)
        obtain ⟨h5, e6, hf⟩ := lt_e hf
        rw [← e6] at X
        refine lv_iinc (v := (x4 + (1 : Int32))) (lv' := [(4, .int (x4 + (1 : Int32))), (0, .ref (bs G + x0)), (1, .int x1), (2, .int x2)]) hx hb dX1_record_35 hl (k := 3) rfl rfl (by decide) rfl (fun ls hl => ?_)
        refine lv_goto (tgt := 8) hx hb dX1_record_38 (by decide) ?_
        exact ih X (lv_sub hl [1, 2, 3, 0] rfl) o0 hf
theorem k_X1_record (l : Launch) (G : GG) (n : Nat) (hN : NX ≤ n) {h h' : Hp} {x0 : Nat} {x1 : Int32} {x2 : Int32} {x3 : Int32} {rv : Unit} (hf : f_X1_record h x0 x1 x2 x3 = some (rv, h')) : CT l G n n yX1_record (.code yX1_record bX1_record 6 none) 1 0 0 [.ref (bs G + x0), .int x1, .int x2, .int x3] h h' none := by
  refine ct_of (maxL := 6) (ret := none) (bytes := bX1_record) (by decide) (Nat.le_of_ble_eq_true rfl) (fun p e s m below meth c C0 X ls hl => ?_)
  have hl : lv_has ls 6 [(0, .ref (bs G + x0)), (1, .int x1), (2, .int x2), (3, .int x3)] := hl
  obtain ⟨hx, hb, hr, hml, hown, hts, hK, hlocks, hnm⟩ := id C0
  unfold f_X1_record at hf
  obtain ⟨o0, hf⟩ := gd_e hf
  refine lv_aload_n hx hb dX1_record_0 rfl (lv_at hl 0 rfl) ?_
  refine lv_iload_n hx hb dX1_record_1 rfl (lv_at hl 3 rfl) ?_
  refine g_PI hx hb hts hown hK X o0 hN fl_X1_76 ft_1_4 (by decide) rfl dX1_record_2 (fun H locs X => ?_)
  obtain ⟨h1, e2, hf⟩ := lt_e hf
  rw [← e2] at X
  refine lv_iconst (v := (0 : Int32)) hx hb dX1_record_5 (by decide) ?_
  refine lv_istore (lv' := [(4, .int (0 : Int32)), (0, .ref (bs G + x0)), (1, .int x1), (2, .int x2), (3, .int x3)]) hx hb dX1_record_6 hl (by decide) rfl (fun ls hl => ?_)
  exact j_X1_record_8 C0 hN FU X (lv_sub hl [1, 2, 3, 0] rfl) o0 hf
end
theorem dX1_search_0 : decode bX1_search 0 = .ok (.iload_n 2, 1) := by decide +kernel
theorem dX1_search_1 : decode bX1_search 1 = .ok (.bipush 6, 2) := by decide +kernel
theorem dX1_search_3 : decode bX1_search 3 = .ok (.if_icmp .ge 15, 3) := by decide +kernel
theorem dX1_search_6 : decode bX1_search 6 = .ok (.aload_n 0, 1) := by decide +kernel
theorem dX1_search_7 : decode bX1_search 7 = .ok (.aload_n 1, 1) := by decide +kernel
theorem dX1_search_8 : decode bX1_search 8 = .ok (.iload_n 2, 1) := by decide +kernel
theorem dX1_search_9 : decode bX1_search 9 = .ok (.iload_n 3, 1) := by decide +kernel
theorem dX1_search_10 : decode bX1_search 10 = .ok (.iload 4, 2) := by decide +kernel
theorem dX1_search_12 : decode bX1_search 12 = .ok (.invokevirtual 93, 3) := by decide +kernel
theorem dX1_search_15 : decode bX1_search 15 = .ok (.goto 4, 3) := by decide +kernel
theorem dX1_search_18 : decode bX1_search 18 = .ok (.iconst 0, 1) := by decide +kernel
theorem dX1_search_19 : decode bX1_search 19 = .ok (.istore 6, 2) := by decide +kernel
theorem dX1_search_21 : decode bX1_search 21 = .ok (.iload 5, 2) := by decide +kernel
theorem dX1_search_23 : decode bX1_search 23 = .ok (.iload 6, 2) := by decide +kernel
theorem dX1_search_25 : decode bX1_search 25 = .ok (.invokestatic 83, 3) := by decide +kernel
theorem dX1_search_28 : decode bX1_search 28 = .ok (.iadd, 1) := by decide +kernel
theorem dX1_search_29 : decode bX1_search 29 = .ok (.aload_n 0, 1) := by decide +kernel
theorem dX1_search_30 : decode bX1_search 30 = .ok (.getfield 76, 3) := by decide +kernel
theorem dX1_search_33 : decode bX1_search 33 = .ok (.if_icmp .gt 4, 3) := by decide +kernel
theorem dX1_search_36 : decode bX1_search 36 = .ok (.return_, 1) := by decide +kernel
theorem dX1_search_37 : decode bX1_search 37 = .ok (.iload 6, 2) := by decide +kernel
theorem dX1_search_39 : decode bX1_search 39 = .ok (.ifCond .ne 13, 3) := by decide +kernel
theorem dX1_search_42 : decode bX1_search 42 = .ok (.aload_n 0, 1) := by decide +kernel
theorem dX1_search_43 : decode bX1_search 43 = .ok (.iload_n 2, 1) := by decide +kernel
theorem dX1_search_44 : decode bX1_search 44 = .ok (.iload 4, 2) := by decide +kernel
theorem dX1_search_46 : decode bX1_search 46 = .ok (.iload 5, 2) := by decide +kernel
theorem dX1_search_48 : decode bX1_search 48 = .ok (.invokevirtual 97, 3) := by decide +kernel
theorem dX1_search_51 : decode bX1_search 51 = .ok (.return_, 1) := by decide +kernel
theorem dX1_search_52 : decode bX1_search 52 = .ok (.iconst 0, 1) := by decide +kernel
theorem dX1_search_53 : decode bX1_search 53 = .ok (.istore 7, 2) := by decide +kernel
theorem dX1_search_55 : decode bX1_search 55 = .ok (.iload 7, 2) := by decide +kernel
theorem dX1_search_57 : decode bX1_search 57 = .ok (.bipush 6, 2) := by decide +kernel
theorem dX1_search_59 : decode bX1_search 59 = .ok (.if_icmp .ge 72, 3) := by decide +kernel
theorem dX1_search_62 : decode bX1_search 62 = .ok (.iload 4, 2) := by decide +kernel
theorem dX1_search_64 : decode bX1_search 64 = .ok (.iload 7, 2) := by decide +kernel
theorem dX1_search_66 : decode bX1_search 66 = .ok (.invokestatic 37, 3) := by decide +kernel
theorem dX1_search_69 : decode bX1_search 69 = .ok (.ifCond .eq 56, 3) := by decide +kernel
theorem dX1_search_72 : decode bX1_search 72 = .ok (.aload_n 0, 1) := by decide +kernel
theorem dX1_search_73 : decode bX1_search 73 = .ok (.getfield 18, 3) := by decide +kernel
theorem dX1_search_76 : decode bX1_search 76 = .ok (.iload_n 2, 1) := by decide +kernel
theorem dX1_search_77 : decode bX1_search 77 = .ok (.iload 7, 2) := by decide +kernel
theorem dX1_search_79 : decode bX1_search 79 = .ok (.iastore, 1) := by decide +kernel
theorem dX1_search_80 : decode bX1_search 80 = .ok (.aload_n 0, 1) := by decide +kernel
theorem dX1_search_81 : decode bX1_search 81 = .ok (.getfield 21, 3) := by decide +kernel
theorem dX1_search_84 : decode bX1_search 84 = .ok (.iload_n 2, 1) := by decide +kernel
theorem dX1_search_85 : decode bX1_search 85 = .ok (.bipush 6, 2) := by decide +kernel
theorem dX1_search_87 : decode bX1_search 87 = .ok (.imul, 1) := by decide +kernel
theorem dX1_search_88 : decode bX1_search 88 = .ok (.iload 7, 2) := by decide +kernel
theorem dX1_search_90 : decode bX1_search 90 = .ok (.iadd, 1) := by decide +kernel
theorem dX1_search_91 : decode bX1_search 91 = .ok (.iaload, 1) := by decide +kernel
theorem dX1_search_92 : decode bX1_search 92 = .ok (.istore 8, 2) := by decide +kernel
theorem dX1_search_94 : decode bX1_search 94 = .ok (.aload_n 0, 1) := by decide +kernel
theorem dX1_search_95 : decode bX1_search 95 = .ok (.aload_n 1, 1) := by decide +kernel
theorem dX1_search_96 : decode bX1_search 96 = .ok (.iload_n 2, 1) := by decide +kernel
theorem dX1_search_97 : decode bX1_search 97 = .ok (.iconst 1, 1) := by decide +kernel
theorem dX1_search_98 : decode bX1_search 98 = .ok (.iadd, 1) := by decide +kernel
theorem dX1_search_99 : decode bX1_search 99 = .ok (.iload_n 3, 1) := by decide +kernel
theorem dX1_search_100 : decode bX1_search 100 = .ok (.iload 8, 2) := by decide +kernel
theorem dX1_search_102 : decode bX1_search 102 = .ok (.ior, 1) := by decide +kernel
theorem dX1_search_103 : decode bX1_search 103 = .ok (.iload 4, 2) := by decide +kernel
theorem dX1_search_105 : decode bX1_search 105 = .ok (.iconst 1, 1) := by decide +kernel
theorem dX1_search_106 : decode bX1_search 106 = .ok (.iload 7, 2) := by decide +kernel
theorem dX1_search_108 : decode bX1_search 108 = .ok (.ishl, 1) := by decide +kernel
theorem dX1_search_109 : decode bX1_search 109 = .ok (.iconst (-1), 1) := by decide +kernel
theorem dX1_search_110 : decode bX1_search 110 = .ok (.ixor, 1) := by decide +kernel
theorem dX1_search_111 : decode bX1_search 111 = .ok (.iand, 1) := by decide +kernel
theorem dX1_search_112 : decode bX1_search 112 = .ok (.iload 5, 2) := by decide +kernel
theorem dX1_search_114 : decode bX1_search 114 = .ok (.iload 6, 2) := by decide +kernel
theorem dX1_search_116 : decode bX1_search 116 = .ok (.iload 7, 2) := by decide +kernel
theorem dX1_search_118 : decode bX1_search 118 = .ok (.ishr, 1) := by decide +kernel
theorem dX1_search_119 : decode bX1_search 119 = .ok (.iconst 1, 1) := by decide +kernel
theorem dX1_search_120 : decode bX1_search 120 = .ok (.iand, 1) := by decide +kernel
theorem dX1_search_121 : decode bX1_search 121 = .ok (.iadd, 1) := by decide +kernel
theorem dX1_search_122 : decode bX1_search 122 = .ok (.invokevirtual 79, 3) := by decide +kernel
theorem dX1_search_125 : decode bX1_search 125 = .ok (.iinc 7 1, 3) := by decide +kernel
theorem dX1_search_128 : decode bX1_search 128 = .ok (.goto (-73), 3) := by decide +kernel
theorem dX1_search_131 : decode bX1_search 131 = .ok (.return_, 1) := by decide +kernel
section
variable {p : Program} {l : Launch} {e : Env} {s : State} {m : MethodId} {args : Array Value} {below : List Frame} {meth : Method} {c : Code} {G : GG} {n : Nat} {h' : Hp} {rv : Unit}
set_option maxHeartbeats 4000000
set_option maxRecDepth 100000
theorem j_X1_search_55 (C0 : Cx p s m args meth c G bX1_search RX1 9 none "search") (hN : NX ≤ n) {dd : Nat} {rec : Hp → Nat → Nat → Int32 → Int32 → Int32 → Int32 → Option (Unit × Hp)} (hrec : ∀ {h h' : Hp} {x0 : Nat} {x1 : Nat} {x2 : Int32} {x3 : Int32} {x4 : Int32} {x5 : Int32} {rv : Unit}, rec h x0 x1 x2 x3 x4 x5 = some (rv, h') → CT l G n n yX1_search (.code yX1_search bX1_search 9 none) (5 + dd) 0 0 [.ref (bs G + x0), .ref (bs G + x1), .int x2, .int x3, .int x4, .int x5] h h' none) : ∀ (fu : Nat), ∀ {H : Heap} {locs : List Loc} {ls : Array Slot} {h : Hp} {x0 : Nat} {x1 : Nat} {x2 : Int32} {x3 : Int32} {x4 : Int32} {x5 : Int32} {x6 : Int32} {x7 : Int32}, XW G n h s 0 H locs → lv_has ls 9 [(0, .ref (bs G + x0)), (1, .ref (bs G + x1)), (2, .int x2), (3, .int x3), (4, .int x4), (5, .int x5), (6, .int x6), (7, .int x7)] → kd x0 = 1 → kd x1 = 6 → f_X1_search_55 rec fu h x0 x1 x2 x3 x4 x5 x6 x7 = some (rv, h') → W p l e (rmC (5 + (dd + 1)) 0 0) s m args below meth c H locs 0 0 (MQ below (QP G n h' none) args s 0 0 (Ab G)) (F0 m 55 ls []) := by
  obtain ⟨hx, hb, hr, hml, hown, hts, hK, hlocks, hnm⟩ := id C0
  intro fu
  induction fu with
  | zero => intro H locs ls h x0 x1 x2 x3 x4 x5 x6 x7 X hl o0 o1 hf; cases hf
  | succ fu ih =>
    intro H locs ls h x0 x1 x2 x3 x4 x5 x6 x7 X hl o0 o1 hf
    rw [f_X1_search_55] at hf
    refine lv_iload hx hb dX1_search_55 (lv_at hl 7 rfl) ?_
    refine lv_bipush (v := (6 : Int32)) hx hb dX1_search_57 (by decide) ?_
    refine lv_icmp_ge (tgt := 131) hx hb dX1_search_59 (by decide) (fun c59 => ?_) (fun c59 => ?_)
    · have hf := ite_t hf c59
      exact r_V hx hb hr hlocks X hf dX1_search_131
    · have hf := ite_f hf c59
      refine lv_iload hx hb dX1_search_62 (lv_at hl 4 rfl) ?_
      refine lv_iload hx hb dX1_search_64 (lv_at hl 7 rfl) ?_
      obtain ⟨r1, h2, q3, hf⟩ := bd_e hf
      refine c_SN0 (As := [.int x4, .int x7]) (rest := []) (st1 := [.int r1]) hx hb hml hown hts hK X (k_X11_hasBit l G n hN q3) lc_X11_hasBit ls_X1_37 (by omega) rfl hl.1 (Nat.le_of_ble_eq_true rfl) dX1_search_66 rfl (fun H locs X => ?_)
      refine lv_if_eq (tgt := 125) hx hb dX1_search_69 (by decide) (fun c69 => ?_) (fun c69 => ?_)
      · have hf := ite_t hf c69
        refine lv_iinc (v := (x7 + (1 : Int32))) (lv' := [(7, .int (x7 + (1 : Int32))), (0, .ref (bs G + x0)), (1, .ref (bs G + x1)), (2, .int x2), (3, .int x3), (4, .int x4), (5, .int x5), (6, .int x6)]) hx hb dX1_search_125 hl (k := 7) rfl rfl (by decide) rfl (fun ls hl => ?_)
        refine lv_goto (tgt := 55) hx hb dX1_search_128 (by decide) ?_
        exact ih X (lv_sub hl [1, 2, 3, 4, 5, 6, 7, 0] rfl) o0 o1 hf
      · have hf := ite_f hf c69
        refine lv_aload_n hx hb dX1_search_72 rfl (lv_at hl 0 rfl) ?_
        obtain ⟨g4, hf⟩ := gd_e hf
        refine g_R hx hb hts hown hK X o0 hN g4 fl_X1_18 (by decide) rfl (by decide) dX1_search_73 ?_
        refine lv_iload_n hx hb dX1_search_76 rfl (lv_at hl 2 rfl) ?_
        refine lv_iload hx hb dX1_search_77 (lv_at hl 7 rfl) ?_
        obtain ⟨g5, hf⟩ := gd_e hf
        refine g_is hx hb hK X g4 hN g5 (by decide) dX1_search_79 (fun H locs X => ?_)
        obtain ⟨h6, e7, hf⟩ := lt_e hf
        rw [← e7] at X
        refine lv_aload_n hx hb dX1_search_80 rfl (lv_at hl 0 rfl) ?_
        obtain ⟨g8, hf⟩ := gd_e hf
        refine g_R hx hb hts hown hK X o0 hN g8 fl_X1_21 (by decide) rfl (by decide) dX1_search_81 ?_
        refine lv_iload_n hx hb dX1_search_84 rfl (lv_at hl 2 rfl) ?_
        refine lv_bipush (v := (6 : Int32)) hx hb dX1_search_85 (by decide) ?_
        refine lv_imul hx hb dX1_search_87 ?_
        refine lv_iload hx hb dX1_search_88 (lv_at hl 7 rfl) ?_
        refine lv_iadd hx hb dX1_search_90 ?_
        obtain ⟨g9, hf⟩ := gd_e hf
        refine g_ia hx hb hK X g8 hN g9 (by decide) dX1_search_91 ?_
        refine lv_istore (lv' := [(8, .int (h6.1 (h6.2 x0 9) ((x2 * (6 : Int32)) + x7).toNatClampNeg)), (0, .ref (bs G + x0)), (1, .ref (bs G + x1)), (2, .int x2), (3, .int x3), (4, .int x4), (5, .int x5), (6, .int x6), (7, .int x7)]) hx hb dX1_search_92 hl (by decide) rfl (fun ls hl => ?_)
        refine lv_aload_n hx hb dX1_search_94 rfl (lv_at hl 1 rfl) ?_
        refine lv_aload_n hx hb dX1_search_95 rfl (lv_at hl 2 rfl) ?_
        refine lv_iload_n hx hb dX1_search_96 rfl (lv_at hl 3 rfl) ?_
        refine lv_iconst (v := (1 : Int32)) hx hb dX1_search_97 (by decide) ?_
        refine lv_iadd hx hb dX1_search_98 ?_
        refine lv_iload_n hx hb dX1_search_99 rfl (lv_at hl 4 rfl) ?_
        refine lv_iload hx hb dX1_search_100 (lv_at hl 0 rfl) ?_
        refine lv_ior hx hb dX1_search_102 ?_
        refine lv_iload hx hb dX1_search_103 (lv_at hl 5 rfl) ?_
        refine lv_iconst (v := (1 : Int32)) hx hb dX1_search_105 (by decide) ?_
        refine lv_iload hx hb dX1_search_106 (lv_at hl 8 rfl) ?_
        refine lv_ishl hx hb dX1_search_108 ?_
        refine lv_iconst (v := (-1 : Int32)) hx hb dX1_search_109 (by decide) ?_
        refine lv_ixor hx hb dX1_search_110 ?_
        refine lv_iand hx hb dX1_search_111 ?_
        refine lv_iload hx hb dX1_search_112 (lv_at hl 6 rfl) ?_
        refine lv_iload hx hb dX1_search_114 (lv_at hl 7 rfl) ?_
        refine lv_iload hx hb dX1_search_116 (lv_at hl 8 rfl) ?_
        refine lv_ishr hx hb dX1_search_118 ?_
        refine lv_iconst (v := (1 : Int32)) hx hb dX1_search_119 (by decide) ?_
        refine lv_iand hx hb dX1_search_120 ?_
        refine lv_iadd hx hb dX1_search_121 ?_
        obtain ⟨r10, h11, q12, hf⟩ := bd_e hf
        refine c_V0 (As := [.ref (bs G + x1), .int (x2 + (1 : Int32)), .int (x3 ||| (h6.1 (h6.2 x0 9) ((x2 * (6 : Int32)) + x7).toNatClampNeg)), .int (x4 &&& (((1 : Int32) <<< (x7 &&& 31)) ^^^ (-1 : Int32))), .int (x5 + ((x6 >>> (x7 &&& 31)) &&& (1 : Int32)))]) (rest := []) (st1 := []) hx hb hml hown hts hK X (hrec q12) o0 hN lc_X1_search lv_X1_79 (ci := 1) rfl rfl (by omega) rfl hl.1 (Nat.le_of_ble_eq_true rfl) dX1_search_122 rfl (fun H locs X => ?_)
        refine lv_iinc (v := (x7 + (1 : Int32))) (lv' := [(7, .int (x7 + (1 : Int32))), (8, .int (h6.1 (h6.2 x0 9) ((x2 * (6 : Int32)) + x7).toNatClampNeg)), (0, .ref (bs G + x0)), (1, .ref (bs G + x1)), (2, .int x2), (3, .int x3), (4, .int x4), (5, .int x5), (6, .int x6)]) hx hb dX1_search_125 hl (k := 8) rfl rfl (by decide) rfl (fun ls hl => ?_)
        refine lv_goto (tgt := 55) hx hb dX1_search_128 (by decide) ?_
        exact ih X (lv_sub hl [2, 3, 4, 5, 6, 7, 8, 0] rfl) o0 o1 hf
theorem j_X1_search_19 (C0 : Cx p s m args meth c G bX1_search RX1 9 none "search") (hN : NX ≤ n) {dd : Nat} {rec : Hp → Nat → Nat → Int32 → Int32 → Int32 → Int32 → Option (Unit × Hp)} (hrec : ∀ {h h' : Hp} {x0 : Nat} {x1 : Nat} {x2 : Int32} {x3 : Int32} {x4 : Int32} {x5 : Int32} {rv : Unit}, rec h x0 x1 x2 x3 x4 x5 = some (rv, h') → CT l G n n yX1_search (.code yX1_search bX1_search 9 none) (5 + dd) 0 0 [.ref (bs G + x0), .ref (bs G + x1), .int x2, .int x3, .int x4, .int x5] h h' none) {H : Heap} {locs : List Loc} {ls : Array Slot} {h : Hp} {x0 : Nat} {x1 : Nat} {x2 : Int32} {x3 : Int32} {x4 : Int32} {x5 : Int32} {t0 : Int32} (X : XW G n h s 0 H locs) (hl : lv_has ls 9 [(0, .ref (bs G + x0)), (1, .ref (bs G + x1)), (2, .int x2), (3, .int x3), (4, .int x4), (5, .int x5)]) (o0 : kd x0 = 1) (o1 : kd x1 = 6) (hf : f_X1_search_19 rec h x0 x1 x2 x3 x4 x5 t0 = some (rv, h')) : W p l e (rmC (5 + (dd + 1)) 0 0) s m args below meth c H locs 0 0 (MQ below (QP G n h' none) args s 0 0 (Ab G)) (F0 m 19 ls [.int t0]) := by
  obtain ⟨hx, hb, hr, hml, hown, hts, hK, hlocks, hnm⟩ := id C0
  unfold f_X1_search_19 at hf
  refine lv_istore (lv' := [(6, .int t0), (0, .ref (bs G + x0)), (1, .ref (bs G + x1)), (2, .int x2), (3, .int x3), (4, .int x4), (5, .int x5)]) hx hb dX1_search_19 hl (by decide) rfl (fun ls hl => ?_)
  refine lv_iload hx hb dX1_search_21 (lv_at hl 6 rfl) ?_
  refine lv_iload hx hb dX1_search_23 (lv_at hl 0 rfl) ?_
  obtain ⟨r1, h2, q3, hf⟩ := bd_e hf
  refine c_S0 (As := [.int t0]) (rest := [.int x5]) (st1 := [.int r1, .int x5]) hx hb hml hown hts hK X (k_J6_bitCount_0f7a4 l G n hN q3) lc_J6_bitCount_0f7a4 ls_X1_83 (by omega) rfl hl.1 (Nat.le_of_ble_eq_true rfl) dX1_search_25 rfl (fun H locs X => ?_)
  refine lv_iadd hx hb dX1_search_28 ?_
  refine lv_aload_n hx hb dX1_search_29 rfl (lv_at hl 1 rfl) ?_
  refine g_I hx hb hts hown hK X o0 hN fl_X1_76 (by decide) rfl dX1_search_30 ?_
  refine lv_icmp_gt (tgt := 37) hx hb dX1_search_33 (by decide) (fun c33 => ?_) (fun c33 => ?_)
  · have hf := ite_t hf c33
    refine lv_iload hx hb dX1_search_37 (lv_at hl 0 rfl) ?_
    refine lv_if_ne (tgt := 52) hx hb dX1_search_39 (by decide) (fun c39 => ?_) (fun c39 => ?_)
    · have hf := ite_f hf c39
      refine lv_iconst (v := (0 : Int32)) hx hb dX1_search_52 (by decide) ?_
      refine lv_istore (lv' := [(7, .int (0 : Int32)), (6, .int t0), (0, .ref (bs G + x0)), (1, .ref (bs G + x1)), (2, .int x2), (3, .int x3), (4, .int x4), (5, .int x5)]) hx hb dX1_search_53 hl (by decide) rfl (fun ls hl => ?_)
      exact j_X1_search_55 C0 hN hrec FU X (lv_sub hl [2, 3, 4, 5, 6, 7, 1, 0] rfl) o0 o1 hf
    · have hf := ite_t hf c39
      refine lv_aload_n hx hb dX1_search_42 rfl (lv_at hl 1 rfl) ?_
      refine lv_iload_n hx hb dX1_search_43 rfl (lv_at hl 3 rfl) ?_
      refine lv_iload hx hb dX1_search_44 (lv_at hl 5 rfl) ?_
      refine lv_iload hx hb dX1_search_46 (lv_at hl 6 rfl) ?_
      obtain ⟨r4, h5, q6, hf⟩ := bd_e hf
      refine c_V0 (As := [.int x2, .int x4, .int x5]) (rest := []) (st1 := []) hx hb hml hown hts hK X (k_X1_record l G n hN q6) o0 hN lc_X1_record lv_X1_97 (ci := 1) rfl rfl (by omega) rfl hl.1 (Nat.le_of_ble_eq_true rfl) dX1_search_48 rfl (fun H locs X => ?_)
      exact r_V hx hb hr hlocks X hf dX1_search_51
  · have hf := ite_f hf c33
    exact r_V hx hb hr hlocks X hf dX1_search_36
theorem k_X1_search (l : Launch) (G : GG) (n : Nat) (hN : NX ≤ n) : ∀ (dd : Nat) {h h' : Hp} {x0 : Nat} {x1 : Nat} {x2 : Int32} {x3 : Int32} {x4 : Int32} {x5 : Int32} {rv : Unit}, f_X1_search dd h x0 x1 x2 x3 x4 x5 = some (rv, h') → CT l G n n yX1_search (.code yX1_search bX1_search 9 none) (5 + dd) 0 0 [.ref (bs G + x0), .ref (bs G + x1), .int x2, .int x3, .int x4, .int x5] h h' none := by
  intro dd
  induction dd with
  | zero => intro h h' x0 x1 x2 x3 x4 x5 rv hf; cases hf
  | succ dd ih =>
    intro h h' x0 x1 x2 x3 x4 x5 rv hf
    have hrec : ∀ {h h' : Hp} {x0 : Nat} {x1 : Nat} {x2 : Int32} {x3 : Int32} {x4 : Int32} {x5 : Int32} {rv : Unit}, f_X1_search dd h x0 x1 x2 x3 x4 x5 = some (rv, h') → CT l G n n yX1_search (.code yX1_search bX1_search 9 none) (5 + dd) 0 0 [.ref (bs G + x0), .ref (bs G + x1), .int x2, .int x3, .int x4, .int x5] h h' none := @ih
    replace hf : f_X1_search_body (f_X1_search dd) h x0 x1 x2 x3 x4 x5 = some (rv, h') := hf
    unfold f_X1_search_body at hf
    refine ct_of (maxL := 9) (ret := none) (bytes := bX1_search) (by decide) (Nat.le_of_ble_eq_true rfl) (fun p e s m below meth c C0 X ls hl => ?_)
    have hl : lv_has ls 9 [(0, .ref (bs G + x0)), (1, .ref (bs G + x1)), (2, .int x2), (3, .int x3), (4, .int x4), (5, .int x5)] := hl
    obtain ⟨hx, hb, hr, hml, hown, hts, hK, hlocks, hnm⟩ := id C0
    obtain ⟨o0, hf⟩ := gd_e hf
    obtain ⟨o1, hf⟩ := gd_e hf
    refine lv_iload_n hx hb dX1_search_0 rfl (lv_at hl 2 rfl) ?_
    refine lv_bipush (v := (6 : Int32)) hx hb dX1_search_1 (by decide) ?_
    refine lv_icmp_ge (tgt := 18) hx hb dX1_search_3 (by decide) (fun c3 => ?_) (fun c3 => ?_)
    · have hf := ite_t hf c3
      refine lv_iconst (v := (0 : Int32)) hx hb dX1_search_18 (by decide) ?_
      exact j_X1_search_19 C0 hN hrec X (lv_sub hl [0, 1, 2, 3, 4, 5] rfl) o0 o1 hf
    · have hf := ite_f hf c3
      refine lv_aload_n hx hb dX1_search_6 rfl (lv_at hl 0 rfl) ?_
      refine lv_aload_n hx hb dX1_search_7 rfl (lv_at hl 1 rfl) ?_
      refine lv_iload_n hx hb dX1_search_8 rfl (lv_at hl 2 rfl) ?_
      refine lv_iload_n hx hb dX1_search_9 rfl (lv_at hl 3 rfl) ?_
      refine lv_iload hx hb dX1_search_10 (lv_at hl 4 rfl) ?_
      obtain ⟨r1, h2, q3, hf⟩ := bd_e hf
      refine c_V0 (As := [.ref (bs G + x1), .int x2, .int x3, .int x4]) (rest := []) (st1 := [.int r1]) hx hb hml hown hts hK X (k_X1_ableAt l G n hN q3) o0 hN lc_X1_ableAt lv_X1_93 (ci := 1) rfl rfl (by omega) rfl hl.1 (Nat.le_of_ble_eq_true rfl) dX1_search_12 rfl (fun H locs X => ?_)
      refine lv_goto (tgt := 19) hx hb dX1_search_15 (by decide) ?_
      exact j_X1_search_19 C0 hN hrec X (lv_sub hl [0, 1, 2, 3, 4, 5] rfl) o0 o1 hf
end
theorem dX1_findOrder_0 : decode bX1_findOrder 0 = .ok (.aload_n 0, 1) := by decide +kernel
theorem dX1_findOrder_1 : decode bX1_findOrder 1 = .ok (.iconst (-1), 1) := by decide +kernel
theorem dX1_findOrder_2 : decode bX1_findOrder 2 = .ok (.putfield 76, 3) := by decide +kernel
theorem dX1_findOrder_5 : decode bX1_findOrder 5 = .ok (.aload_n 0, 1) := by decide +kernel
theorem dX1_findOrder_6 : decode bX1_findOrder 6 = .ok (.aload_n 1, 1) := by decide +kernel
theorem dX1_findOrder_7 : decode bX1_findOrder 7 = .ok (.iconst 0, 1) := by decide +kernel
theorem dX1_findOrder_8 : decode bX1_findOrder 8 = .ok (.aload_n 1, 1) := by decide +kernel
theorem dX1_findOrder_9 : decode bX1_findOrder 9 = .ok (.getfield 28, 3) := by decide +kernel
theorem dX1_findOrder_12 : decode bX1_findOrder 12 = .ok (.aload_n 1, 1) := by decide +kernel
theorem dX1_findOrder_13 : decode bX1_findOrder 13 = .ok (.getfield 34, 3) := by decide +kernel
theorem dX1_findOrder_16 : decode bX1_findOrder 16 = .ok (.iconst 0, 1) := by decide +kernel
theorem dX1_findOrder_17 : decode bX1_findOrder 17 = .ok (.invokevirtual 79, 3) := by decide +kernel
theorem dX1_findOrder_20 : decode bX1_findOrder 20 = .ok (.return_, 1) := by decide +kernel
section
variable {p : Program} {l : Launch} {e : Env} {s : State} {m : MethodId} {args : Array Value} {below : List Frame} {meth : Method} {c : Code} {G : GG} {n : Nat} {h' : Hp} {rv : Unit}
set_option maxHeartbeats 4000000
set_option maxRecDepth 100000
theorem k_X1_findOrder (l : Launch) (G : GG) (n : Nat) (hN : NX ≤ n) {h h' : Hp} {x0 : Nat} {x1 : Nat} {rv : Unit} (hf : f_X1_findOrder h x0 x1 = some (rv, h')) : CT l G n n yX1_findOrder (.code yX1_findOrder bX1_findOrder 2 none) 14 0 0 [.ref (bs G + x0), .ref (bs G + x1)] h h' none := by
  refine ct_of (maxL := 2) (ret := none) (bytes := bX1_findOrder) (by decide) (Nat.le_of_ble_eq_true rfl) (fun p e s m below meth c C0 X ls hl => ?_)
  have hl : lv_has ls 2 [(0, .ref (bs G + x0)), (1, .ref (bs G + x1))] := hl
  obtain ⟨hx, hb, hr, hml, hown, hts, hK, hlocks, hnm⟩ := id C0
  unfold f_X1_findOrder at hf
  obtain ⟨o0, hf⟩ := gd_e hf
  obtain ⟨o1, hf⟩ := gd_e hf
  refine lv_aload_n hx hb dX1_findOrder_0 rfl (lv_at hl 0 rfl) ?_
  refine lv_iconst (v := (-1 : Int32)) hx hb dX1_findOrder_1 (by decide) ?_
  refine g_PI hx hb hts hown hK X o0 hN fl_X1_76 ft_1_4 (by decide) rfl dX1_findOrder_2 (fun H locs X => ?_)
  obtain ⟨h1, e2, hf⟩ := lt_e hf
  rw [← e2] at X
  refine lv_aload_n hx hb dX1_findOrder_5 rfl (lv_at hl 0 rfl) ?_
  refine lv_aload_n hx hb dX1_findOrder_6 rfl (lv_at hl 1 rfl) ?_
  refine lv_iconst (v := (0 : Int32)) hx hb dX1_findOrder_7 (by decide) ?_
  refine lv_aload_n hx hb dX1_findOrder_8 rfl (lv_at hl 1 rfl) ?_
  refine g_I hx hb hts hown hK X o1 hN fl_X1_28 (by decide) rfl dX1_findOrder_9 ?_
  refine lv_aload_n hx hb dX1_findOrder_12 rfl (lv_at hl 1 rfl) ?_
  refine g_I hx hb hts hown hK X o1 hN fl_X1_34 (by decide) rfl dX1_findOrder_13 ?_
  refine lv_iconst (v := (0 : Int32)) hx hb dX1_findOrder_16 (by decide) ?_
  obtain ⟨r3, h4, q5, hf⟩ := bd_e hf
  refine c_V0 (As := [.ref (bs G + x1), .int (0 : Int32), .int (h1.1 x1 2), .int (h1.1 x1 0), .int (0 : Int32)]) (rest := []) (st1 := []) hx hb hml hown hts hK X (k_X1_search l G n hN 8 q5) o0 hN lc_X1_search lv_X1_79 (ci := 1) rfl rfl (by decide) rfl hl.1 (Nat.le_of_ble_eq_true rfl) dX1_findOrder_17 rfl (fun H locs X => ?_)
  exact r_V hx hb hr hlocks X hf dX1_findOrder_20
end
theorem dX2_begin_0 : decode bX2_begin 0 = .ok (.iconst 0, 1) := by decide +kernel
theorem dX2_begin_1 : decode bX2_begin 1 = .ok (.istore_n 2, 1) := by decide +kernel
theorem dX2_begin_2 : decode bX2_begin 2 = .ok (.iload_n 2, 1) := by decide +kernel
theorem dX2_begin_3 : decode bX2_begin 3 = .ok (.aload_n 0, 1) := by decide +kernel
theorem dX2_begin_4 : decode bX2_begin 4 = .ok (.getfield 9, 3) := by decide +kernel
theorem dX2_begin_7 : decode bX2_begin 7 = .ok (.arraylength, 1) := by decide +kernel
theorem dX2_begin_8 : decode bX2_begin 8 = .ok (.if_icmp .ge 16, 3) := by decide +kernel
theorem dX2_begin_11 : decode bX2_begin 11 = .ok (.aload_n 0, 1) := by decide +kernel
theorem dX2_begin_12 : decode bX2_begin 12 = .ok (.getfield 9, 3) := by decide +kernel
theorem dX2_begin_15 : decode bX2_begin 15 = .ok (.iload_n 2, 1) := by decide +kernel
theorem dX2_begin_16 : decode bX2_begin 16 = .ok (.iconst 0, 1) := by decide +kernel
theorem dX2_begin_17 : decode bX2_begin 17 = .ok (.iastore, 1) := by decide +kernel
theorem dX2_begin_18 : decode bX2_begin 18 = .ok (.iinc 2 1, 3) := by decide +kernel
theorem dX2_begin_21 : decode bX2_begin 21 = .ok (.goto (-19), 3) := by decide +kernel
theorem dX2_begin_24 : decode bX2_begin 24 = .ok (.iconst 0, 1) := by decide +kernel
theorem dX2_begin_25 : decode bX2_begin 25 = .ok (.istore_n 2, 1) := by decide +kernel
theorem dX2_begin_26 : decode bX2_begin 26 = .ok (.iload_n 2, 1) := by decide +kernel
theorem dX2_begin_27 : decode bX2_begin 27 = .ok (.aload_n 0, 1) := by decide +kernel
theorem dX2_begin_28 : decode bX2_begin 28 = .ok (.getfield 15, 3) := by decide +kernel
theorem dX2_begin_31 : decode bX2_begin 31 = .ok (.arraylength, 1) := by decide +kernel
theorem dX2_begin_32 : decode bX2_begin 32 = .ok (.if_icmp .ge 16, 3) := by decide +kernel
theorem dX2_begin_35 : decode bX2_begin 35 = .ok (.aload_n 0, 1) := by decide +kernel
theorem dX2_begin_36 : decode bX2_begin 36 = .ok (.getfield 15, 3) := by decide +kernel
theorem dX2_begin_39 : decode bX2_begin 39 = .ok (.iload_n 2, 1) := by decide +kernel
theorem dX2_begin_40 : decode bX2_begin 40 = .ok (.iconst 0, 1) := by decide +kernel
theorem dX2_begin_41 : decode bX2_begin 41 = .ok (.iastore, 1) := by decide +kernel
theorem dX2_begin_42 : decode bX2_begin 42 = .ok (.iinc 2 1, 3) := by decide +kernel
theorem dX2_begin_45 : decode bX2_begin 45 = .ok (.goto (-19), 3) := by decide +kernel
theorem dX2_begin_48 : decode bX2_begin 48 = .ok (.aload_n 0, 1) := by decide +kernel
theorem dX2_begin_49 : decode bX2_begin 49 = .ok (.iconst 0, 1) := by decide +kernel
theorem dX2_begin_50 : decode bX2_begin 50 = .ok (.putfield 18, 3) := by decide +kernel
theorem dX2_begin_53 : decode bX2_begin 53 = .ok (.aload_n 0, 1) := by decide +kernel
theorem dX2_begin_54 : decode bX2_begin 54 = .ok (.iconst 0, 1) := by decide +kernel
theorem dX2_begin_55 : decode bX2_begin 55 = .ok (.putfield 22, 3) := by decide +kernel
theorem dX2_begin_58 : decode bX2_begin 58 = .ok (.aload_n 0, 1) := by decide +kernel
theorem dX2_begin_59 : decode bX2_begin 59 = .ok (.iload_n 1, 1) := by decide +kernel
theorem dX2_begin_60 : decode bX2_begin 60 = .ok (.putfield 25, 3) := by decide +kernel
theorem dX2_begin_63 : decode bX2_begin 63 = .ok (.return_, 1) := by decide +kernel
section
variable {p : Program} {l : Launch} {e : Env} {s : State} {m : MethodId} {args : Array Value} {below : List Frame} {meth : Method} {c : Code} {G : GG} {n : Nat} {h' : Hp} {rv : Unit}
set_option maxHeartbeats 4000000
set_option maxRecDepth 100000
theorem j_X2_begin_26 (C0 : Cx p s m args meth c G bX2_begin RX2 3 none "begin") (hN : NX ≤ n) : ∀ (fu : Nat), ∀ {H : Heap} {locs : List Loc} {ls : Array Slot} {h : Hp} {x0 : Nat} {x1 : Int32} {x2 : Int32}, XW G n h s 0 H locs → lv_has ls 3 [(0, .ref (bs G + x0)), (1, .int x1), (2, .int x2)] → kd x0 = 2 → f_X2_begin_26 fu h x0 x1 x2 = some (rv, h') → W p l e (rmC 0 0 0) s m args below meth c H locs 0 0 (MQ below (QP G n h' none) args s 0 0 (Ab G)) (F0 m 26 ls []) := by
  obtain ⟨hx, hb, hr, hml, hown, hts, hK, hlocks, hnm⟩ := id C0
  intro fu
  induction fu with
  | zero => intro H locs ls h x0 x1 x2 X hl o0 hf; cases hf
  | succ fu ih =>
    intro H locs ls h x0 x1 x2 X hl o0 hf
    rw [f_X2_begin_26] at hf
    refine lv_iload_n hx hb dX2_begin_26 rfl (lv_at hl 2 rfl) ?_
    refine lv_aload_n hx hb dX2_begin_27 rfl (lv_at hl 0 rfl) ?_
    obtain ⟨g1, hf⟩ := gd_e hf
    refine g_R hx hb hts hown hK X o0 hN g1 fl_X2_15 (by decide) rfl (by decide) dX2_begin_28 ?_
    refine g_al hx hb hK X g1 hN (by decide) dX2_begin_31 ?_
    refine lv_icmp_ge (tgt := 48) hx hb dX2_begin_32 (by decide) (fun c32 => ?_) (fun c32 => ?_)
    · have hf := ite_t hf c32
      refine lv_aload_n hx hb dX2_begin_48 rfl (lv_at hl 0 rfl) ?_
      refine lv_iconst (v := (0 : Int32)) hx hb dX2_begin_49 (by decide) ?_
      refine g_PI hx hb hts hown hK X o0 hN fl_X2_18 ft_2_2 (by decide) rfl dX2_begin_50 (fun H locs X => ?_)
      obtain ⟨h2, e3, hf⟩ := lt_e hf
      rw [← e3] at X
      refine lv_aload_n hx hb dX2_begin_53 rfl (lv_at hl 0 rfl) ?_
      refine lv_iconst (v := (0 : Int32)) hx hb dX2_begin_54 (by decide) ?_
      refine g_PI hx hb hts hown hK X o0 hN fl_X2_22 ft_2_3 (by decide) rfl dX2_begin_55 (fun H locs X => ?_)
      obtain ⟨h4, e5, hf⟩ := lt_e hf
      rw [← e5] at X
      refine lv_aload_n hx hb dX2_begin_58 rfl (lv_at hl 0 rfl) ?_
      refine lv_iload_n hx hb dX2_begin_59 rfl (lv_at hl 1 rfl) ?_
      obtain ⟨g6, hf⟩ := gd_e hf
      refine g_PZ hx hb hts hown hK X g6 o0 hN fl_X2_25 ft_2_4 (by decide) rfl dX2_begin_60 (fun H locs X => ?_)
      obtain ⟨h7, e8, hf⟩ := lt_e hf
      rw [← e8] at X
      exact r_V hx hb hr hlocks X hf dX2_begin_63
    · have hf := ite_f hf c32
      refine lv_aload_n hx hb dX2_begin_35 rfl (lv_at hl 0 rfl) ?_
      obtain ⟨g9, hf⟩ := gd_e hf
      refine g_R hx hb hts hown hK X o0 hN g9 fl_X2_15 (by decide) rfl (by decide) dX2_begin_36 ?_
      refine lv_iload_n hx hb dX2_begin_39 rfl (lv_at hl 2 rfl) ?_
      refine lv_iconst (v := (0 : Int32)) hx hb dX2_begin_40 (by decide) ?_
      obtain ⟨g10, hf⟩ := gd_e hf
      refine g_is hx hb hK X g9 hN g10 (by decide) dX2_begin_41 (fun H locs X => ?_)
      obtain ⟨h11, e12, hf⟩ := lt_e hf
      rw [← e12] at X
      refine lv_iinc (v := (x2 + (1 : Int32))) (lv' := [(2, .int (x2 + (1 : Int32))), (0, .ref (bs G + x0)), (1, .int x1)]) hx hb dX2_begin_42 hl (k := 2) rfl rfl (by decide) rfl (fun ls hl => ?_)
      refine lv_goto (tgt := 26) hx hb dX2_begin_45 (by decide) ?_
      exact ih X (lv_sub hl [1, 2, 0] rfl) o0 hf
theorem j_X2_begin_2 (C0 : Cx p s m args meth c G bX2_begin RX2 3 none "begin") (hN : NX ≤ n) : ∀ (fu : Nat), ∀ {H : Heap} {locs : List Loc} {ls : Array Slot} {h : Hp} {x0 : Nat} {x1 : Int32} {x2 : Int32}, XW G n h s 0 H locs → lv_has ls 3 [(0, .ref (bs G + x0)), (1, .int x1), (2, .int x2)] → kd x0 = 2 → f_X2_begin_2 fu h x0 x1 x2 = some (rv, h') → W p l e (rmC 0 0 0) s m args below meth c H locs 0 0 (MQ below (QP G n h' none) args s 0 0 (Ab G)) (F0 m 2 ls []) := by
  obtain ⟨hx, hb, hr, hml, hown, hts, hK, hlocks, hnm⟩ := id C0
  intro fu
  induction fu with
  | zero => intro H locs ls h x0 x1 x2 X hl o0 hf; cases hf
  | succ fu ih =>
    intro H locs ls h x0 x1 x2 X hl o0 hf
    rw [f_X2_begin_2] at hf
    refine lv_iload_n hx hb dX2_begin_2 rfl (lv_at hl 2 rfl) ?_
    refine lv_aload_n hx hb dX2_begin_3 rfl (lv_at hl 0 rfl) ?_
    obtain ⟨g1, hf⟩ := gd_e hf
    refine g_R hx hb hts hown hK X o0 hN g1 fl_X2_9 (by decide) rfl (by decide) dX2_begin_4 ?_
    refine g_al hx hb hK X g1 hN (by decide) dX2_begin_7 ?_
    refine lv_icmp_ge (tgt := 24) hx hb dX2_begin_8 (by decide) (fun c8 => ?_) (fun c8 => ?_)
    · have hf := ite_t hf c8
      refine lv_iconst (v := (0 : Int32)) hx hb dX2_begin_24 (by decide) ?_
      refine lv_istore_n (lv' := [(2, .int (0 : Int32)), (0, .ref (bs G + x0)), (1, .int x1)]) hx hb dX2_begin_25 rfl hl (by decide) rfl (fun ls hl => ?_)
      exact j_X2_begin_26 C0 hN FU X (lv_sub hl [1, 2, 0] rfl) o0 hf
    · have hf := ite_f hf c8
      refine lv_aload_n hx hb dX2_begin_11 rfl (lv_at hl 0 rfl) ?_
      obtain ⟨g2, hf⟩ := gd_e hf
      refine g_R hx hb hts hown hK X o0 hN g2 fl_X2_9 (by decide) rfl (by decide) dX2_begin_12 ?_
      refine lv_iload_n hx hb dX2_begin_15 rfl (lv_at hl 2 rfl) ?_
      refine lv_iconst (v := (0 : Int32)) hx hb dX2_begin_16 (by decide) ?_
      obtain ⟨g3, hf⟩ := gd_e hf
      refine g_is hx hb hK X g2 hN g3 (by decide) dX2_begin_17 (fun H locs X => ?_)
      obtain ⟨h4, e5, hf⟩ := lt_e hf
      rw [← e5] at X
      refine lv_iinc (v := (x2 + (1 : Int32))) (lv' := [(2, .int (x2 + (1 : Int32))), (0, .ref (bs G + x0)), (1, .int x1)]) hx hb dX2_begin_18 hl (k := 2) rfl rfl (by decide) rfl (fun ls hl => ?_)
      refine lv_goto (tgt := 2) hx hb dX2_begin_21 (by decide) ?_
      exact ih X (lv_sub hl [1, 2, 0] rfl) o0 hf
theorem k_X2_begin (l : Launch) (G : GG) (n : Nat) (hN : NX ≤ n) {h h' : Hp} {x0 : Nat} {x1 : Int32} {rv : Unit} (hf : f_X2_begin h x0 x1 = some (rv, h')) : CT l G n n yX2_begin (.code yX2_begin bX2_begin 3 none) 0 0 0 [.ref (bs G + x0), .int x1] h h' none := by
  refine ct_of (maxL := 3) (ret := none) (bytes := bX2_begin) (by decide) (Nat.le_of_ble_eq_true rfl) (fun p e s m below meth c C0 X ls hl => ?_)
  have hl : lv_has ls 3 [(0, .ref (bs G + x0)), (1, .int x1)] := hl
  obtain ⟨hx, hb, hr, hml, hown, hts, hK, hlocks, hnm⟩ := id C0
  unfold f_X2_begin at hf
  obtain ⟨o0, hf⟩ := gd_e hf
  refine lv_iconst (v := (0 : Int32)) hx hb dX2_begin_0 (by decide) ?_
  refine lv_istore_n (lv' := [(2, .int (0 : Int32)), (0, .ref (bs G + x0)), (1, .int x1)]) hx hb dX2_begin_1 rfl hl (by decide) rfl (fun ls hl => ?_)
  exact j_X2_begin_2 C0 hN FU X (lv_sub hl [1, 2, 0] rfl) o0 hf
end
theorem dX2_copy_0 : decode bX2_copy 0 = .ok (.aload_n 1, 1) := by decide +kernel
theorem dX2_copy_1 : decode bX2_copy 1 = .ok (.getfield 9, 3) := by decide +kernel
theorem dX2_copy_4 : decode bX2_copy 4 = .ok (.iconst 0, 1) := by decide +kernel
theorem dX2_copy_5 : decode bX2_copy 5 = .ok (.aload_n 0, 1) := by decide +kernel
theorem dX2_copy_6 : decode bX2_copy 6 = .ok (.getfield 9, 3) := by decide +kernel
theorem dX2_copy_9 : decode bX2_copy 9 = .ok (.iconst 0, 1) := by decide +kernel
theorem dX2_copy_10 : decode bX2_copy 10 = .ok (.bipush 8, 2) := by decide +kernel
theorem dX2_copy_12 : decode bX2_copy 12 = .ok (.invokestatic 29, 3) := by decide +kernel
theorem dX2_copy_15 : decode bX2_copy 15 = .ok (.aload_n 1, 1) := by decide +kernel
theorem dX2_copy_16 : decode bX2_copy 16 = .ok (.getfield 15, 3) := by decide +kernel
theorem dX2_copy_19 : decode bX2_copy 19 = .ok (.iconst 0, 1) := by decide +kernel
theorem dX2_copy_20 : decode bX2_copy 20 = .ok (.aload_n 0, 1) := by decide +kernel
theorem dX2_copy_21 : decode bX2_copy 21 = .ok (.getfield 15, 3) := by decide +kernel
theorem dX2_copy_24 : decode bX2_copy 24 = .ok (.iconst 0, 1) := by decide +kernel
theorem dX2_copy_25 : decode bX2_copy 25 = .ok (.bipush 6, 2) := by decide +kernel
theorem dX2_copy_27 : decode bX2_copy 27 = .ok (.invokestatic 29, 3) := by decide +kernel
theorem dX2_copy_30 : decode bX2_copy 30 = .ok (.aload_n 0, 1) := by decide +kernel
theorem dX2_copy_31 : decode bX2_copy 31 = .ok (.aload_n 1, 1) := by decide +kernel
theorem dX2_copy_32 : decode bX2_copy 32 = .ok (.getfield 18, 3) := by decide +kernel
theorem dX2_copy_35 : decode bX2_copy 35 = .ok (.putfield 18, 3) := by decide +kernel
theorem dX2_copy_38 : decode bX2_copy 38 = .ok (.aload_n 0, 1) := by decide +kernel
theorem dX2_copy_39 : decode bX2_copy 39 = .ok (.aload_n 1, 1) := by decide +kernel
theorem dX2_copy_40 : decode bX2_copy 40 = .ok (.getfield 22, 3) := by decide +kernel
theorem dX2_copy_43 : decode bX2_copy 43 = .ok (.putfield 22, 3) := by decide +kernel
theorem dX2_copy_46 : decode bX2_copy 46 = .ok (.aload_n 0, 1) := by decide +kernel
theorem dX2_copy_47 : decode bX2_copy 47 = .ok (.aload_n 1, 1) := by decide +kernel
theorem dX2_copy_48 : decode bX2_copy 48 = .ok (.getfield 25, 3) := by decide +kernel
theorem dX2_copy_51 : decode bX2_copy 51 = .ok (.putfield 25, 3) := by decide +kernel
theorem dX2_copy_54 : decode bX2_copy 54 = .ok (.return_, 1) := by decide +kernel
section
variable {p : Program} {l : Launch} {e : Env} {s : State} {m : MethodId} {args : Array Value} {below : List Frame} {meth : Method} {c : Code} {G : GG} {n : Nat} {h' : Hp} {rv : Unit}
set_option maxHeartbeats 4000000
set_option maxRecDepth 100000
theorem k_X2_copy (l : Launch) (G : GG) (n : Nat) (hN : NX ≤ n) {h h' : Hp} {x0 : Nat} {x1 : Nat} {rv : Unit} (hf : f_X2_copy h x0 x1 = some (rv, h')) : CT l G n n yX2_copy (.code yX2_copy bX2_copy 2 none) 1 0 0 [.ref (bs G + x0), .ref (bs G + x1)] h h' none := by
  refine ct_of (maxL := 2) (ret := none) (bytes := bX2_copy) (by decide) (Nat.le_of_ble_eq_true rfl) (fun p e s m below meth c C0 X ls hl => ?_)
  have hl : lv_has ls 2 [(0, .ref (bs G + x0)), (1, .ref (bs G + x1))] := hl
  obtain ⟨hx, hb, hr, hml, hown, hts, hK, hlocks, hnm⟩ := id C0
  unfold f_X2_copy at hf
  obtain ⟨o0, hf⟩ := gd_e hf
  obtain ⟨o1, hf⟩ := gd_e hf
  refine lv_aload_n hx hb dX2_copy_0 rfl (lv_at hl 1 rfl) ?_
  obtain ⟨g1, hf⟩ := gd_e hf
  refine g_R hx hb hts hown hK X o1 hN g1 fl_X2_9 (by decide) rfl (by decide) dX2_copy_1 ?_
  refine lv_iconst (v := (0 : Int32)) hx hb dX2_copy_4 (by decide) ?_
  refine lv_aload_n hx hb dX2_copy_5 rfl (lv_at hl 0 rfl) ?_
  obtain ⟨g2, hf⟩ := gd_e hf
  refine g_R hx hb hts hown hK X o0 hN g2 fl_X2_9 (by decide) rfl (by decide) dX2_copy_6 ?_
  refine lv_iconst (v := (0 : Int32)) hx hb dX2_copy_9 (by decide) ?_
  refine lv_bipush (v := (8 : Int32)) hx hb dX2_copy_10 (by decide) ?_
  obtain ⟨g3, hf⟩ := gd_e hf
  obtain ⟨g4, hf⟩ := gd_e hf
  refine g_copy hx hb (hml.trans hl.1.symm) hown hts hK X lm_X2_29 lm_native lm_static lm_system g1 g2 hN hN (by decide) (by decide) (by decide) g3 g4 (by decide) (Nat.le_of_ble_eq_true rfl) dX2_copy_12 (fun H locs X => ?_)
  obtain ⟨h5, e6, hf⟩ := lt_e hf
  rw [← e6] at X
  refine lv_aload_n hx hb dX2_copy_15 rfl (lv_at hl 1 rfl) ?_
  obtain ⟨g7, hf⟩ := gd_e hf
  refine g_R hx hb hts hown hK X o1 hN g7 fl_X2_15 (by decide) rfl (by decide) dX2_copy_16 ?_
  refine lv_iconst (v := (0 : Int32)) hx hb dX2_copy_19 (by decide) ?_
  refine lv_aload_n hx hb dX2_copy_20 rfl (lv_at hl 0 rfl) ?_
  obtain ⟨g8, hf⟩ := gd_e hf
  refine g_R hx hb hts hown hK X o0 hN g8 fl_X2_15 (by decide) rfl (by decide) dX2_copy_21 ?_
  refine lv_iconst (v := (0 : Int32)) hx hb dX2_copy_24 (by decide) ?_
  refine lv_bipush (v := (6 : Int32)) hx hb dX2_copy_25 (by decide) ?_
  obtain ⟨g9, hf⟩ := gd_e hf
  obtain ⟨g10, hf⟩ := gd_e hf
  refine g_copy hx hb (hml.trans hl.1.symm) hown hts hK X lm_X2_29 lm_native lm_static lm_system g7 g8 hN hN (by decide) (by decide) (by decide) g9 g10 (by decide) (Nat.le_of_ble_eq_true rfl) dX2_copy_27 (fun H locs X => ?_)
  obtain ⟨h11, e12, hf⟩ := lt_e hf
  rw [← e12] at X
  refine lv_aload_n hx hb dX2_copy_30 rfl (lv_at hl 0 rfl) ?_
  refine lv_aload_n hx hb dX2_copy_31 rfl (lv_at hl 1 rfl) ?_
  refine g_I hx hb hts hown hK X o1 hN fl_X2_18 (by decide) rfl dX2_copy_32 ?_
  refine g_PI hx hb hts hown hK X o0 hN fl_X2_18 ft_2_2 (by decide) rfl dX2_copy_35 (fun H locs X => ?_)
  obtain ⟨h13, e14, hf⟩ := lt_e hf
  rw [← e14] at X
  refine lv_aload_n hx hb dX2_copy_38 rfl (lv_at hl 0 rfl) ?_
  refine lv_aload_n hx hb dX2_copy_39 rfl (lv_at hl 1 rfl) ?_
  refine g_I hx hb hts hown hK X o1 hN fl_X2_22 (by decide) rfl dX2_copy_40 ?_
  refine g_PI hx hb hts hown hK X o0 hN fl_X2_22 ft_2_3 (by decide) rfl dX2_copy_43 (fun H locs X => ?_)
  obtain ⟨h15, e16, hf⟩ := lt_e hf
  rw [← e16] at X
  refine lv_aload_n hx hb dX2_copy_46 rfl (lv_at hl 0 rfl) ?_
  refine lv_aload_n hx hb dX2_copy_47 rfl (lv_at hl 1 rfl) ?_
  refine g_I hx hb hts hown hK X o1 hN fl_X2_25 (by decide) rfl dX2_copy_48 ?_
  obtain ⟨g17, hf⟩ := gd_e hf
  refine g_PZ hx hb hts hown hK X g17 o0 hN fl_X2_25 ft_2_4 (by decide) rfl dX2_copy_51 (fun H locs X => ?_)
  obtain ⟨h18, e19, hf⟩ := lt_e hf
  rw [← e19] at X
  exact r_V hx hb hr hlocks X hf dX2_copy_54
end
theorem dX2_take_0 : decode bX2_take 0 = .ok (.iload_n 1, 1) := by decide +kernel
theorem dX2_take_1 : decode bX2_take 1 = .ok (.ifCond .lt 31, 3) := by decide +kernel
theorem dX2_take_4 : decode bX2_take 4 = .ok (.iload_n 1, 1) := by decide +kernel
theorem dX2_take_5 : decode bX2_take 5 = .ok (.bipush 6, 2) := by decide +kernel
theorem dX2_take_7 : decode bX2_take 7 = .ok (.if_icmp .ge 25, 3) := by decide +kernel
theorem dX2_take_10 : decode bX2_take 10 = .ok (.aload_n 0, 1) := by decide +kernel
theorem dX2_take_11 : decode bX2_take 11 = .ok (.getfield 9, 3) := by decide +kernel
theorem dX2_take_14 : decode bX2_take 14 = .ok (.iload_n 1, 1) := by decide +kernel
theorem dX2_take_15 : decode bX2_take 15 = .ok (.dup2, 1) := by decide +kernel
theorem dX2_take_16 : decode bX2_take 16 = .ok (.iaload, 1) := by decide +kernel
theorem dX2_take_17 : decode bX2_take 17 = .ok (.iload_n 2, 1) := by decide +kernel
theorem dX2_take_18 : decode bX2_take 18 = .ok (.ior, 1) := by decide +kernel
theorem dX2_take_19 : decode bX2_take 19 = .ok (.iastore, 1) := by decide +kernel
theorem dX2_take_20 : decode bX2_take 20 = .ok (.aload_n 0, 1) := by decide +kernel
theorem dX2_take_21 : decode bX2_take 21 = .ok (.dup, 1) := by decide +kernel
theorem dX2_take_22 : decode bX2_take 22 = .ok (.getfield 18, 3) := by decide +kernel
theorem dX2_take_25 : decode bX2_take 25 = .ok (.iconst 1, 1) := by decide +kernel
theorem dX2_take_26 : decode bX2_take 26 = .ok (.iload_n 1, 1) := by decide +kernel
theorem dX2_take_27 : decode bX2_take 27 = .ok (.ishl, 1) := by decide +kernel
theorem dX2_take_28 : decode bX2_take 28 = .ok (.ior, 1) := by decide +kernel
theorem dX2_take_29 : decode bX2_take 29 = .ok (.putfield 18, 3) := by decide +kernel
theorem dX2_take_32 : decode bX2_take 32 = .ok (.return_, 1) := by decide +kernel
section
variable {p : Program} {l : Launch} {e : Env} {s : State} {m : MethodId} {args : Array Value} {below : List Frame} {meth : Method} {c : Code} {G : GG} {n : Nat} {h' : Hp} {rv : Unit}
set_option maxHeartbeats 4000000
set_option maxRecDepth 100000
theorem k_X2_take (l : Launch) (G : GG) (n : Nat) (hN : NX ≤ n) {h h' : Hp} {x0 : Nat} {x1 : Int32} {x2 : Int32} {rv : Unit} (hf : f_X2_take h x0 x1 x2 = some (rv, h')) : CT l G n n yX2_take (.code yX2_take bX2_take 3 none) 0 0 0 [.ref (bs G + x0), .int x1, .int x2] h h' none := by
  refine ct_of (maxL := 3) (ret := none) (bytes := bX2_take) (by decide) (Nat.le_of_ble_eq_true rfl) (fun p e s m below meth c C0 X ls hl => ?_)
  have hl : lv_has ls 3 [(0, .ref (bs G + x0)), (1, .int x1), (2, .int x2)] := hl
  obtain ⟨hx, hb, hr, hml, hown, hts, hK, hlocks, hnm⟩ := id C0
  unfold f_X2_take at hf
  obtain ⟨o0, hf⟩ := gd_e hf
  refine lv_iload_n hx hb dX2_take_0 rfl (lv_at hl 1 rfl) ?_
  refine lv_if_lt (tgt := 32) hx hb dX2_take_1 (by decide) (fun c1 => ?_) (fun c1 => ?_)
  · have hf := ite_t hf c1
    exact r_V hx hb hr hlocks X hf dX2_take_32
  · have hf := ite_f hf c1
    refine lv_iload_n hx hb dX2_take_4 rfl (lv_at hl 1 rfl) ?_
    refine lv_bipush (v := (6 : Int32)) hx hb dX2_take_5 (by decide) ?_
    refine lv_icmp_ge (tgt := 32) hx hb dX2_take_7 (by decide) (fun c7 => ?_) (fun c7 => ?_)
    · have hf := ite_t hf c7
      exact r_V hx hb hr hlocks X hf dX2_take_32
    · have hf := ite_f hf c7
      refine lv_aload_n hx hb dX2_take_10 rfl (lv_at hl 0 rfl) ?_
      obtain ⟨g1, hf⟩ := gd_e hf
      refine g_R hx hb hts hown hK X o0 hN g1 fl_X2_9 (by decide) rfl (by decide) dX2_take_11 ?_
      refine lv_iload_n hx hb dX2_take_14 rfl (lv_at hl 1 rfl) ?_
      refine lv_dup2_11 hx hb dX2_take_15 rfl rfl ?_
      obtain ⟨g2, hf⟩ := gd_e hf
      refine g_ia hx hb hK X g1 hN g2 (by decide) dX2_take_16 ?_
      refine lv_iload_n hx hb dX2_take_17 rfl (lv_at hl 2 rfl) ?_
      refine lv_ior hx hb dX2_take_18 ?_
      obtain ⟨g3, hf⟩ := gd_e hf
      refine g_is hx hb hK X g1 hN g3 (by decide) dX2_take_19 (fun H locs X => ?_)
      obtain ⟨h4, e5, hf⟩ := lt_e hf
      rw [← e5] at X
      refine lv_aload_n hx hb dX2_take_20 rfl (lv_at hl 0 rfl) ?_
      refine lv_dup hx hb dX2_take_21 rfl ?_
      refine g_I hx hb hts hown hK X o0 hN fl_X2_18 (by decide) rfl dX2_take_22 ?_
      refine lv_iconst (v := (1 : Int32)) hx hb dX2_take_25 (by decide) ?_
      refine lv_iload_n hx hb dX2_take_26 rfl (lv_at hl 1 rfl) ?_
      refine lv_ishl hx hb dX2_take_27 ?_
      refine lv_ior hx hb dX2_take_28 ?_
      refine g_PI hx hb hts hown hK X o0 hN fl_X2_18 ft_2_2 (by decide) rfl dX2_take_29 (fun H locs X => ?_)
      obtain ⟨h6, e7, hf⟩ := lt_e hf
      rw [← e7] at X
      exact r_V hx hb hr hlocks X hf dX2_take_32
end
theorem dX11_together_0 : decode bX11_together 0 = .ok (.iconst 0, 1) := by decide +kernel
theorem dX11_together_1 : decode bX11_together 1 = .ok (.istore_n 1, 1) := by decide +kernel
theorem dX11_together_2 : decode bX11_together 2 = .ok (.aload_n 0, 1) := by decide +kernel
theorem dX11_together_3 : decode bX11_together 3 = .ok (.astore_n 2, 1) := by decide +kernel
theorem dX11_together_4 : decode bX11_together 4 = .ok (.aload_n 2, 1) := by decide +kernel
theorem dX11_together_5 : decode bX11_together 5 = .ok (.arraylength, 1) := by decide +kernel
theorem dX11_together_6 : decode bX11_together 6 = .ok (.istore_n 3, 1) := by decide +kernel
theorem dX11_together_7 : decode bX11_together 7 = .ok (.iconst 0, 1) := by decide +kernel
theorem dX11_together_8 : decode bX11_together 8 = .ok (.istore 4, 2) := by decide +kernel
theorem dX11_together_10 : decode bX11_together 10 = .ok (.iload 4, 2) := by decide +kernel
theorem dX11_together_12 : decode bX11_together 12 = .ok (.iload_n 3, 1) := by decide +kernel
theorem dX11_together_13 : decode bX11_together 13 = .ok (.if_icmp .ge 20, 3) := by decide +kernel
theorem dX11_together_16 : decode bX11_together 16 = .ok (.aload_n 2, 1) := by decide +kernel
theorem dX11_together_17 : decode bX11_together 17 = .ok (.iload 4, 2) := by decide +kernel
theorem dX11_together_19 : decode bX11_together 19 = .ok (.iaload, 1) := by decide +kernel
theorem dX11_together_20 : decode bX11_together 20 = .ok (.istore 5, 2) := by decide +kernel
theorem dX11_together_22 : decode bX11_together 22 = .ok (.iload_n 1, 1) := by decide +kernel
theorem dX11_together_23 : decode bX11_together 23 = .ok (.iload 5, 2) := by decide +kernel
theorem dX11_together_25 : decode bX11_together 25 = .ok (.ior, 1) := by decide +kernel
theorem dX11_together_26 : decode bX11_together 26 = .ok (.istore_n 1, 1) := by decide +kernel
theorem dX11_together_27 : decode bX11_together 27 = .ok (.iinc 4 1, 3) := by decide +kernel
theorem dX11_together_30 : decode bX11_together 30 = .ok (.goto (-20), 3) := by decide +kernel
theorem dX11_together_33 : decode bX11_together 33 = .ok (.iload_n 1, 1) := by decide +kernel
theorem dX11_together_34 : decode bX11_together 34 = .ok (.ireturn, 1) := by decide +kernel
section
variable {p : Program} {l : Launch} {e : Env} {s : State} {m : MethodId} {args : Array Value} {below : List Frame} {meth : Method} {c : Code} {G : GG} {n : Nat} {h' : Hp} {rv : Int32}
set_option maxHeartbeats 4000000
set_option maxRecDepth 100000
theorem j_X11_together_10 (C0 : Cx p s m args meth c G bX11_together RX11 6 (some .int) "together") (hN : NX ≤ n) : ∀ (fu : Nat), ∀ {H : Heap} {locs : List Loc} {ls : Array Slot} {h : Hp} {x1 : Int32} {x2 : Nat} {x3 : Int32} {x4 : Int32}, XW G n h s 0 H locs → lv_has ls 6 [(1, .int x1), (2, .ref (bs G + x2)), (3, .int x3), (4, .int x4)] → kd x2 = 13 → f_X11_together_10 fu h x1 x2 x3 x4 = some (rv, h') → W p l e (rmC 0 0 0) s m args below meth c H locs 0 0 (MQ below (QP G n h' (some (.int rv))) args s 0 0 (Ab G)) (F0 m 10 ls []) := by
  obtain ⟨hx, hb, hr, hml, hown, hts, hK, hlocks, hnm⟩ := id C0
  intro fu
  induction fu with
  | zero => intro H locs ls h x1 x2 x3 x4 X hl o2 hf; cases hf
  | succ fu ih =>
    intro H locs ls h x1 x2 x3 x4 X hl o2 hf
    rw [f_X11_together_10] at hf
    refine lv_iload hx hb dX11_together_10 (lv_at hl 3 rfl) ?_
    refine lv_iload_n hx hb dX11_together_12 rfl (lv_at hl 2 rfl) ?_
    refine lv_icmp_ge (tgt := 33) hx hb dX11_together_13 (by decide) (fun c13 => ?_) (fun c13 => ?_)
    · have hf := ite_t hf c13
      refine lv_iload_n hx hb dX11_together_33 rfl (lv_at hl 0 rfl) ?_
      exact r_I hx hb hr hlocks X hf dX11_together_34
    · have hf := ite_f hf c13
      refine lv_aload_n hx hb dX11_together_16 rfl (lv_at hl 1 rfl) ?_
      refine lv_iload hx hb dX11_together_17 (lv_at hl 3 rfl) ?_
      obtain ⟨g1, hf⟩ := gd_e hf
      refine g_ia hx hb hK X o2 hN g1 (by decide) dX11_together_19 ?_
      refine lv_istore (lv' := [(5, .int (h.1 x2 x4.toNatClampNeg)), (1, .int x1), (2, .ref (bs G + x2)), (3, .int x3), (4, .int x4)]) hx hb dX11_together_20 hl (by decide) rfl (fun ls hl => ?_)
      refine lv_iload_n hx hb dX11_together_22 rfl (lv_at hl 1 rfl) ?_
      refine lv_iload hx hb dX11_together_23 (lv_at hl 0 rfl) ?_
      refine lv_ior hx hb dX11_together_25 ?_
      refine lv_istore_n (lv' := [(1, .int (x1 ||| (h.1 x2 x4.toNatClampNeg))), (5, .int (h.1 x2 x4.toNatClampNeg)), (2, .ref (bs G + x2)), (3, .int x3), (4, .int x4)]) hx hb dX11_together_26 rfl hl (by decide) rfl (fun ls hl => ?_)
      refine lv_iinc (v := (x4 + (1 : Int32))) (lv' := [(4, .int (x4 + (1 : Int32))), (1, .int (x1 ||| (h.1 x2 x4.toNatClampNeg))), (5, .int (h.1 x2 x4.toNatClampNeg)), (2, .ref (bs G + x2)), (3, .int x3)]) hx hb dX11_together_27 hl (k := 4) rfl rfl (by decide) rfl (fun ls hl => ?_)
      refine lv_goto (tgt := 10) hx hb dX11_together_30 (by decide) ?_
      exact ih X (lv_sub hl [1, 3, 4, 0] rfl) o2 hf
theorem k_X11_together (l : Launch) (G : GG) (n : Nat) (hN : NX ≤ n) {h h' : Hp} {x0 : Nat} {rv : Int32} (hf : f_X11_together h x0 = some (rv, h')) : CT l G n n yX11_together (.code yX11_together bX11_together 6 (some .int)) 0 0 0 [.ref (bs G + x0)] h h' (some (.int rv)) := by
  refine ct_of (maxL := 6) (ret := (some .int)) (bytes := bX11_together) (by decide) (Nat.le_of_ble_eq_true rfl) (fun p e s m below meth c C0 X ls hl => ?_)
  have hl : lv_has ls 6 [(0, .ref (bs G + x0))] := hl
  obtain ⟨hx, hb, hr, hml, hown, hts, hK, hlocks, hnm⟩ := id C0
  unfold f_X11_together at hf
  obtain ⟨o0, hf⟩ := gd_e hf
  refine lv_iconst (v := (0 : Int32)) hx hb dX11_together_0 (by decide) ?_
  refine lv_istore_n (lv' := [(1, .int (0 : Int32)), (0, .ref (bs G + x0))]) hx hb dX11_together_1 rfl hl (by decide) rfl (fun ls hl => ?_)
  refine lv_aload_n hx hb dX11_together_2 rfl (lv_at hl 1 rfl) ?_
  refine lv_astore_n (lv' := [(2, .ref (bs G + x0)), (1, .int (0 : Int32)), (0, .ref (bs G + x0))]) hx hb dX11_together_3 rfl hl (by decide) rfl (fun ls hl => ?_)
  refine lv_aload_n hx hb dX11_together_4 rfl (lv_at hl 0 rfl) ?_
  refine g_al hx hb hK X o0 hN (by decide) dX11_together_5 ?_
  refine lv_istore_n (lv' := [(3, .int (nI (ln x0))), (2, .ref (bs G + x0)), (1, .int (0 : Int32)), (0, .ref (bs G + x0))]) hx hb dX11_together_6 rfl hl (by decide) rfl (fun ls hl => ?_)
  refine lv_iconst (v := (0 : Int32)) hx hb dX11_together_7 (by decide) ?_
  refine lv_istore (lv' := [(4, .int (0 : Int32)), (3, .int (nI (ln x0))), (2, .ref (bs G + x0)), (1, .int (0 : Int32)), (0, .ref (bs G + x0))]) hx hb dX11_together_8 hl (by decide) rfl (fun ls hl => ?_)
  exact j_X11_together_10 C0 hN FU X (lv_sub hl [3, 2, 1, 0] rfl) o0 hf
end
theorem dX2_taken_0 : decode bX2_taken 0 = .ok (.aload_n 0, 1) := by decide +kernel
theorem dX2_taken_1 : decode bX2_taken 1 = .ok (.getfield 9, 3) := by decide +kernel
theorem dX2_taken_4 : decode bX2_taken 4 = .ok (.invokestatic 35, 3) := by decide +kernel
theorem dX2_taken_7 : decode bX2_taken 7 = .ok (.ireturn, 1) := by decide +kernel
section
variable {p : Program} {l : Launch} {e : Env} {s : State} {m : MethodId} {args : Array Value} {below : List Frame} {meth : Method} {c : Code} {G : GG} {n : Nat} {h' : Hp} {rv : Int32}
set_option maxHeartbeats 4000000
set_option maxRecDepth 100000
theorem k_X2_taken (l : Launch) (G : GG) (n : Nat) (hN : NX ≤ n) {h h' : Hp} {x0 : Nat} {rv : Int32} (hf : f_X2_taken h x0 = some (rv, h')) : CT l G n n yX2_taken (.code yX2_taken bX2_taken 1 (some .int)) 1 0 0 [.ref (bs G + x0)] h h' (some (.int rv)) := by
  refine ct_of (maxL := 1) (ret := (some .int)) (bytes := bX2_taken) (by decide) (Nat.le_of_ble_eq_true rfl) (fun p e s m below meth c C0 X ls hl => ?_)
  have hl : lv_has ls 1 [(0, .ref (bs G + x0))] := hl
  obtain ⟨hx, hb, hr, hml, hown, hts, hK, hlocks, hnm⟩ := id C0
  unfold f_X2_taken at hf
  obtain ⟨o0, hf⟩ := gd_e hf
  refine lv_aload_n hx hb dX2_taken_0 rfl (lv_at hl 0 rfl) ?_
  obtain ⟨g1, hf⟩ := gd_e hf
  refine g_R hx hb hts hown hK X o0 hN g1 fl_X2_9 (by decide) rfl (by decide) dX2_taken_1 ?_
  obtain ⟨r2, h3, q4, hf⟩ := bd_e hf
  refine c_SN0 (As := [.ref (bs G + (h.2 x0 0))]) (rest := []) (st1 := [.int r2]) hx hb hml hown hts hK X (k_X11_together l G n hN q4) lc_X11_together ls_X2_35 (by decide) rfl hl.1 (Nat.le_of_ble_eq_true rfl) dX2_taken_4 rfl (fun H locs X => ?_)
  exact r_I hx hb hr hlocks X hf dX2_taken_7
end
theorem dX2_lent_0 : decode bX2_lent 0 = .ok (.aload_n 0, 1) := by decide +kernel
theorem dX2_lent_1 : decode bX2_lent 1 = .ok (.getfield 15, 3) := by decide +kernel
theorem dX2_lent_4 : decode bX2_lent 4 = .ok (.invokestatic 35, 3) := by decide +kernel
theorem dX2_lent_7 : decode bX2_lent 7 = .ok (.ireturn, 1) := by decide +kernel
section
variable {p : Program} {l : Launch} {e : Env} {s : State} {m : MethodId} {args : Array Value} {below : List Frame} {meth : Method} {c : Code} {G : GG} {n : Nat} {h' : Hp} {rv : Int32}
set_option maxHeartbeats 4000000
set_option maxRecDepth 100000
theorem k_X2_lent (l : Launch) (G : GG) (n : Nat) (hN : NX ≤ n) {h h' : Hp} {x0 : Nat} {rv : Int32} (hf : f_X2_lent h x0 = some (rv, h')) : CT l G n n yX2_lent (.code yX2_lent bX2_lent 1 (some .int)) 1 0 0 [.ref (bs G + x0)] h h' (some (.int rv)) := by
  refine ct_of (maxL := 1) (ret := (some .int)) (bytes := bX2_lent) (by decide) (Nat.le_of_ble_eq_true rfl) (fun p e s m below meth c C0 X ls hl => ?_)
  have hl : lv_has ls 1 [(0, .ref (bs G + x0))] := hl
  obtain ⟨hx, hb, hr, hml, hown, hts, hK, hlocks, hnm⟩ := id C0
  unfold f_X2_lent at hf
  obtain ⟨o0, hf⟩ := gd_e hf
  refine lv_aload_n hx hb dX2_lent_0 rfl (lv_at hl 0 rfl) ?_
  obtain ⟨g1, hf⟩ := gd_e hf
  refine g_R hx hb hts hown hK X o0 hN g1 fl_X2_15 (by decide) rfl (by decide) dX2_lent_1 ?_
  obtain ⟨r2, h3, q4, hf⟩ := bd_e hf
  refine c_SN0 (As := [.ref (bs G + (h.2 x0 1))]) (rest := []) (st1 := [.int r2]) hx hb hml hown hts hK X (k_X11_together l G n hN q4) lc_X11_together ls_X2_35 (by decide) rfl hl.1 (Nat.le_of_ble_eq_true rfl) dX2_lent_4 rfl (fun H locs X => ?_)
  exact r_I hx hb hr hlocks X hf dX2_lent_7
end
theorem dX3_dropOldest_0 : decode bX3_dropOldest 0 = .ok (.aload_n 0, 1) := by decide +kernel
theorem dX3_dropOldest_1 : decode bX3_dropOldest 1 = .ok (.getfield 15, 3) := by decide +kernel
theorem dX3_dropOldest_4 : decode bX3_dropOldest 4 = .ok (.iconst 0, 1) := by decide +kernel
theorem dX3_dropOldest_5 : decode bX3_dropOldest 5 = .ok (.aaload, 1) := by decide +kernel
theorem dX3_dropOldest_6 : decode bX3_dropOldest 6 = .ok (.astore_n 1, 1) := by decide +kernel
theorem dX3_dropOldest_7 : decode bX3_dropOldest 7 = .ok (.iconst 1, 1) := by decide +kernel
theorem dX3_dropOldest_8 : decode bX3_dropOldest 8 = .ok (.istore_n 2, 1) := by decide +kernel
theorem dX3_dropOldest_9 : decode bX3_dropOldest 9 = .ok (.iload_n 2, 1) := by decide +kernel
theorem dX3_dropOldest_10 : decode bX3_dropOldest 10 = .ok (.aload_n 0, 1) := by decide +kernel
theorem dX3_dropOldest_11 : decode bX3_dropOldest 11 = .ok (.getfield 15, 3) := by decide +kernel
theorem dX3_dropOldest_14 : decode bX3_dropOldest 14 = .ok (.arraylength, 1) := by decide +kernel
theorem dX3_dropOldest_15 : decode bX3_dropOldest 15 = .ok (.if_icmp .ge 23, 3) := by decide +kernel
theorem dX3_dropOldest_18 : decode bX3_dropOldest 18 = .ok (.aload_n 0, 1) := by decide +kernel
theorem dX3_dropOldest_19 : decode bX3_dropOldest 19 = .ok (.getfield 15, 3) := by decide +kernel
theorem dX3_dropOldest_22 : decode bX3_dropOldest 22 = .ok (.iload_n 2, 1) := by decide +kernel
theorem dX3_dropOldest_23 : decode bX3_dropOldest 23 = .ok (.iconst 1, 1) := by decide +kernel
theorem dX3_dropOldest_24 : decode bX3_dropOldest 24 = .ok (.isub, 1) := by decide +kernel
theorem dX3_dropOldest_25 : decode bX3_dropOldest 25 = .ok (.aload_n 0, 1) := by decide +kernel
theorem dX3_dropOldest_26 : decode bX3_dropOldest 26 = .ok (.getfield 15, 3) := by decide +kernel
theorem dX3_dropOldest_29 : decode bX3_dropOldest 29 = .ok (.iload_n 2, 1) := by decide +kernel
theorem dX3_dropOldest_30 : decode bX3_dropOldest 30 = .ok (.aaload, 1) := by decide +kernel
theorem dX3_dropOldest_31 : decode bX3_dropOldest 31 = .ok (.aastore, 1) := by decide +kernel
theorem dX3_dropOldest_32 : decode bX3_dropOldest 32 = .ok (.iinc 2 1, 3) := by decide +kernel
theorem dX3_dropOldest_35 : decode bX3_dropOldest 35 = .ok (.goto (-26), 3) := by decide +kernel
theorem dX3_dropOldest_38 : decode bX3_dropOldest 38 = .ok (.aload_n 0, 1) := by decide +kernel
theorem dX3_dropOldest_39 : decode bX3_dropOldest 39 = .ok (.getfield 15, 3) := by decide +kernel
theorem dX3_dropOldest_42 : decode bX3_dropOldest 42 = .ok (.aload_n 0, 1) := by decide +kernel
theorem dX3_dropOldest_43 : decode bX3_dropOldest 43 = .ok (.getfield 15, 3) := by decide +kernel
theorem dX3_dropOldest_46 : decode bX3_dropOldest 46 = .ok (.arraylength, 1) := by decide +kernel
theorem dX3_dropOldest_47 : decode bX3_dropOldest 47 = .ok (.iconst 1, 1) := by decide +kernel
theorem dX3_dropOldest_48 : decode bX3_dropOldest 48 = .ok (.isub, 1) := by decide +kernel
theorem dX3_dropOldest_49 : decode bX3_dropOldest 49 = .ok (.aload_n 1, 1) := by decide +kernel
theorem dX3_dropOldest_50 : decode bX3_dropOldest 50 = .ok (.aastore, 1) := by decide +kernel
theorem dX3_dropOldest_51 : decode bX3_dropOldest 51 = .ok (.aload_n 0, 1) := by decide +kernel
theorem dX3_dropOldest_52 : decode bX3_dropOldest 52 = .ok (.aload_n 0, 1) := by decide +kernel
theorem dX3_dropOldest_53 : decode bX3_dropOldest 53 = .ok (.getfield 15, 3) := by decide +kernel
theorem dX3_dropOldest_56 : decode bX3_dropOldest 56 = .ok (.arraylength, 1) := by decide +kernel
theorem dX3_dropOldest_57 : decode bX3_dropOldest 57 = .ok (.iconst 1, 1) := by decide +kernel
theorem dX3_dropOldest_58 : decode bX3_dropOldest 58 = .ok (.isub, 1) := by decide +kernel
theorem dX3_dropOldest_59 : decode bX3_dropOldest 59 = .ok (.putfield 22, 3) := by decide +kernel
theorem dX3_dropOldest_62 : decode bX3_dropOldest 62 = .ok (.return_, 1) := by decide +kernel
section
variable {p : Program} {l : Launch} {e : Env} {s : State} {m : MethodId} {args : Array Value} {below : List Frame} {meth : Method} {c : Code} {G : GG} {n : Nat} {h' : Hp} {rv : Unit}
set_option maxHeartbeats 4000000
set_option maxRecDepth 100000
theorem j_X3_dropOldest_9 (C0 : Cx p s m args meth c G bX3_dropOldest RX3 3 none "dropOldest") (hN : NX ≤ n) : ∀ (fu : Nat), ∀ {H : Heap} {locs : List Loc} {ls : Array Slot} {h : Hp} {x0 : Nat} {x1 : Nat} {x2 : Int32}, XW G n h s 0 H locs → lv_has ls 3 [(0, .ref (bs G + x0)), (1, .ref (bs G + x1)), (2, .int x2)] → kd x0 = 3 → kd x1 = 2 → f_X3_dropOldest_9 fu h x0 x1 x2 = some (rv, h') → W p l e (rmC 0 0 0) s m args below meth c H locs 0 0 (MQ below (QP G n h' none) args s 0 0 (Ab G)) (F0 m 9 ls []) := by
  obtain ⟨hx, hb, hr, hml, hown, hts, hK, hlocks, hnm⟩ := id C0
  intro fu
  induction fu with
  | zero => intro H locs ls h x0 x1 x2 X hl o0 o1 hf; cases hf
  | succ fu ih =>
    intro H locs ls h x0 x1 x2 X hl o0 o1 hf
    rw [f_X3_dropOldest_9] at hf
    refine lv_iload_n hx hb dX3_dropOldest_9 rfl (lv_at hl 2 rfl) ?_
    refine lv_aload_n hx hb dX3_dropOldest_10 rfl (lv_at hl 0 rfl) ?_
    obtain ⟨g1, hf⟩ := gd_e hf
    refine g_R hx hb hts hown hK X o0 hN g1 fl_X3_15 (by decide) rfl (by decide) dX3_dropOldest_11 ?_
    refine g_al hx hb hK X g1 hN (by decide) dX3_dropOldest_14 ?_
    refine lv_icmp_ge (tgt := 38) hx hb dX3_dropOldest_15 (by decide) (fun c15 => ?_) (fun c15 => ?_)
    · have hf := ite_t hf c15
      refine lv_aload_n hx hb dX3_dropOldest_38 rfl (lv_at hl 0 rfl) ?_
      obtain ⟨g2, hf⟩ := gd_e hf
      refine g_R hx hb hts hown hK X o0 hN g2 fl_X3_15 (by decide) rfl (by decide) dX3_dropOldest_39 ?_
      refine lv_aload_n hx hb dX3_dropOldest_42 rfl (lv_at hl 0 rfl) ?_
      obtain ⟨g3, hf⟩ := gd_e hf
      refine g_R hx hb hts hown hK X o0 hN g3 fl_X3_15 (by decide) rfl (by decide) dX3_dropOldest_43 ?_
      refine g_al hx hb hK X g3 hN (by decide) dX3_dropOldest_46 ?_
      refine lv_iconst (v := (1 : Int32)) hx hb dX3_dropOldest_47 (by decide) ?_
      refine lv_isub hx hb dX3_dropOldest_48 ?_
      refine lv_aload_n hx hb dX3_dropOldest_49 rfl (lv_at hl 1 rfl) ?_
      obtain ⟨g4, hf⟩ := gd_e hf
      refine g_ds hx hb hK X g2 (kd_in g2 hN (by decide)) g4 o1 (kd_in o1 hN (by decide)) dX3_dropOldest_50 (fun H locs X => ?_)
      obtain ⟨h5, e6, hf⟩ := lt_e hf
      rw [← e6] at X
      refine lv_aload_n hx hb dX3_dropOldest_51 rfl (lv_at hl 0 rfl) ?_
      refine lv_aload_n hx hb dX3_dropOldest_52 rfl (lv_at hl 0 rfl) ?_
      obtain ⟨g7, hf⟩ := gd_e hf
      refine g_R hx hb hts hown hK X o0 hN g7 fl_X3_15 (by decide) rfl (by decide) dX3_dropOldest_53 ?_
      refine g_al hx hb hK X g7 hN (by decide) dX3_dropOldest_56 ?_
      refine lv_iconst (v := (1 : Int32)) hx hb dX3_dropOldest_57 (by decide) ?_
      refine lv_isub hx hb dX3_dropOldest_58 ?_
      refine g_PI hx hb hts hown hK X o0 hN fl_X3_22 ft_3_0 (by decide) rfl dX3_dropOldest_59 (fun H locs X => ?_)
      obtain ⟨h8, e9, hf⟩ := lt_e hf
      rw [← e9] at X
      exact r_V hx hb hr hlocks X hf dX3_dropOldest_62
    · have hf := ite_f hf c15
      refine lv_aload_n hx hb dX3_dropOldest_18 rfl (lv_at hl 0 rfl) ?_
      obtain ⟨g10, hf⟩ := gd_e hf
      refine g_R hx hb hts hown hK X o0 hN g10 fl_X3_15 (by decide) rfl (by decide) dX3_dropOldest_19 ?_
      refine lv_iload_n hx hb dX3_dropOldest_22 rfl (lv_at hl 2 rfl) ?_
      refine lv_iconst (v := (1 : Int32)) hx hb dX3_dropOldest_23 (by decide) ?_
      refine lv_isub hx hb dX3_dropOldest_24 ?_
      refine lv_aload_n hx hb dX3_dropOldest_25 rfl (lv_at hl 0 rfl) ?_
      obtain ⟨g11, hf⟩ := gd_e hf
      refine g_R hx hb hts hown hK X o0 hN g11 fl_X3_15 (by decide) rfl (by decide) dX3_dropOldest_26 ?_
      refine lv_iload_n hx hb dX3_dropOldest_29 rfl (lv_at hl 2 rfl) ?_
      obtain ⟨g12, hf⟩ := gd_e hf
      obtain ⟨g13, hf⟩ := gd_e hf
      refine g_da hx hb hK X g11 hN g12 g13 dX3_dropOldest_30 ?_
      obtain ⟨g14, hf⟩ := gd_e hf
      refine g_ds hx hb hK X g10 (kd_in g10 hN (by decide)) g14 g13 (kd_in g13 hN (by decide)) dX3_dropOldest_31 (fun H locs X => ?_)
      obtain ⟨h15, e16, hf⟩ := lt_e hf
      rw [← e16] at X
      refine lv_iinc (v := (x2 + (1 : Int32))) (lv' := [(2, .int (x2 + (1 : Int32))), (0, .ref (bs G + x0)), (1, .ref (bs G + x1))]) hx hb dX3_dropOldest_32 hl (k := 2) rfl rfl (by decide) rfl (fun ls hl => ?_)
      refine lv_goto (tgt := 9) hx hb dX3_dropOldest_35 (by decide) ?_
      exact ih X (lv_sub hl [1, 2, 0] rfl) o0 o1 hf
theorem k_X3_dropOldest (l : Launch) (G : GG) (n : Nat) (hN : NX ≤ n) {h h' : Hp} {x0 : Nat} {rv : Unit} (hf : f_X3_dropOldest h x0 = some (rv, h')) : CT l G n n yX3_dropOldest (.code yX3_dropOldest bX3_dropOldest 3 none) 0 0 0 [.ref (bs G + x0)] h h' none := by
  refine ct_of (maxL := 3) (ret := none) (bytes := bX3_dropOldest) (by decide) (Nat.le_of_ble_eq_true rfl) (fun p e s m below meth c C0 X ls hl => ?_)
  have hl : lv_has ls 3 [(0, .ref (bs G + x0))] := hl
  obtain ⟨hx, hb, hr, hml, hown, hts, hK, hlocks, hnm⟩ := id C0
  unfold f_X3_dropOldest at hf
  obtain ⟨o0, hf⟩ := gd_e hf
  refine lv_aload_n hx hb dX3_dropOldest_0 rfl (lv_at hl 0 rfl) ?_
  obtain ⟨g1, hf⟩ := gd_e hf
  refine g_R hx hb hts hown hK X o0 hN g1 fl_X3_15 (by decide) rfl (by decide) dX3_dropOldest_1 ?_
  refine lv_iconst (v := (0 : Int32)) hx hb dX3_dropOldest_4 (by decide) ?_
  obtain ⟨g2, hf⟩ := gd_e hf
  obtain ⟨g3, hf⟩ := gd_e hf
  refine g_da hx hb hK X g1 hN g2 g3 dX3_dropOldest_5 ?_
  refine lv_astore_n (lv' := [(1, .ref (bs G + (h.2 (h.2 x0 1) (0 : Int32).toNatClampNeg))), (0, .ref (bs G + x0))]) hx hb dX3_dropOldest_6 rfl hl (by decide) rfl (fun ls hl => ?_)
  refine lv_iconst (v := (1 : Int32)) hx hb dX3_dropOldest_7 (by decide) ?_
  refine lv_istore_n (lv' := [(2, .int (1 : Int32)), (1, .ref (bs G + (h.2 (h.2 x0 1) (0 : Int32).toNatClampNeg))), (0, .ref (bs G + x0))]) hx hb dX3_dropOldest_8 rfl hl (by decide) rfl (fun ls hl => ?_)
  exact j_X3_dropOldest_9 C0 hN FU X (lv_sub hl [2, 1, 0] rfl) o0 g3 hf
end
theorem dX3_push_0 : decode bX3_push 0 = .ok (.aload_n 0, 1) := by decide +kernel
theorem dX3_push_1 : decode bX3_push 1 = .ok (.getfield 22, 3) := by decide +kernel
theorem dX3_push_4 : decode bX3_push 4 = .ok (.aload_n 0, 1) := by decide +kernel
theorem dX3_push_5 : decode bX3_push 5 = .ok (.getfield 15, 3) := by decide +kernel
theorem dX3_push_8 : decode bX3_push 8 = .ok (.arraylength, 1) := by decide +kernel
theorem dX3_push_9 : decode bX3_push 9 = .ok (.if_icmp .lt 7, 3) := by decide +kernel
theorem dX3_push_12 : decode bX3_push 12 = .ok (.aload_n 0, 1) := by decide +kernel
theorem dX3_push_13 : decode bX3_push 13 = .ok (.invokevirtual 26, 3) := by decide +kernel
theorem dX3_push_16 : decode bX3_push 16 = .ok (.aload_n 0, 1) := by decide +kernel
theorem dX3_push_17 : decode bX3_push 17 = .ok (.getfield 15, 3) := by decide +kernel
theorem dX3_push_20 : decode bX3_push 20 = .ok (.aload_n 0, 1) := by decide +kernel
theorem dX3_push_21 : decode bX3_push 21 = .ok (.getfield 22, 3) := by decide +kernel
theorem dX3_push_24 : decode bX3_push 24 = .ok (.aaload, 1) := by decide +kernel
theorem dX3_push_25 : decode bX3_push 25 = .ok (.aload_n 1, 1) := by decide +kernel
theorem dX3_push_26 : decode bX3_push 26 = .ok (.invokevirtual 29, 3) := by decide +kernel
theorem dX3_push_29 : decode bX3_push 29 = .ok (.aload_n 0, 1) := by decide +kernel
theorem dX3_push_30 : decode bX3_push 30 = .ok (.dup, 1) := by decide +kernel
theorem dX3_push_31 : decode bX3_push 31 = .ok (.getfield 22, 3) := by decide +kernel
theorem dX3_push_34 : decode bX3_push 34 = .ok (.iconst 1, 1) := by decide +kernel
theorem dX3_push_35 : decode bX3_push 35 = .ok (.iadd, 1) := by decide +kernel
theorem dX3_push_36 : decode bX3_push 36 = .ok (.putfield 22, 3) := by decide +kernel
theorem dX3_push_39 : decode bX3_push 39 = .ok (.return_, 1) := by decide +kernel
section
variable {p : Program} {l : Launch} {e : Env} {s : State} {m : MethodId} {args : Array Value} {below : List Frame} {meth : Method} {c : Code} {G : GG} {n : Nat} {h' : Hp} {rv : Unit}
set_option maxHeartbeats 4000000
set_option maxRecDepth 100000
theorem j_X3_push_16 (C0 : Cx p s m args meth c G bX3_push RX3 2 none "push") (hN : NX ≤ n) {H : Heap} {locs : List Loc} {ls : Array Slot} {h : Hp} {x0 : Nat} {x1 : Nat} (X : XW G n h s 0 H locs) (hl : lv_has ls 2 [(0, .ref (bs G + x0)), (1, .ref (bs G + x1))]) (o0 : kd x0 = 3) (o1 : kd x1 = 2) (hf : f_X3_push_16 h x0 x1 = some (rv, h')) : W p l e (rmC 2 0 0) s m args below meth c H locs 0 0 (MQ below (QP G n h' none) args s 0 0 (Ab G)) (F0 m 16 ls []) := by
  obtain ⟨hx, hb, hr, hml, hown, hts, hK, hlocks, hnm⟩ := id C0
  unfold f_X3_push_16 at hf
  refine lv_aload_n hx hb dX3_push_16 rfl (lv_at hl 0 rfl) ?_
  obtain ⟨g1, hf⟩ := gd_e hf
  refine g_R hx hb hts hown hK X o0 hN g1 fl_X3_15 (by decide) rfl (by decide) dX3_push_17 ?_
  refine lv_aload_n hx hb dX3_push_20 rfl (lv_at hl 0 rfl) ?_
  refine g_I hx hb hts hown hK X o0 hN fl_X3_22 (by decide) rfl dX3_push_21 ?_
  obtain ⟨g2, hf⟩ := gd_e hf
  obtain ⟨g3, hf⟩ := gd_e hf
  refine g_da hx hb hK X g1 hN g2 g3 dX3_push_24 ?_
  refine lv_aload_n hx hb dX3_push_25 rfl (lv_at hl 1 rfl) ?_
  obtain ⟨r4, h5, q6, hf⟩ := bd_e hf
  refine c_V0 (As := [.ref (bs G + x1)]) (rest := []) (st1 := []) hx hb hml hown hts hK X (k_X2_copy l G n hN q6) g3 hN lc_X2_copy lv_X3_29 (ci := 2) rfl rfl (by decide) rfl hl.1 (Nat.le_of_ble_eq_true rfl) dX3_push_26 rfl (fun H locs X => ?_)
  refine lv_aload_n hx hb dX3_push_29 rfl (lv_at hl 0 rfl) ?_
  refine lv_dup hx hb dX3_push_30 rfl ?_
  refine g_I hx hb hts hown hK X o0 hN fl_X3_22 (by decide) rfl dX3_push_31 ?_
  refine lv_iconst (v := (1 : Int32)) hx hb dX3_push_34 (by decide) ?_
  refine lv_iadd hx hb dX3_push_35 ?_
  refine g_PI hx hb hts hown hK X o0 hN fl_X3_22 ft_3_0 (by decide) rfl dX3_push_36 (fun H locs X => ?_)
  obtain ⟨h7, e8, hf⟩ := lt_e hf
  rw [← e8] at X
  exact r_V hx hb hr hlocks X hf dX3_push_39
theorem k_X3_push (l : Launch) (G : GG) (n : Nat) (hN : NX ≤ n) {h h' : Hp} {x0 : Nat} {x1 : Nat} {rv : Unit} (hf : f_X3_push h x0 x1 = some (rv, h')) : CT l G n n yX3_push (.code yX3_push bX3_push 2 none) 2 0 0 [.ref (bs G + x0), .ref (bs G + x1)] h h' none := by
  refine ct_of (maxL := 2) (ret := none) (bytes := bX3_push) (by decide) (Nat.le_of_ble_eq_true rfl) (fun p e s m below meth c C0 X ls hl => ?_)
  have hl : lv_has ls 2 [(0, .ref (bs G + x0)), (1, .ref (bs G + x1))] := hl
  obtain ⟨hx, hb, hr, hml, hown, hts, hK, hlocks, hnm⟩ := id C0
  unfold f_X3_push at hf
  obtain ⟨o0, hf⟩ := gd_e hf
  obtain ⟨o1, hf⟩ := gd_e hf
  refine lv_aload_n hx hb dX3_push_0 rfl (lv_at hl 0 rfl) ?_
  refine g_I hx hb hts hown hK X o0 hN fl_X3_22 (by decide) rfl dX3_push_1 ?_
  refine lv_aload_n hx hb dX3_push_4 rfl (lv_at hl 0 rfl) ?_
  obtain ⟨g1, hf⟩ := gd_e hf
  refine g_R hx hb hts hown hK X o0 hN g1 fl_X3_15 (by decide) rfl (by decide) dX3_push_5 ?_
  refine g_al hx hb hK X g1 hN (by decide) dX3_push_8 ?_
  refine lv_icmp_lt (tgt := 16) hx hb dX3_push_9 (by decide) (fun c9 => ?_) (fun c9 => ?_)
  · have hf := ite_t hf c9
    exact j_X3_push_16 C0 hN X (lv_sub hl [0, 1] rfl) o0 o1 hf
  · have hf := ite_f hf c9
    refine lv_aload_n hx hb dX3_push_12 rfl (lv_at hl 0 rfl) ?_
    obtain ⟨r2, h3, q4, hf⟩ := bd_e hf
    refine c_V0 (As := []) (rest := []) (st1 := []) hx hb hml hown hts hK X (k_X3_dropOldest l G n hN q4) o0 hN lc_X3_dropOldest lv_X3_26 (ci := 3) rfl rfl (by decide) rfl hl.1 (Nat.le_of_ble_eq_true rfl) dX3_push_13 rfl (fun H locs X => ?_)
    exact j_X3_push_16 C0 hN X (lv_sub hl [0, 1] rfl) o0 o1 hf
end
theorem dX3_pop_0 : decode bX3_pop 0 = .ok (.aload_n 0, 1) := by decide +kernel
theorem dX3_pop_1 : decode bX3_pop 1 = .ok (.getfield 22, 3) := by decide +kernel
theorem dX3_pop_4 : decode bX3_pop 4 = .ok (.ifCond .gt 5, 3) := by decide +kernel
theorem dX3_pop_7 : decode bX3_pop 7 = .ok (.iconst 0, 1) := by decide +kernel
theorem dX3_pop_8 : decode bX3_pop 8 = .ok (.ireturn, 1) := by decide +kernel
theorem dX3_pop_9 : decode bX3_pop 9 = .ok (.aload_n 0, 1) := by decide +kernel
theorem dX3_pop_10 : decode bX3_pop 10 = .ok (.dup, 1) := by decide +kernel
theorem dX3_pop_11 : decode bX3_pop 11 = .ok (.getfield 22, 3) := by decide +kernel
theorem dX3_pop_14 : decode bX3_pop 14 = .ok (.iconst 1, 1) := by decide +kernel
theorem dX3_pop_15 : decode bX3_pop 15 = .ok (.isub, 1) := by decide +kernel
theorem dX3_pop_16 : decode bX3_pop 16 = .ok (.putfield 22, 3) := by decide +kernel
theorem dX3_pop_19 : decode bX3_pop 19 = .ok (.aload_n 1, 1) := by decide +kernel
theorem dX3_pop_20 : decode bX3_pop 20 = .ok (.aload_n 0, 1) := by decide +kernel
theorem dX3_pop_21 : decode bX3_pop 21 = .ok (.getfield 15, 3) := by decide +kernel
theorem dX3_pop_24 : decode bX3_pop 24 = .ok (.aload_n 0, 1) := by decide +kernel
theorem dX3_pop_25 : decode bX3_pop 25 = .ok (.getfield 22, 3) := by decide +kernel
theorem dX3_pop_28 : decode bX3_pop 28 = .ok (.aaload, 1) := by decide +kernel
theorem dX3_pop_29 : decode bX3_pop 29 = .ok (.invokevirtual 29, 3) := by decide +kernel
theorem dX3_pop_32 : decode bX3_pop 32 = .ok (.iconst 1, 1) := by decide +kernel
theorem dX3_pop_33 : decode bX3_pop 33 = .ok (.ireturn, 1) := by decide +kernel
section
variable {p : Program} {l : Launch} {e : Env} {s : State} {m : MethodId} {args : Array Value} {below : List Frame} {meth : Method} {c : Code} {G : GG} {n : Nat} {h' : Hp} {rv : Int32}
set_option maxHeartbeats 4000000
set_option maxRecDepth 100000
theorem k_X3_pop (l : Launch) (G : GG) (n : Nat) (hN : NX ≤ n) {h h' : Hp} {x0 : Nat} {x1 : Nat} {rv : Int32} (hf : f_X3_pop h x0 x1 = some (rv, h')) : CT l G n n yX3_pop (.code yX3_pop bX3_pop 2 (some .boolean)) 2 0 0 [.ref (bs G + x0), .ref (bs G + x1)] h h' (some (.int rv)) := by
  refine ct_of (maxL := 2) (ret := (some .boolean)) (bytes := bX3_pop) (by decide) (Nat.le_of_ble_eq_true rfl) (fun p e s m below meth c C0 X ls hl => ?_)
  have hl : lv_has ls 2 [(0, .ref (bs G + x0)), (1, .ref (bs G + x1))] := hl
  obtain ⟨hx, hb, hr, hml, hown, hts, hK, hlocks, hnm⟩ := id C0
  unfold f_X3_pop at hf
  obtain ⟨o0, hf⟩ := gd_e hf
  obtain ⟨o1, hf⟩ := gd_e hf
  refine lv_aload_n hx hb dX3_pop_0 rfl (lv_at hl 0 rfl) ?_
  refine g_I hx hb hts hown hK X o0 hN fl_X3_22 (by decide) rfl dX3_pop_1 ?_
  refine lv_if_gt (tgt := 9) hx hb dX3_pop_4 (by decide) (fun c4 => ?_) (fun c4 => ?_)
  · have hf := ite_t hf c4
    refine lv_aload_n hx hb dX3_pop_9 rfl (lv_at hl 0 rfl) ?_
    refine lv_dup hx hb dX3_pop_10 rfl ?_
    refine g_I hx hb hts hown hK X o0 hN fl_X3_22 (by decide) rfl dX3_pop_11 ?_
    refine lv_iconst (v := (1 : Int32)) hx hb dX3_pop_14 (by decide) ?_
    refine lv_isub hx hb dX3_pop_15 ?_
    refine g_PI hx hb hts hown hK X o0 hN fl_X3_22 ft_3_0 (by decide) rfl dX3_pop_16 (fun H locs X => ?_)
    obtain ⟨h1, e2, hf⟩ := lt_e hf
    rw [← e2] at X
    refine lv_aload_n hx hb dX3_pop_19 rfl (lv_at hl 1 rfl) ?_
    refine lv_aload_n hx hb dX3_pop_20 rfl (lv_at hl 0 rfl) ?_
    obtain ⟨g3, hf⟩ := gd_e hf
    refine g_R hx hb hts hown hK X o0 hN g3 fl_X3_15 (by decide) rfl (by decide) dX3_pop_21 ?_
    refine lv_aload_n hx hb dX3_pop_24 rfl (lv_at hl 0 rfl) ?_
    refine g_I hx hb hts hown hK X o0 hN fl_X3_22 (by decide) rfl dX3_pop_25 ?_
    obtain ⟨g4, hf⟩ := gd_e hf
    obtain ⟨g5, hf⟩ := gd_e hf
    refine g_da hx hb hK X g3 hN g4 g5 dX3_pop_28 ?_
    obtain ⟨r6, h7, q8, hf⟩ := bd_e hf
    refine c_V0 (As := [.ref (bs G + (h1.2 (h1.2 x0 1) (h1.1 x0 0).toNatClampNeg))]) (rest := []) (st1 := []) hx hb hml hown hts hK X (k_X2_copy l G n hN q8) o1 hN lc_X2_copy lv_X3_29 (ci := 2) rfl rfl (by decide) rfl hl.1 (Nat.le_of_ble_eq_true rfl) dX3_pop_29 rfl (fun H locs X => ?_)
    refine lv_iconst (v := (1 : Int32)) hx hb dX3_pop_32 (by decide) ?_
    exact r_Z hx hb hr hlocks X rfl hf dX3_pop_33
  · have hf := ite_f hf c4
    refine lv_iconst (v := (0 : Int32)) hx hb dX3_pop_7 (by decide) ?_
    exact r_Z hx hb hr hlocks X rfl hf dX3_pop_8
end
theorem dX4_setLaw_0 : decode bX4_setLaw 0 = .ok (.iload_n 1, 1) := by decide +kernel
theorem dX4_setLaw_1 : decode bX4_setLaw 1 = .ok (.iconst 3, 1) := by decide +kernel
theorem dX4_setLaw_2 : decode bX4_setLaw 2 = .ok (.if_icmp .gt 15, 3) := by decide +kernel
theorem dX4_setLaw_5 : decode bX4_setLaw 5 = .ok (.iload_n 2, 1) := by decide +kernel
theorem dX4_setLaw_6 : decode bX4_setLaw 6 = .ok (.bipush 9, 2) := by decide +kernel
theorem dX4_setLaw_8 : decode bX4_setLaw 8 = .ok (.if_icmp .gt 9, 3) := by decide +kernel
theorem dX4_setLaw_11 : decode bX4_setLaw 11 = .ok (.iload_n 3, 1) := by decide +kernel
theorem dX4_setLaw_12 : decode bX4_setLaw 12 = .ok (.bipush 9, 2) := by decide +kernel
theorem dX4_setLaw_14 : decode bX4_setLaw 14 = .ok (.if_icmp .le 5, 3) := by decide +kernel
theorem dX4_setLaw_17 : decode bX4_setLaw 17 = .ok (.iconst 0, 1) := by decide +kernel
theorem dX4_setLaw_18 : decode bX4_setLaw 18 = .ok (.ireturn, 1) := by decide +kernel
theorem dX4_setLaw_19 : decode bX4_setLaw 19 = .ok (.aload_n 0, 1) := by decide +kernel
theorem dX4_setLaw_20 : decode bX4_setLaw 20 = .ok (.iload_n 1, 1) := by decide +kernel
theorem dX4_setLaw_21 : decode bX4_setLaw 21 = .ok (.putfield 49, 3) := by decide +kernel
theorem dX4_setLaw_24 : decode bX4_setLaw 24 = .ok (.aload_n 0, 1) := by decide +kernel
theorem dX4_setLaw_25 : decode bX4_setLaw 25 = .ok (.iload_n 2, 1) := by decide +kernel
theorem dX4_setLaw_26 : decode bX4_setLaw 26 = .ok (.putfield 40, 3) := by decide +kernel
theorem dX4_setLaw_29 : decode bX4_setLaw 29 = .ok (.aload_n 0, 1) := by decide +kernel
theorem dX4_setLaw_30 : decode bX4_setLaw 30 = .ok (.iload_n 3, 1) := by decide +kernel
theorem dX4_setLaw_31 : decode bX4_setLaw 31 = .ok (.putfield 43, 3) := by decide +kernel
theorem dX4_setLaw_34 : decode bX4_setLaw 34 = .ok (.iconst 1, 1) := by decide +kernel
theorem dX4_setLaw_35 : decode bX4_setLaw 35 = .ok (.ireturn, 1) := by decide +kernel
section
variable {p : Program} {l : Launch} {e : Env} {s : State} {m : MethodId} {args : Array Value} {below : List Frame} {meth : Method} {c : Code} {G : GG} {n : Nat} {h' : Hp} {rv : Int32}
set_option maxHeartbeats 4000000
set_option maxRecDepth 100000
theorem k_X4_setLaw (l : Launch) (G : GG) (n : Nat) (hN : NX ≤ n) {h h' : Hp} {x0 : Nat} {x1 : Int32} {x2 : Int32} {x3 : Int32} {rv : Int32} (hf : f_X4_setLaw h x0 x1 x2 x3 = some (rv, h')) : CT l G n n yX4_setLaw (.code yX4_setLaw bX4_setLaw 4 (some .boolean)) 0 0 0 [.ref (bs G + x0), .int x1, .int x2, .int x3] h h' (some (.int rv)) := by
  refine ct_of (maxL := 4) (ret := (some .boolean)) (bytes := bX4_setLaw) (by decide) (Nat.le_of_ble_eq_true rfl) (fun p e s m below meth c C0 X ls hl => ?_)
  have hl : lv_has ls 4 [(0, .ref (bs G + x0)), (1, .int x1), (2, .int x2), (3, .int x3)] := hl
  obtain ⟨hx, hb, hr, hml, hown, hts, hK, hlocks, hnm⟩ := id C0
  unfold f_X4_setLaw at hf
  obtain ⟨o0, hf⟩ := gd_e hf
  refine lv_iload_n hx hb dX4_setLaw_0 rfl (lv_at hl 1 rfl) ?_
  refine lv_iconst (v := (3 : Int32)) hx hb dX4_setLaw_1 (by decide) ?_
  refine lv_icmp_gt (tgt := 17) hx hb dX4_setLaw_2 (by decide) (fun c2 => ?_) (fun c2 => ?_)
  · have hf := ite_t hf c2
    refine lv_iconst (v := (0 : Int32)) hx hb dX4_setLaw_17 (by decide) ?_
    exact r_Z hx hb hr hlocks X rfl hf dX4_setLaw_18
  · have hf := ite_f hf c2
    refine lv_iload_n hx hb dX4_setLaw_5 rfl (lv_at hl 2 rfl) ?_
    refine lv_bipush (v := (9 : Int32)) hx hb dX4_setLaw_6 (by decide) ?_
    refine lv_icmp_gt (tgt := 17) hx hb dX4_setLaw_8 (by decide) (fun c8 => ?_) (fun c8 => ?_)
    · have hf := ite_t hf c8
      refine lv_iconst (v := (0 : Int32)) hx hb dX4_setLaw_17 (by decide) ?_
      exact r_Z hx hb hr hlocks X rfl hf dX4_setLaw_18
    · have hf := ite_f hf c8
      refine lv_iload_n hx hb dX4_setLaw_11 rfl (lv_at hl 3 rfl) ?_
      refine lv_bipush (v := (9 : Int32)) hx hb dX4_setLaw_12 (by decide) ?_
      refine lv_icmp_le (tgt := 19) hx hb dX4_setLaw_14 (by decide) (fun c14 => ?_) (fun c14 => ?_)
      · have hf := ite_t hf c14
        refine lv_aload_n hx hb dX4_setLaw_19 rfl (lv_at hl 0 rfl) ?_
        refine lv_iload_n hx hb dX4_setLaw_20 rfl (lv_at hl 1 rfl) ?_
        refine g_PI hx hb hts hown hK X o0 hN fl_X4_49 ft_4_2 (by decide) rfl dX4_setLaw_21 (fun H locs X => ?_)
        obtain ⟨h1, e2, hf⟩ := lt_e hf
        rw [← e2] at X
        refine lv_aload_n hx hb dX4_setLaw_24 rfl (lv_at hl 0 rfl) ?_
        refine lv_iload_n hx hb dX4_setLaw_25 rfl (lv_at hl 2 rfl) ?_
        refine g_PI hx hb hts hown hK X o0 hN fl_X4_40 ft_4_3 (by decide) rfl dX4_setLaw_26 (fun H locs X => ?_)
        obtain ⟨h3, e4, hf⟩ := lt_e hf
        rw [← e4] at X
        refine lv_aload_n hx hb dX4_setLaw_29 rfl (lv_at hl 0 rfl) ?_
        refine lv_iload_n hx hb dX4_setLaw_30 rfl (lv_at hl 3 rfl) ?_
        refine g_PI hx hb hts hown hK X o0 hN fl_X4_43 ft_4_4 (by decide) rfl dX4_setLaw_31 (fun H locs X => ?_)
        obtain ⟨h5, e6, hf⟩ := lt_e hf
        rw [← e6] at X
        refine lv_iconst (v := (1 : Int32)) hx hb dX4_setLaw_34 (by decide) ?_
        exact r_Z hx hb hr hlocks X rfl hf dX4_setLaw_35
      · have hf := ite_f hf c14
        refine lv_iconst (v := (0 : Int32)) hx hb dX4_setLaw_17 (by decide) ?_
        exact r_Z hx hb hr hlocks X rfl hf dX4_setLaw_18
end
theorem dX4_clear_0 : decode bX4_clear 0 = .ok (.aload_n 0, 1) := by decide +kernel
theorem dX4_clear_1 : decode bX4_clear 1 = .ok (.bipush 12, 2) := by decide +kernel
theorem dX4_clear_3 : decode bX4_clear 3 = .ok (.putfield 21, 3) := by decide +kernel
theorem dX4_clear_6 : decode bX4_clear 6 = .ok (.aload_n 0, 1) := by decide +kernel
theorem dX4_clear_7 : decode bX4_clear 7 = .ok (.iconst 0, 1) := by decide +kernel
theorem dX4_clear_8 : decode bX4_clear 8 = .ok (.putfield 25, 3) := by decide +kernel
theorem dX4_clear_11 : decode bX4_clear 11 = .ok (.aload_n 0, 1) := by decide +kernel
theorem dX4_clear_12 : decode bX4_clear 12 = .ok (.iconst 1, 1) := by decide +kernel
theorem dX4_clear_13 : decode bX4_clear 13 = .ok (.iconst 1, 1) := by decide +kernel
theorem dX4_clear_14 : decode bX4_clear 14 = .ok (.iconst 2, 1) := by decide +kernel
theorem dX4_clear_15 : decode bX4_clear 15 = .ok (.invokevirtual 28, 3) := by decide +kernel
theorem dX4_clear_18 : decode bX4_clear 18 = .ok (.pop, 1) := by decide +kernel
theorem dX4_clear_19 : decode bX4_clear 19 = .ok (.iconst 0, 1) := by decide +kernel
theorem dX4_clear_20 : decode bX4_clear 20 = .ok (.istore_n 1, 1) := by decide +kernel
theorem dX4_clear_21 : decode bX4_clear 21 = .ok (.iload_n 1, 1) := by decide +kernel
theorem dX4_clear_22 : decode bX4_clear 22 = .ok (.bipush 24, 2) := by decide +kernel
theorem dX4_clear_24 : decode bX4_clear 24 = .ok (.if_icmp .gt 16, 3) := by decide +kernel
theorem dX4_clear_27 : decode bX4_clear 27 = .ok (.aload_n 0, 1) := by decide +kernel
theorem dX4_clear_28 : decode bX4_clear 28 = .ok (.getfield 9, 3) := by decide +kernel
theorem dX4_clear_31 : decode bX4_clear 31 = .ok (.iload_n 1, 1) := by decide +kernel
theorem dX4_clear_32 : decode bX4_clear 32 = .ok (.iconst 1, 1) := by decide +kernel
theorem dX4_clear_33 : decode bX4_clear 33 = .ok (.iastore, 1) := by decide +kernel
theorem dX4_clear_34 : decode bX4_clear 34 = .ok (.iinc 1 1, 3) := by decide +kernel
theorem dX4_clear_37 : decode bX4_clear 37 = .ok (.goto (-16), 3) := by decide +kernel
theorem dX4_clear_40 : decode bX4_clear 40 = .ok (.iconst 0, 1) := by decide +kernel
theorem dX4_clear_41 : decode bX4_clear 41 = .ok (.istore_n 1, 1) := by decide +kernel
theorem dX4_clear_42 : decode bX4_clear 42 = .ok (.iload_n 1, 1) := by decide +kernel
theorem dX4_clear_43 : decode bX4_clear 43 = .ok (.bipush 6, 2) := by decide +kernel
theorem dX4_clear_45 : decode bX4_clear 45 = .ok (.if_icmp .ge 23, 3) := by decide +kernel
theorem dX4_clear_48 : decode bX4_clear 48 = .ok (.aload_n 0, 1) := by decide +kernel
theorem dX4_clear_49 : decode bX4_clear 49 = .ok (.getfield 15, 3) := by decide +kernel
theorem dX4_clear_52 : decode bX4_clear 52 = .ok (.iload_n 1, 1) := by decide +kernel
theorem dX4_clear_53 : decode bX4_clear 53 = .ok (.iconst 0, 1) := by decide +kernel
theorem dX4_clear_54 : decode bX4_clear 54 = .ok (.iastore, 1) := by decide +kernel
theorem dX4_clear_55 : decode bX4_clear 55 = .ok (.aload_n 0, 1) := by decide +kernel
theorem dX4_clear_56 : decode bX4_clear 56 = .ok (.getfield 18, 3) := by decide +kernel
theorem dX4_clear_59 : decode bX4_clear 59 = .ok (.iload_n 1, 1) := by decide +kernel
theorem dX4_clear_60 : decode bX4_clear 60 = .ok (.iconst 0, 1) := by decide +kernel
theorem dX4_clear_61 : decode bX4_clear 61 = .ok (.iastore, 1) := by decide +kernel
theorem dX4_clear_62 : decode bX4_clear 62 = .ok (.iinc 1 1, 3) := by decide +kernel
theorem dX4_clear_65 : decode bX4_clear 65 = .ok (.goto (-23), 3) := by decide +kernel
theorem dX4_clear_68 : decode bX4_clear 68 = .ok (.return_, 1) := by decide +kernel
section
variable {p : Program} {l : Launch} {e : Env} {s : State} {m : MethodId} {args : Array Value} {below : List Frame} {meth : Method} {c : Code} {G : GG} {n : Nat} {h' : Hp} {rv : Unit}
set_option maxHeartbeats 4000000
set_option maxRecDepth 100000
theorem j_X4_clear_42 (C0 : Cx p s m args meth c G bX4_clear RX4 2 none "clear") (hN : NX ≤ n) : ∀ (fu : Nat), ∀ {H : Heap} {locs : List Loc} {ls : Array Slot} {h : Hp} {x0 : Nat} {x1 : Int32}, XW G n h s 0 H locs → lv_has ls 2 [(0, .ref (bs G + x0)), (1, .int x1)] → kd x0 = 4 → f_X4_clear_42 fu h x0 x1 = some (rv, h') → W p l e (rmC 1 0 0) s m args below meth c H locs 0 0 (MQ below (QP G n h' none) args s 0 0 (Ab G)) (F0 m 42 ls []) := by
  obtain ⟨hx, hb, hr, hml, hown, hts, hK, hlocks, hnm⟩ := id C0
  intro fu
  induction fu with
  | zero => intro H locs ls h x0 x1 X hl o0 hf; cases hf
  | succ fu ih =>
    intro H locs ls h x0 x1 X hl o0 hf
    rw [f_X4_clear_42] at hf
    refine lv_iload_n hx hb dX4_clear_42 rfl (lv_at hl 1 rfl) ?_
    refine lv_bipush (v := (6 : Int32)) hx hb dX4_clear_43 (by decide) ?_
    refine lv_icmp_ge (tgt := 68) hx hb dX4_clear_45 (by decide) (fun c45 => ?_) (fun c45 => ?_)
    · have hf := ite_t hf c45
      exact r_V hx hb hr hlocks X hf dX4_clear_68
    · have hf := ite_f hf c45
      refine lv_aload_n hx hb dX4_clear_48 rfl (lv_at hl 0 rfl) ?_
      obtain ⟨g1, hf⟩ := gd_e hf
      refine g_R hx hb hts hown hK X o0 hN g1 fl_X4_15 (by decide) rfl (by decide) dX4_clear_49 ?_
      refine lv_iload_n hx hb dX4_clear_52 rfl (lv_at hl 1 rfl) ?_
      refine lv_iconst (v := (0 : Int32)) hx hb dX4_clear_53 (by decide) ?_
      obtain ⟨g2, hf⟩ := gd_e hf
      refine g_is hx hb hK X g1 hN g2 (by decide) dX4_clear_54 (fun H locs X => ?_)
      obtain ⟨h3, e4, hf⟩ := lt_e hf
      rw [← e4] at X
      refine lv_aload_n hx hb dX4_clear_55 rfl (lv_at hl 0 rfl) ?_
      obtain ⟨g5, hf⟩ := gd_e hf
      refine g_R hx hb hts hown hK X o0 hN g5 fl_X4_18 (by decide) rfl (by decide) dX4_clear_56 ?_
      refine lv_iload_n hx hb dX4_clear_59 rfl (lv_at hl 1 rfl) ?_
      refine lv_iconst (v := (0 : Int32)) hx hb dX4_clear_60 (by decide) ?_
      obtain ⟨g6, hf⟩ := gd_e hf
      refine g_is hx hb hK X g5 hN g6 (by decide) dX4_clear_61 (fun H locs X => ?_)
      obtain ⟨h7, e8, hf⟩ := lt_e hf
      rw [← e8] at X
      refine lv_iinc (v := (x1 + (1 : Int32))) (lv' := [(1, .int (x1 + (1 : Int32))), (0, .ref (bs G + x0))]) hx hb dX4_clear_62 hl (k := 1) rfl rfl (by decide) rfl (fun ls hl => ?_)
      refine lv_goto (tgt := 42) hx hb dX4_clear_65 (by decide) ?_
      exact ih X (lv_sub hl [1, 0] rfl) o0 hf
theorem j_X4_clear_21 (C0 : Cx p s m args meth c G bX4_clear RX4 2 none "clear") (hN : NX ≤ n) : ∀ (fu : Nat), ∀ {H : Heap} {locs : List Loc} {ls : Array Slot} {h : Hp} {x0 : Nat} {x1 : Int32}, XW G n h s 0 H locs → lv_has ls 2 [(0, .ref (bs G + x0)), (1, .int x1)] → kd x0 = 4 → f_X4_clear_21 fu h x0 x1 = some (rv, h') → W p l e (rmC 1 0 0) s m args below meth c H locs 0 0 (MQ below (QP G n h' none) args s 0 0 (Ab G)) (F0 m 21 ls []) := by
  obtain ⟨hx, hb, hr, hml, hown, hts, hK, hlocks, hnm⟩ := id C0
  intro fu
  induction fu with
  | zero => intro H locs ls h x0 x1 X hl o0 hf; cases hf
  | succ fu ih =>
    intro H locs ls h x0 x1 X hl o0 hf
    rw [f_X4_clear_21] at hf
    refine lv_iload_n hx hb dX4_clear_21 rfl (lv_at hl 1 rfl) ?_
    refine lv_bipush (v := (24 : Int32)) hx hb dX4_clear_22 (by decide) ?_
    refine lv_icmp_gt (tgt := 40) hx hb dX4_clear_24 (by decide) (fun c24 => ?_) (fun c24 => ?_)
    · have hf := ite_t hf c24
      refine lv_iconst (v := (0 : Int32)) hx hb dX4_clear_40 (by decide) ?_
      refine lv_istore_n (lv' := [(1, .int (0 : Int32)), (0, .ref (bs G + x0))]) hx hb dX4_clear_41 rfl hl (by decide) rfl (fun ls hl => ?_)
      exact j_X4_clear_42 C0 hN FU X (lv_sub hl [1, 0] rfl) o0 hf
    · have hf := ite_f hf c24
      refine lv_aload_n hx hb dX4_clear_27 rfl (lv_at hl 0 rfl) ?_
      obtain ⟨g1, hf⟩ := gd_e hf
      refine g_R hx hb hts hown hK X o0 hN g1 fl_X4_9 (by decide) rfl (by decide) dX4_clear_28 ?_
      refine lv_iload_n hx hb dX4_clear_31 rfl (lv_at hl 1 rfl) ?_
      refine lv_iconst (v := (1 : Int32)) hx hb dX4_clear_32 (by decide) ?_
      obtain ⟨g2, hf⟩ := gd_e hf
      refine g_is hx hb hK X g1 hN g2 (by decide) dX4_clear_33 (fun H locs X => ?_)
      obtain ⟨h3, e4, hf⟩ := lt_e hf
      rw [← e4] at X
      refine lv_iinc (v := (x1 + (1 : Int32))) (lv' := [(1, .int (x1 + (1 : Int32))), (0, .ref (bs G + x0))]) hx hb dX4_clear_34 hl (k := 1) rfl rfl (by decide) rfl (fun ls hl => ?_)
      refine lv_goto (tgt := 21) hx hb dX4_clear_37 (by decide) ?_
      exact ih X (lv_sub hl [1, 0] rfl) o0 hf
theorem k_X4_clear (l : Launch) (G : GG) (n : Nat) (hN : NX ≤ n) {h h' : Hp} {x0 : Nat} {rv : Unit} (hf : f_X4_clear h x0 = some (rv, h')) : CT l G n n yX4_clear (.code yX4_clear bX4_clear 2 none) 1 0 0 [.ref (bs G + x0)] h h' none := by
  refine ct_of (maxL := 2) (ret := none) (bytes := bX4_clear) (by decide) (Nat.le_of_ble_eq_true rfl) (fun p e s m below meth c C0 X ls hl => ?_)
  have hl : lv_has ls 2 [(0, .ref (bs G + x0))] := hl
  obtain ⟨hx, hb, hr, hml, hown, hts, hK, hlocks, hnm⟩ := id C0
  unfold f_X4_clear at hf
  obtain ⟨o0, hf⟩ := gd_e hf
  refine lv_aload_n hx hb dX4_clear_0 rfl (lv_at hl 0 rfl) ?_
  refine lv_bipush (v := (12 : Int32)) hx hb dX4_clear_1 (by decide) ?_
  refine g_PI hx hb hts hown hK X o0 hN fl_X4_21 ft_4_0 (by decide) rfl dX4_clear_3 (fun H locs X => ?_)
  obtain ⟨h1, e2, hf⟩ := lt_e hf
  rw [← e2] at X
  refine lv_aload_n hx hb dX4_clear_6 rfl (lv_at hl 0 rfl) ?_
  refine lv_iconst (v := (0 : Int32)) hx hb dX4_clear_7 (by decide) ?_
  refine g_PI hx hb hts hown hK X o0 hN fl_X4_25 ft_4_1 (by decide) rfl dX4_clear_8 (fun H locs X => ?_)
  obtain ⟨h3, e4, hf⟩ := lt_e hf
  rw [← e4] at X
  refine lv_aload_n hx hb dX4_clear_11 rfl (lv_at hl 0 rfl) ?_
  refine lv_iconst (v := (1 : Int32)) hx hb dX4_clear_12 (by decide) ?_
  refine lv_iconst (v := (1 : Int32)) hx hb dX4_clear_13 (by decide) ?_
  refine lv_iconst (v := (2 : Int32)) hx hb dX4_clear_14 (by decide) ?_
  obtain ⟨r5, h6, q7, hf⟩ := bd_e hf
  refine c_V0 (As := [.int (1 : Int32), .int (1 : Int32), .int (2 : Int32)]) (rest := []) (st1 := [.int r5]) hx hb hml hown hts hK X (k_X4_setLaw l G n hN q7) o0 hN lc_X4_setLaw lv_X4_28 (ci := 4) rfl rfl (by decide) rfl hl.1 (Nat.le_of_ble_eq_true rfl) dX4_clear_15 rfl (fun H locs X => ?_)
  refine lv_pop hx hb dX4_clear_18 rfl ?_
  refine lv_iconst (v := (0 : Int32)) hx hb dX4_clear_19 (by decide) ?_
  refine lv_istore_n (lv' := [(1, .int (0 : Int32)), (0, .ref (bs G + x0))]) hx hb dX4_clear_20 rfl hl (by decide) rfl (fun ls hl => ?_)
  exact j_X4_clear_21 C0 hN FU X (lv_sub hl [1, 0] rfl) o0 hf
end
theorem dX4_isNumber_0 : decode bX4_isNumber 0 = .ok (.iload_n 1, 1) := by decide +kernel
theorem dX4_isNumber_1 : decode bX4_isNumber 1 = .ok (.iconst 1, 1) := by decide +kernel
theorem dX4_isNumber_2 : decode bX4_isNumber 2 = .ok (.if_icmp .lt 15, 3) := by decide +kernel
theorem dX4_isNumber_5 : decode bX4_isNumber 5 = .ok (.iload_n 1, 1) := by decide +kernel
theorem dX4_isNumber_6 : decode bX4_isNumber 6 = .ok (.aload_n 0, 1) := by decide +kernel
theorem dX4_isNumber_7 : decode bX4_isNumber 7 = .ok (.getfield 21, 3) := by decide +kernel
theorem dX4_isNumber_10 : decode bX4_isNumber 10 = .ok (.if_icmp .gt 7, 3) := by decide +kernel
theorem dX4_isNumber_13 : decode bX4_isNumber 13 = .ok (.iconst 1, 1) := by decide +kernel
theorem dX4_isNumber_14 : decode bX4_isNumber 14 = .ok (.goto 4, 3) := by decide +kernel
theorem dX4_isNumber_17 : decode bX4_isNumber 17 = .ok (.iconst 0, 1) := by decide +kernel
theorem dX4_isNumber_18 : decode bX4_isNumber 18 = .ok (.ireturn, 1) := by decide +kernel
section
variable {p : Program} {l : Launch} {e : Env} {s : State} {m : MethodId} {args : Array Value} {below : List Frame} {meth : Method} {c : Code} {G : GG} {n : Nat} {h' : Hp} {rv : Int32}
set_option maxHeartbeats 4000000
set_option maxRecDepth 100000
theorem k_X4_isNumber (l : Launch) (G : GG) (n : Nat) (hN : NX ≤ n) {h h' : Hp} {x0 : Nat} {x1 : Int32} {rv : Int32} (hf : f_X4_isNumber h x0 x1 = some (rv, h')) : CT l G n n yX4_isNumber (.code yX4_isNumber bX4_isNumber 2 (some .boolean)) 0 0 0 [.ref (bs G + x0), .int x1] h h' (some (.int rv)) := by
  refine ct_of (maxL := 2) (ret := (some .boolean)) (bytes := bX4_isNumber) (by decide) (Nat.le_of_ble_eq_true rfl) (fun p e s m below meth c C0 X ls hl => ?_)
  have hl : lv_has ls 2 [(0, .ref (bs G + x0)), (1, .int x1)] := hl
  obtain ⟨hx, hb, hr, hml, hown, hts, hK, hlocks, hnm⟩ := id C0
  unfold f_X4_isNumber at hf
  obtain ⟨o0, hf⟩ := gd_e hf
  refine lv_iload_n hx hb dX4_isNumber_0 rfl (lv_at hl 1 rfl) ?_
  refine lv_iconst (v := (1 : Int32)) hx hb dX4_isNumber_1 (by decide) ?_
  refine lv_icmp_lt (tgt := 17) hx hb dX4_isNumber_2 (by decide) (fun c2 => ?_) (fun c2 => ?_)
  · have hf := ite_t hf c2
    refine lv_iconst (v := (0 : Int32)) hx hb dX4_isNumber_17 (by decide) ?_
    exact r_Z hx hb hr hlocks X rfl hf dX4_isNumber_18
  · have hf := ite_f hf c2
    refine lv_iload_n hx hb dX4_isNumber_5 rfl (lv_at hl 1 rfl) ?_
    refine lv_aload_n hx hb dX4_isNumber_6 rfl (lv_at hl 0 rfl) ?_
    refine g_I hx hb hts hown hK X o0 hN fl_X4_21 (by decide) rfl dX4_isNumber_7 ?_
    refine lv_icmp_gt (tgt := 17) hx hb dX4_isNumber_10 (by decide) (fun c10 => ?_) (fun c10 => ?_)
    · have hf := ite_t hf c10
      refine lv_iconst (v := (0 : Int32)) hx hb dX4_isNumber_17 (by decide) ?_
      exact r_Z hx hb hr hlocks X rfl hf dX4_isNumber_18
    · have hf := ite_f hf c10
      refine lv_iconst (v := (1 : Int32)) hx hb dX4_isNumber_13 (by decide) ?_
      refine lv_goto (tgt := 18) hx hb dX4_isNumber_14 (by decide) ?_
      exact r_Z hx hb hr hlocks X rfl hf dX4_isNumber_18
end
theorem dX4_isPerson_0 : decode bX4_isPerson 0 = .ok (.iload_n 1, 1) := by decide +kernel
theorem dX4_isPerson_1 : decode bX4_isPerson 1 = .ok (.ifCond .lt 15, 3) := by decide +kernel
theorem dX4_isPerson_4 : decode bX4_isPerson 4 = .ok (.iload_n 1, 1) := by decide +kernel
theorem dX4_isPerson_5 : decode bX4_isPerson 5 = .ok (.aload_n 0, 1) := by decide +kernel
theorem dX4_isPerson_6 : decode bX4_isPerson 6 = .ok (.getfield 25, 3) := by decide +kernel
theorem dX4_isPerson_9 : decode bX4_isPerson 9 = .ok (.if_icmp .ge 7, 3) := by decide +kernel
theorem dX4_isPerson_12 : decode bX4_isPerson 12 = .ok (.iconst 1, 1) := by decide +kernel
theorem dX4_isPerson_13 : decode bX4_isPerson 13 = .ok (.goto 4, 3) := by decide +kernel
theorem dX4_isPerson_16 : decode bX4_isPerson 16 = .ok (.iconst 0, 1) := by decide +kernel
theorem dX4_isPerson_17 : decode bX4_isPerson 17 = .ok (.ireturn, 1) := by decide +kernel
section
variable {p : Program} {l : Launch} {e : Env} {s : State} {m : MethodId} {args : Array Value} {below : List Frame} {meth : Method} {c : Code} {G : GG} {n : Nat} {h' : Hp} {rv : Int32}
set_option maxHeartbeats 4000000
set_option maxRecDepth 100000
theorem k_X4_isPerson (l : Launch) (G : GG) (n : Nat) (hN : NX ≤ n) {h h' : Hp} {x0 : Nat} {x1 : Int32} {rv : Int32} (hf : f_X4_isPerson h x0 x1 = some (rv, h')) : CT l G n n yX4_isPerson (.code yX4_isPerson bX4_isPerson 2 (some .boolean)) 0 0 0 [.ref (bs G + x0), .int x1] h h' (some (.int rv)) := by
  refine ct_of (maxL := 2) (ret := (some .boolean)) (bytes := bX4_isPerson) (by decide) (Nat.le_of_ble_eq_true rfl) (fun p e s m below meth c C0 X ls hl => ?_)
  have hl : lv_has ls 2 [(0, .ref (bs G + x0)), (1, .int x1)] := hl
  obtain ⟨hx, hb, hr, hml, hown, hts, hK, hlocks, hnm⟩ := id C0
  unfold f_X4_isPerson at hf
  obtain ⟨o0, hf⟩ := gd_e hf
  refine lv_iload_n hx hb dX4_isPerson_0 rfl (lv_at hl 1 rfl) ?_
  refine lv_if_lt (tgt := 16) hx hb dX4_isPerson_1 (by decide) (fun c1 => ?_) (fun c1 => ?_)
  · have hf := ite_t hf c1
    refine lv_iconst (v := (0 : Int32)) hx hb dX4_isPerson_16 (by decide) ?_
    exact r_Z hx hb hr hlocks X rfl hf dX4_isPerson_17
  · have hf := ite_f hf c1
    refine lv_iload_n hx hb dX4_isPerson_4 rfl (lv_at hl 1 rfl) ?_
    refine lv_aload_n hx hb dX4_isPerson_5 rfl (lv_at hl 0 rfl) ?_
    refine g_I hx hb hts hown hK X o0 hN fl_X4_25 (by decide) rfl dX4_isPerson_6 ?_
    refine lv_icmp_ge (tgt := 16) hx hb dX4_isPerson_9 (by decide) (fun c9 => ?_) (fun c9 => ?_)
    · have hf := ite_t hf c9
      refine lv_iconst (v := (0 : Int32)) hx hb dX4_isPerson_16 (by decide) ?_
      exact r_Z hx hb hr hlocks X rfl hf dX4_isPerson_17
    · have hf := ite_f hf c9
      refine lv_iconst (v := (1 : Int32)) hx hb dX4_isPerson_12 (by decide) ?_
      refine lv_goto (tgt := 17) hx hb dX4_isPerson_13 (by decide) ?_
      exact r_Z hx hb hr hlocks X rfl hf dX4_isPerson_17
end
theorem dX4_all_0 : decode bX4_all 0 = .ok (.iconst 1, 1) := by decide +kernel
theorem dX4_all_1 : decode bX4_all 1 = .ok (.aload_n 0, 1) := by decide +kernel
theorem dX4_all_2 : decode bX4_all 2 = .ok (.getfield 21, 3) := by decide +kernel
theorem dX4_all_5 : decode bX4_all 5 = .ok (.ishl, 1) := by decide +kernel
theorem dX4_all_6 : decode bX4_all 6 = .ok (.iconst 1, 1) := by decide +kernel
theorem dX4_all_7 : decode bX4_all 7 = .ok (.isub, 1) := by decide +kernel
theorem dX4_all_8 : decode bX4_all 8 = .ok (.ireturn, 1) := by decide +kernel
section
variable {p : Program} {l : Launch} {e : Env} {s : State} {m : MethodId} {args : Array Value} {below : List Frame} {meth : Method} {c : Code} {G : GG} {n : Nat} {h' : Hp} {rv : Int32}
set_option maxHeartbeats 4000000
set_option maxRecDepth 100000
theorem k_X4_all (l : Launch) (G : GG) (n : Nat) (hN : NX ≤ n) {h h' : Hp} {x0 : Nat} {rv : Int32} (hf : f_X4_all h x0 = some (rv, h')) : CT l G n n yX4_all (.code yX4_all bX4_all 1 (some .int)) 0 0 0 [.ref (bs G + x0)] h h' (some (.int rv)) := by
  refine ct_of (maxL := 1) (ret := (some .int)) (bytes := bX4_all) (by decide) (Nat.le_of_ble_eq_true rfl) (fun p e s m below meth c C0 X ls hl => ?_)
  have hl : lv_has ls 1 [(0, .ref (bs G + x0))] := hl
  obtain ⟨hx, hb, hr, hml, hown, hts, hK, hlocks, hnm⟩ := id C0
  unfold f_X4_all at hf
  obtain ⟨o0, hf⟩ := gd_e hf
  refine lv_iconst (v := (1 : Int32)) hx hb dX4_all_0 (by decide) ?_
  refine lv_aload_n hx hb dX4_all_1 rfl (lv_at hl 0 rfl) ?_
  refine g_I hx hb hts hown hK X o0 hN fl_X4_21 (by decide) rfl dX4_all_2 ?_
  refine lv_ishl hx hb dX4_all_5 ?_
  refine lv_iconst (v := (1 : Int32)) hx hb dX4_all_6 (by decide) ?_
  refine lv_isub hx hb dX4_all_7 ?_
  exact r_I hx hb hr hlocks X hf dX4_all_8
end
