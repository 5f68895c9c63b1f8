theorem dX12_lend_0 : decode bX12_lend 0 = .ok (.aload_n 0, 1) := by decide +kernel
theorem dX12_lend_1 : decode bX12_lend 1 = .ok (.iconst 0, 1) := by decide +kernel
theorem dX12_lend_2 : decode bX12_lend 2 = .ok (.putfield 1, 3) := by decide +kernel
theorem dX12_lend_5 : decode bX12_lend 5 = .ok (.aload_n 0, 1) := by decide +kernel
theorem dX12_lend_6 : decode bX12_lend 6 = .ok (.iload_n 1, 1) := by decide +kernel
theorem dX12_lend_7 : decode bX12_lend 7 = .ok (.invokevirtual 125, 3) := by decide +kernel
theorem dX12_lend_10 : decode bX12_lend 10 = .ok (.ifCond .ne 11, 3) := by decide +kernel
theorem dX12_lend_13 : decode bX12_lend 13 = .ok (.aload_n 0, 1) := by decide +kernel
theorem dX12_lend_14 : decode bX12_lend 14 = .ok (.iload_n 2, 1) := by decide +kernel
theorem dX12_lend_15 : decode bX12_lend 15 = .ok (.invokevirtual 138, 3) := by decide +kernel
theorem dX12_lend_18 : decode bX12_lend 18 = .ok (.ifCond .eq 5, 3) := by decide +kernel
theorem dX12_lend_21 : decode bX12_lend 21 = .ok (.iconst (-1), 1) := by decide +kernel
theorem dX12_lend_22 : decode bX12_lend 22 = .ok (.ireturn, 1) := by decide +kernel
theorem dX12_lend_23 : decode bX12_lend 23 = .ok (.aload_n 0, 1) := by decide +kernel
theorem dX12_lend_24 : decode bX12_lend 24 = .ok (.getfield 13, 3) := by decide +kernel
theorem dX12_lend_27 : decode bX12_lend 27 = .ok (.bipush 28, 2) := by decide +kernel
theorem dX12_lend_29 : decode bX12_lend 29 = .ok (.iload_n 1, 1) := by decide +kernel
theorem dX12_lend_30 : decode bX12_lend 30 = .ok (.iadd, 1) := by decide +kernel
theorem dX12_lend_31 : decode bX12_lend 31 = .ok (.iaload, 1) := by decide +kernel
theorem dX12_lend_32 : decode bX12_lend 32 = .ok (.istore_n 3, 1) := by decide +kernel
theorem dX12_lend_33 : decode bX12_lend 33 = .ok (.iload_n 3, 1) := by decide +kernel
theorem dX12_lend_34 : decode bX12_lend 34 = .ok (.bipush (-4), 2) := by decide +kernel
theorem dX12_lend_36 : decode bX12_lend 36 = .ok (.if_icmp .eq 35, 3) := by decide +kernel
theorem dX12_lend_39 : decode bX12_lend 39 = .ok (.iload_n 3, 1) := by decide +kernel
theorem dX12_lend_40 : decode bX12_lend 40 = .ok (.iload_n 2, 1) := by decide +kernel
theorem dX12_lend_41 : decode bX12_lend 41 = .ok (.if_icmp .eq 30, 3) := by decide +kernel
theorem dX12_lend_44 : decode bX12_lend 44 = .ok (.aload_n 0, 1) := by decide +kernel
theorem dX12_lend_45 : decode bX12_lend 45 = .ok (.getfield 20, 3) := by decide +kernel
theorem dX12_lend_48 : decode bX12_lend 48 = .ok (.iconst 2, 1) := by decide +kernel
theorem dX12_lend_49 : decode bX12_lend 49 = .ok (.iload_n 1, 1) := by decide +kernel
theorem dX12_lend_50 : decode bX12_lend 50 = .ok (.iadd, 1) := by decide +kernel
theorem dX12_lend_51 : decode bX12_lend 51 = .ok (.iaload, 1) := by decide +kernel
theorem dX12_lend_52 : decode bX12_lend 52 = .ok (.bipush (-4), 2) := by decide +kernel
theorem dX12_lend_54 : decode bX12_lend 54 = .ok (.if_icmp .ne 17, 3) := by decide +kernel
theorem dX12_lend_57 : decode bX12_lend 57 = .ok (.aload_n 0, 1) := by decide +kernel
theorem dX12_lend_58 : decode bX12_lend 58 = .ok (.getfield 20, 3) := by decide +kernel
theorem dX12_lend_61 : decode bX12_lend 61 = .ok (.bipush 26, 2) := by decide +kernel
theorem dX12_lend_63 : decode bX12_lend 63 = .ok (.iload_n 1, 1) := by decide +kernel
theorem dX12_lend_64 : decode bX12_lend 64 = .ok (.iadd, 1) := by decide +kernel
theorem dX12_lend_65 : decode bX12_lend 65 = .ok (.iaload, 1) := by decide +kernel
theorem dX12_lend_66 : decode bX12_lend 66 = .ok (.bipush (-4), 2) := by decide +kernel
theorem dX12_lend_68 : decode bX12_lend 68 = .ok (.if_icmp .eq 6, 3) := by decide +kernel
theorem dX12_lend_71 : decode bX12_lend 71 = .ok (.bipush (-2), 2) := by decide +kernel
theorem dX12_lend_73 : decode bX12_lend 73 = .ok (.ireturn, 1) := by decide +kernel
theorem dX12_lend_74 : decode bX12_lend 74 = .ok (.aload_n 0, 1) := by decide +kernel
theorem dX12_lend_75 : decode bX12_lend 75 = .ok (.invokevirtual 195, 3) := by decide +kernel
theorem dX12_lend_78 : decode bX12_lend 78 = .ok (.aload_n 0, 1) := by decide +kernel
theorem dX12_lend_79 : decode bX12_lend 79 = .ok (.getfield 20, 3) := by decide +kernel
theorem dX12_lend_82 : decode bX12_lend 82 = .ok (.bipush 26, 2) := by decide +kernel
theorem dX12_lend_84 : decode bX12_lend 84 = .ok (.iload_n 1, 1) := by decide +kernel
theorem dX12_lend_85 : decode bX12_lend 85 = .ok (.iadd, 1) := by decide +kernel
theorem dX12_lend_86 : decode bX12_lend 86 = .ok (.iload_n 2, 1) := by decide +kernel
theorem dX12_lend_87 : decode bX12_lend 87 = .ok (.iastore, 1) := by decide +kernel
theorem dX12_lend_88 : decode bX12_lend 88 = .ok (.iconst 0, 1) := by decide +kernel
theorem dX12_lend_89 : decode bX12_lend 89 = .ok (.istore 4, 2) := by decide +kernel
theorem dX12_lend_91 : decode bX12_lend 91 = .ok (.iconst 1, 1) := by decide +kernel
theorem dX12_lend_92 : decode bX12_lend 92 = .ok (.istore 5, 2) := by decide +kernel
theorem dX12_lend_94 : decode bX12_lend 94 = .ok (.iload 5, 2) := by decide +kernel
theorem dX12_lend_96 : decode bX12_lend 96 = .ok (.aload_n 0, 1) := by decide +kernel
theorem dX12_lend_97 : decode bX12_lend 97 = .ok (.getfield 13, 3) := by decide +kernel
theorem dX12_lend_100 : decode bX12_lend 100 = .ok (.iconst 0, 1) := by decide +kernel
theorem dX12_lend_101 : decode bX12_lend 101 = .ok (.iaload, 1) := by decide +kernel
theorem dX12_lend_102 : decode bX12_lend 102 = .ok (.if_icmp .gt 34, 3) := by decide +kernel
theorem dX12_lend_105 : decode bX12_lend 105 = .ok (.iload 4, 2) := by decide +kernel
theorem dX12_lend_107 : decode bX12_lend 107 = .ok (.aload_n 0, 1) := by decide +kernel
theorem dX12_lend_108 : decode bX12_lend 108 = .ok (.getfield 20, 3) := by decide +kernel
theorem dX12_lend_111 : decode bX12_lend 111 = .ok (.bipush 26, 2) := by decide +kernel
theorem dX12_lend_113 : decode bX12_lend 113 = .ok (.iload 5, 2) := by decide +kernel
theorem dX12_lend_115 : decode bX12_lend 115 = .ok (.iadd, 1) := by decide +kernel
theorem dX12_lend_116 : decode bX12_lend 116 = .ok (.iaload, 1) := by decide +kernel
theorem dX12_lend_117 : decode bX12_lend 117 = .ok (.bipush (-4), 2) := by decide +kernel
theorem dX12_lend_119 : decode bX12_lend 119 = .ok (.if_icmp .eq 7, 3) := by decide +kernel
theorem dX12_lend_122 : decode bX12_lend 122 = .ok (.iconst 1, 1) := by decide +kernel
theorem dX12_lend_123 : decode bX12_lend 123 = .ok (.goto 4, 3) := by decide +kernel
theorem dX12_lend_126 : decode bX12_lend 126 = .ok (.iconst 0, 1) := by decide +kernel
theorem dX12_lend_127 : decode bX12_lend 127 = .ok (.iadd, 1) := by decide +kernel
theorem dX12_lend_128 : decode bX12_lend 128 = .ok (.istore 4, 2) := by decide +kernel
theorem dX12_lend_130 : decode bX12_lend 130 = .ok (.iinc 5 1, 3) := by decide +kernel
theorem dX12_lend_133 : decode bX12_lend 133 = .ok (.goto (-39), 3) := by decide +kernel
theorem dX12_lend_136 : decode bX12_lend 136 = .ok (.iload 4, 2) := by decide +kernel
theorem dX12_lend_138 : decode bX12_lend 138 = .ok (.ireturn, 1) := by decide +kernel
section
variable {p : Program} {l : Launch} {e : Env} {s : State} {m : MethodId} {args : Array Value} {below : List Frame} {meth : Method} {c : Code} {G : GG} {n : Nat} {h' : Hp} {rv : Int32}
set_option maxHeartbeats 4000000
set_option maxRecDepth 100000
theorem j_X12_lend_94 (C0 : Cx p s m args meth c G bX12_lend RX12 6 (some .int) "lend") (hN : NT ≤ n) : ∀ (fu : Nat), ∀ {H : Heap} {locs : List Loc} {ls : Array Slot} {h : Hp} {x0 : Nat} {x4 : Int32} {x5 : Int32}, XW G n h s 0 H locs → lv_has ls 6 [(0, .ref (bs G + x0)), (4, .int x4), (5, .int x5)] → kd x0 = 12 → f_X12_lend_94 fu h x0 x4 x5 = some (rv, h') → W p l e (rmC 2 0 0) s m args below meth c H locs 0 0 (MQ below (QP G n h' (some (.int rv))) args s 0 0 (Ab G)) (F0 m 94 ls []) := by
  obtain ⟨hx, hb, hr, hml, hown, hts, hK, hlocks, hnm⟩ := id C0
  intro fu
  induction fu with
  | zero => intro H locs ls h x0 x4 x5 X hl o0 hf; cases hf
  | succ fu ih =>
    intro H locs ls h x0 x4 x5 X hl o0 hf
    rw [f_X12_lend_94] at hf
    refine lv_iload hx hb dX12_lend_94 (lv_at hl 2 rfl) ?_
    refine lv_aload_n hx hb dX12_lend_96 rfl (lv_at hl 0 rfl) ?_
    obtain ⟨g1, hf⟩ := gd_e hf
    refine g_R hx hb hts hown hK X o0 hN g1 fl_X12_13 (by decide) rfl (by decide) dX12_lend_97 ?_
    refine lv_iconst (v := (0 : Int32)) hx hb dX12_lend_100 (by decide) ?_
    obtain ⟨g2, hf⟩ := gd_e hf
    refine g_ia hx hb hK X g1 hN g2 (by decide) dX12_lend_101 ?_
    refine lv_icmp_gt (tgt := 136) hx hb dX12_lend_102 (by decide) (fun c102 => ?_) (fun c102 => ?_)
    · have hf := ite_t hf c102
      refine lv_iload hx hb dX12_lend_136 (lv_at hl 1 rfl) ?_
      exact r_I hx hb hr hlocks X hf dX12_lend_138
    · have hf := ite_f hf c102
      refine lv_iload hx hb dX12_lend_105 (lv_at hl 1 rfl) ?_
      refine lv_aload_n hx hb dX12_lend_107 rfl (lv_at hl 0 rfl) ?_
      obtain ⟨g3, hf⟩ := gd_e hf
      refine g_R hx hb hts hown hK X o0 hN g3 fl_X12_20 (by decide) rfl (by decide) dX12_lend_108 ?_
      refine lv_bipush (v := (26 : Int32)) hx hb dX12_lend_111 (by decide) ?_
      refine lv_iload hx hb dX12_lend_113 (lv_at hl 2 rfl) ?_
      refine lv_iadd hx hb dX12_lend_115 ?_
      obtain ⟨g4, hf⟩ := gd_e hf
      refine g_ia hx hb hK X g3 hN g4 (by decide) dX12_lend_116 ?_
      refine lv_bipush (v := (-4 : Int32)) hx hb dX12_lend_117 (by decide) ?_
      refine lv_icmp_eq (tgt := 126) hx hb dX12_lend_119 (by decide) (fun c119 => ?_) (fun c119 => ?_)
      · have hf := ite_t hf c119
        refine lv_iconst (v := (0 : Int32)) hx hb dX12_lend_126 (by decide) ?_
        refine lv_iadd hx hb dX12_lend_127 ?_
        refine lv_istore (lv' := [(4, .int (x4 + (0 : Int32))), (0, .ref (bs G + x0)), (5, .int x5)]) hx hb dX12_lend_128 hl (by decide) rfl (fun ls hl => ?_)
        refine lv_iinc (v := (x5 + (1 : Int32))) (lv' := [(5, .int (x5 + (1 : Int32))), (4, .int (x4 + (0 : Int32))), (0, .ref (bs G + x0))]) hx hb dX12_lend_130 hl (k := 2) rfl rfl (by decide) rfl (fun ls hl => ?_)
        refine lv_goto (tgt := 94) hx hb dX12_lend_133 (by decide) ?_
        exact ih X (lv_sub hl [2, 1, 0] rfl) o0 hf
      · have hf := ite_f hf c119
        refine lv_iconst (v := (1 : Int32)) hx hb dX12_lend_122 (by decide) ?_
        refine lv_goto (tgt := 127) hx hb dX12_lend_123 (by decide) ?_
        refine lv_iadd hx hb dX12_lend_127 ?_
        refine lv_istore (lv' := [(4, .int (x4 + (1 : Int32))), (0, .ref (bs G + x0)), (5, .int x5)]) hx hb dX12_lend_128 hl (by decide) rfl (fun ls hl => ?_)
        refine lv_iinc (v := (x5 + (1 : Int32))) (lv' := [(5, .int (x5 + (1 : Int32))), (4, .int (x4 + (1 : Int32))), (0, .ref (bs G + x0))]) hx hb dX12_lend_130 hl (k := 2) rfl rfl (by decide) rfl (fun ls hl => ?_)
        refine lv_goto (tgt := 94) hx hb dX12_lend_133 (by decide) ?_
        exact ih X (lv_sub hl [2, 1, 0] rfl) o0 hf
theorem k_X12_lend (l : Launch) (G : GG) (n : Nat) (hN : NT ≤ n) {h h' : Hp} {x0 : Nat} {x1 : Int32} {x2 : Int32} {rv : Int32} (hf : f_X12_lend h x0 x1 x2 = some (rv, h')) : CT l G n n yX12_lend (.code yX12_lend bX12_lend 6 (some .int)) 2 0 0 [.ref (bs G + x0), .int x1, .int x2] h h' (some (.int rv)) := by
  refine ct_of (maxL := 6) (ret := (some .int)) (bytes := bX12_lend) (by decide) (Nat.le_of_ble_eq_true rfl) (fun p e s m below meth c C0 X ls hl => ?_)
  have hl : lv_has ls 6 [(0, .ref (bs G + x0)), (1, .int x1), (2, .int x2)] := hl
  obtain ⟨hx, hb, hr, hml, hown, hts, hK, hlocks, hnm⟩ := id C0
  unfold f_X12_lend at hf
  obtain ⟨o0, hf⟩ := gd_e hf
  refine lv_aload_n hx hb dX12_lend_0 rfl (lv_at hl 0 rfl) ?_
  refine lv_iconst (v := (0 : Int32)) hx hb dX12_lend_1 (by decide) ?_
  refine g_PI hx hb hts hown hK X o0 hN fl_X12_1 ft_12_0 (by decide) rfl dX12_lend_2 (fun H locs X => ?_)
  obtain ⟨h1, e2, hf⟩ := lt_e hf
  rw [← e2] at X
  refine lv_aload_n hx hb dX12_lend_5 rfl (lv_at hl 0 rfl) ?_
  refine lv_iload_n hx hb dX12_lend_6 rfl (lv_at hl 1 rfl) ?_
  obtain ⟨r3, h4, q5, hf⟩ := bd_e hf
  refine c_V0 (As := [.int x1]) (rest := []) (st1 := [.int r3]) hx hb hml hown hts hK X (k_X12_noNumber l G n hN q5) o0 hN lc_X12_noNumber lv_X12_125 (ci := 12) rfl rfl (by decide) rfl hl.1 (Nat.le_of_ble_eq_true rfl) dX12_lend_7 rfl (fun H locs X => ?_)
  refine lv_if_ne (tgt := 21) hx hb dX12_lend_10 (by decide) (fun c10 => ?_) (fun c10 => ?_)
  · have hf := ite_f hf c10
    refine lv_iconst (v := (-1 : Int32)) hx hb dX12_lend_21 (by decide) ?_
    exact r_I hx hb hr hlocks X hf dX12_lend_22
  · have hf := ite_t hf c10
    refine lv_aload_n hx hb dX12_lend_13 rfl (lv_at hl 0 rfl) ?_
    refine lv_iload_n hx hb dX12_lend_14 rfl (lv_at hl 2 rfl) ?_
    obtain ⟨r6, h7, q8, hf⟩ := bd_e hf
    refine c_V0 (As := [.int x2]) (rest := []) (st1 := [.int r6]) hx hb hml hown hts hK X (k_X12_noOne l G n hN q8) o0 hN lc_X12_noOne lv_X12_138 (ci := 12) rfl rfl (by decide) rfl hl.1 (Nat.le_of_ble_eq_true rfl) dX12_lend_15 rfl (fun H locs X => ?_)
    refine lv_if_eq (tgt := 23) hx hb dX12_lend_18 (by decide) (fun c18 => ?_) (fun c18 => ?_)
    · have hf := ite_t hf c18
      refine lv_aload_n hx hb dX12_lend_23 rfl (lv_at hl 0 rfl) ?_
      obtain ⟨g9, hf⟩ := gd_e hf
      refine g_R hx hb hts hown hK X o0 hN g9 fl_X12_13 (by decide) rfl (by decide) dX12_lend_24 ?_
      refine lv_bipush (v := (28 : Int32)) hx hb dX12_lend_27 (by decide) ?_
      refine lv_iload_n hx hb dX12_lend_29 rfl (lv_at hl 1 rfl) ?_
      refine lv_iadd hx hb dX12_lend_30 ?_
      obtain ⟨g10, hf⟩ := gd_e hf
      refine g_ia hx hb hK X g9 hN g10 (by decide) dX12_lend_31 ?_
      refine lv_istore_n (lv' := [(3, .int (h7.1 (h7.2 x0 1) ((28 : Int32) + x1).toNatClampNeg)), (0, .ref (bs G + x0)), (1, .int x1), (2, .int x2)]) hx hb dX12_lend_32 rfl hl (by decide) rfl (fun ls hl => ?_)
      refine lv_iload_n hx hb dX12_lend_33 rfl (lv_at hl 0 rfl) ?_
      refine lv_bipush (v := (-4 : Int32)) hx hb dX12_lend_34 (by decide) ?_
      refine lv_icmp_eq (tgt := 71) hx hb dX12_lend_36 (by decide) (fun c36 => ?_) (fun c36 => ?_)
      · have hf := ite_t hf c36
        refine lv_bipush (v := (-2 : Int32)) hx hb dX12_lend_71 (by decide) ?_
        exact r_I hx hb hr hlocks X hf dX12_lend_73
      · have hf := ite_f hf c36
        refine lv_iload_n hx hb dX12_lend_39 rfl (lv_at hl 0 rfl) ?_
        refine lv_iload_n hx hb dX12_lend_40 rfl (lv_at hl 3 rfl) ?_
        refine lv_icmp_eq (tgt := 71) hx hb dX12_lend_41 (by decide) (fun c41 => ?_) (fun c41 => ?_)
        · have hf := ite_t hf c41
          refine lv_bipush (v := (-2 : Int32)) hx hb dX12_lend_71 (by decide) ?_
          exact r_I hx hb hr hlocks X hf dX12_lend_73
        · have hf := ite_f hf c41
          refine lv_aload_n hx hb dX12_lend_44 rfl (lv_at hl 1 rfl) ?_
          obtain ⟨g11, hf⟩ := gd_e hf
          refine g_R hx hb hts hown hK X o0 hN g11 fl_X12_20 (by decide) rfl (by decide) dX12_lend_45 ?_
          refine lv_iconst (v := (2 : Int32)) hx hb dX12_lend_48 (by decide) ?_
          refine lv_iload_n hx hb dX12_lend_49 rfl (lv_at hl 2 rfl) ?_
          refine lv_iadd hx hb dX12_lend_50 ?_
          obtain ⟨g12, hf⟩ := gd_e hf
          refine g_ia hx hb hK X g11 hN g12 (by decide) dX12_lend_51 ?_
          refine lv_bipush (v := (-4 : Int32)) hx hb dX12_lend_52 (by decide) ?_
          refine lv_icmp_ne (tgt := 71) hx hb dX12_lend_54 (by decide) (fun c54 => ?_) (fun c54 => ?_)
          · have hf := ite_f hf c54
            refine lv_bipush (v := (-2 : Int32)) hx hb dX12_lend_71 (by decide) ?_
            exact r_I hx hb hr hlocks X hf dX12_lend_73
          · have hf := ite_t hf c54
            refine lv_aload_n hx hb dX12_lend_57 rfl (lv_at hl 1 rfl) ?_
            obtain ⟨g13, hf⟩ := gd_e hf
            refine g_R hx hb hts hown hK X o0 hN g13 fl_X12_20 (by decide) rfl (by decide) dX12_lend_58 ?_
            refine lv_bipush (v := (26 : Int32)) hx hb dX12_lend_61 (by decide) ?_
            refine lv_iload_n hx hb dX12_lend_63 rfl (lv_at hl 2 rfl) ?_
            refine lv_iadd hx hb dX12_lend_64 ?_
            obtain ⟨g14, hf⟩ := gd_e hf
            refine g_ia hx hb hK X g13 hN g14 (by decide) dX12_lend_65 ?_
            refine lv_bipush (v := (-4 : Int32)) hx hb dX12_lend_66 (by decide) ?_
            refine lv_icmp_eq (tgt := 74) hx hb dX12_lend_68 (by decide) (fun c68 => ?_) (fun c68 => ?_)
            · have hf := ite_t hf c68
              refine lv_aload_n hx hb dX12_lend_74 rfl (lv_at hl 1 rfl) ?_
              obtain ⟨r15, h16, q17, hf⟩ := bd_e hf
              refine c_V0 (As := []) (rest := []) (st1 := []) hx hb hml hown hts hK X (k_X12_keepDay l G n hN q17) o0 hN lc_X12_keepDay lv_X12_195 (ci := 12) rfl rfl (by decide) rfl hl.1 (Nat.le_of_ble_eq_true rfl) dX12_lend_75 rfl (fun H locs X => ?_)
              refine lv_aload_n hx hb dX12_lend_78 rfl (lv_at hl 1 rfl) ?_
              obtain ⟨g18, hf⟩ := gd_e hf
              refine g_R hx hb hts hown hK X o0 hN g18 fl_X12_20 (by decide) rfl (by decide) dX12_lend_79 ?_
              refine lv_bipush (v := (26 : Int32)) hx hb dX12_lend_82 (by decide) ?_
              refine lv_iload_n hx hb dX12_lend_84 rfl (lv_at hl 2 rfl) ?_
              refine lv_iadd hx hb dX12_lend_85 ?_
              refine lv_iload_n hx hb dX12_lend_86 rfl (lv_at hl 3 rfl) ?_
              obtain ⟨g19, hf⟩ := gd_e hf
              refine g_is hx hb hK X g18 hN g19 (by decide) dX12_lend_87 (fun H locs X => ?_)
              obtain ⟨h20, e21, hf⟩ := lt_e hf
              rw [← e21] at X
              refine lv_iconst (v := (0 : Int32)) hx hb dX12_lend_88 (by decide) ?_
              refine lv_istore (lv' := [(4, .int (0 : Int32)), (3, .int (h7.1 (h7.2 x0 1) ((28 : Int32) + x1).toNatClampNeg)), (0, .ref (bs G + x0)), (1, .int x1), (2, .int x2)]) hx hb dX12_lend_89 hl (by decide) rfl (fun ls hl => ?_)
              refine lv_iconst (v := (1 : Int32)) hx hb dX12_lend_91 (by decide) ?_
              refine lv_istore (lv' := [(5, .int (1 : Int32)), (4, .int (0 : Int32)), (3, .int (h7.1 (h7.2 x0 1) ((28 : Int32) + x1).toNatClampNeg)), (0, .ref (bs G + x0)), (1, .int x1), (2, .int x2)]) hx hb dX12_lend_92 hl (by decide) rfl (fun ls hl => ?_)
              exact j_X12_lend_94 C0 hN FU X (lv_sub hl [3, 1, 0] rfl) o0 hf
            · have hf := ite_f hf c68
              refine lv_bipush (v := (-2 : Int32)) hx hb dX12_lend_71 (by decide) ?_
              exact r_I hx hb hr hlocks X hf dX12_lend_73
    · have hf := ite_f hf c18
      refine lv_iconst (v := (-1 : Int32)) hx hb dX12_lend_21 (by decide) ?_
      exact r_I hx hb hr hlocks X hf dX12_lend_22
end
theorem dX12_born_0 : decode bX12_born 0 = .ok (.aload_n 0, 1) := by decide +kernel
theorem dX12_born_1 : decode bX12_born 1 = .ok (.iconst 0, 1) := by decide +kernel
theorem dX12_born_2 : decode bX12_born 2 = .ok (.putfield 1, 3) := by decide +kernel
theorem dX12_born_5 : decode bX12_born 5 = .ok (.aload_n 0, 1) := by decide +kernel
theorem dX12_born_6 : decode bX12_born 6 = .ok (.getfield 20, 3) := by decide +kernel
theorem dX12_born_9 : decode bX12_born 9 = .ok (.iconst 0, 1) := by decide +kernel
theorem dX12_born_10 : decode bX12_born 10 = .ok (.iaload, 1) := by decide +kernel
theorem dX12_born_11 : decode bX12_born 11 = .ok (.iconst 1, 1) := by decide +kernel
theorem dX12_born_12 : decode bX12_born 12 = .ok (.iadd, 1) := by decide +kernel
theorem dX12_born_13 : decode bX12_born 13 = .ok (.istore_n 1, 1) := by decide +kernel
theorem dX12_born_14 : decode bX12_born 14 = .ok (.aload_n 0, 1) := by decide +kernel
theorem dX12_born_15 : decode bX12_born 15 = .ok (.getfield 20, 3) := by decide +kernel
theorem dX12_born_18 : decode bX12_born 18 = .ok (.iconst 1, 1) := by decide +kernel
theorem dX12_born_19 : decode bX12_born 19 = .ok (.iaload, 1) := by decide +kernel
theorem dX12_born_20 : decode bX12_born 20 = .ok (.iconst 1, 1) := by decide +kernel
theorem dX12_born_21 : decode bX12_born 21 = .ok (.if_icmp .eq 24, 3) := by decide +kernel
theorem dX12_born_24 : decode bX12_born 24 = .ok (.aload_n 0, 1) := by decide +kernel
theorem dX12_born_25 : decode bX12_born 25 = .ok (.iload_n 1, 1) := by decide +kernel
theorem dX12_born_26 : decode bX12_born 26 = .ok (.invokevirtual 125, 3) := by decide +kernel
theorem dX12_born_29 : decode bX12_born 29 = .ok (.ifCond .ne 16, 3) := by decide +kernel
theorem dX12_born_32 : decode bX12_born 32 = .ok (.aload_n 0, 1) := by decide +kernel
theorem dX12_born_33 : decode bX12_born 33 = .ok (.getfield 20, 3) := by decide +kernel
theorem dX12_born_36 : decode bX12_born 36 = .ok (.iconst 2, 1) := by decide +kernel
theorem dX12_born_37 : decode bX12_born 37 = .ok (.iload_n 1, 1) := by decide +kernel
theorem dX12_born_38 : decode bX12_born 38 = .ok (.iadd, 1) := by decide +kernel
theorem dX12_born_39 : decode bX12_born 39 = .ok (.iaload, 1) := by decide +kernel
theorem dX12_born_40 : decode bX12_born 40 = .ok (.bipush (-4), 2) := by decide +kernel
theorem dX12_born_42 : decode bX12_born 42 = .ok (.if_icmp .eq 6, 3) := by decide +kernel
theorem dX12_born_45 : decode bX12_born 45 = .ok (.bipush (-2), 2) := by decide +kernel
theorem dX12_born_47 : decode bX12_born 47 = .ok (.ireturn, 1) := by decide +kernel
theorem dX12_born_48 : decode bX12_born 48 = .ok (.aload_n 0, 1) := by decide +kernel
theorem dX12_born_49 : decode bX12_born 49 = .ok (.invokevirtual 195, 3) := by decide +kernel
theorem dX12_born_52 : decode bX12_born 52 = .ok (.aload_n 0, 1) := by decide +kernel
theorem dX12_born_53 : decode bX12_born 53 = .ok (.getfield 20, 3) := by decide +kernel
theorem dX12_born_56 : decode bX12_born 56 = .ok (.iconst 0, 1) := by decide +kernel
theorem dX12_born_57 : decode bX12_born 57 = .ok (.iload_n 1, 1) := by decide +kernel
theorem dX12_born_58 : decode bX12_born 58 = .ok (.iastore, 1) := by decide +kernel
theorem dX12_born_59 : decode bX12_born 59 = .ok (.aload_n 0, 1) := by decide +kernel
theorem dX12_born_60 : decode bX12_born 60 = .ok (.getfield 20, 3) := by decide +kernel
theorem dX12_born_63 : decode bX12_born 63 = .ok (.iconst 2, 1) := by decide +kernel
theorem dX12_born_64 : decode bX12_born 64 = .ok (.iload_n 1, 1) := by decide +kernel
theorem dX12_born_65 : decode bX12_born 65 = .ok (.iadd, 1) := by decide +kernel
theorem dX12_born_66 : decode bX12_born 66 = .ok (.bipush 7, 2) := by decide +kernel
theorem dX12_born_68 : decode bX12_born 68 = .ok (.iastore, 1) := by decide +kernel
theorem dX12_born_69 : decode bX12_born 69 = .ok (.iload_n 1, 1) := by decide +kernel
theorem dX12_born_70 : decode bX12_born 70 = .ok (.ireturn, 1) := by decide +kernel
section
variable {p : Program} {l : Launch} {e : Env} {s : State} {m : MethodId} {args : Array Value} {below : List Frame} {meth : Method} {c : Code} {G : GG} {n : Nat} {h' : Hp} {rv : Int32}
set_option maxHeartbeats 4000000
set_option maxRecDepth 100000
theorem k_X12_born (l : Launch) (G : GG) (n : Nat) (hN : NT ≤ n) {h h' : Hp} {x0 : Nat} {rv : Int32} (hf : f_X12_born h x0 = some (rv, h')) : CT l G n n yX12_born (.code yX12_born bX12_born 2 (some .int)) 2 0 0 [.ref (bs G + x0)] h h' (some (.int rv)) := by
  refine ct_of (maxL := 2) (ret := (some .int)) (bytes := bX12_born) (by decide) (Nat.le_of_ble_eq_true rfl) (fun p e s m below meth c C0 X ls hl => ?_)
  have hl : lv_has ls 2 [(0, .ref (bs G + x0))] := hl
  obtain ⟨hx, hb, hr, hml, hown, hts, hK, hlocks, hnm⟩ := id C0
  unfold f_X12_born at hf
  obtain ⟨o0, hf⟩ := gd_e hf
  refine lv_aload_n hx hb dX12_born_0 rfl (lv_at hl 0 rfl) ?_
  refine lv_iconst (v := (0 : Int32)) hx hb dX12_born_1 (by decide) ?_
  refine g_PI hx hb hts hown hK X o0 hN fl_X12_1 ft_12_0 (by decide) rfl dX12_born_2 (fun H locs X => ?_)
  obtain ⟨h1, e2, hf⟩ := lt_e hf
  rw [← e2] at X
  refine lv_aload_n hx hb dX12_born_5 rfl (lv_at hl 0 rfl) ?_
  obtain ⟨g3, hf⟩ := gd_e hf
  refine g_R hx hb hts hown hK X o0 hN g3 fl_X12_20 (by decide) rfl (by decide) dX12_born_6 ?_
  refine lv_iconst (v := (0 : Int32)) hx hb dX12_born_9 (by decide) ?_
  obtain ⟨g4, hf⟩ := gd_e hf
  refine g_ia hx hb hK X g3 hN g4 (by decide) dX12_born_10 ?_
  refine lv_iconst (v := (1 : Int32)) hx hb dX12_born_11 (by decide) ?_
  refine lv_iadd hx hb dX12_born_12 ?_
  refine lv_istore_n (lv' := [(1, .int ((h1.1 (h1.2 x0 3) (0 : Int32).toNatClampNeg) + (1 : Int32))), (0, .ref (bs G + x0))]) hx hb dX12_born_13 rfl hl (by decide) rfl (fun ls hl => ?_)
  refine lv_aload_n hx hb dX12_born_14 rfl (lv_at hl 1 rfl) ?_
  obtain ⟨g5, hf⟩ := gd_e hf
  refine g_R hx hb hts hown hK X o0 hN g5 fl_X12_20 (by decide) rfl (by decide) dX12_born_15 ?_
  refine lv_iconst (v := (1 : Int32)) hx hb dX12_born_18 (by decide) ?_
  obtain ⟨g6, hf⟩ := gd_e hf
  refine g_ia hx hb hK X g5 hN g6 (by decide) dX12_born_19 ?_
  refine lv_iconst (v := (1 : Int32)) hx hb dX12_born_20 (by decide) ?_
  refine lv_icmp_eq (tgt := 45) hx hb dX12_born_21 (by decide) (fun c21 => ?_) (fun c21 => ?_)
  · have hf := ite_t hf c21
    refine lv_bipush (v := (-2 : Int32)) hx hb dX12_born_45 (by decide) ?_
    exact r_I hx hb hr hlocks X hf dX12_born_47
  · have hf := ite_f hf c21
    refine lv_aload_n hx hb dX12_born_24 rfl (lv_at hl 1 rfl) ?_
    refine lv_iload_n hx hb dX12_born_25 rfl (lv_at hl 0 rfl) ?_
    obtain ⟨r7, h8, q9, hf⟩ := bd_e hf
    refine c_V0 (As := [.int ((h1.1 (h1.2 x0 3) (0 : Int32).toNatClampNeg) + (1 : Int32))]) (rest := []) (st1 := [.int r7]) hx hb hml hown hts hK X (k_X12_noNumber l G n hN q9) o0 hN lc_X12_noNumber lv_X12_125 (ci := 12) rfl rfl (by decide) rfl hl.1 (Nat.le_of_ble_eq_true rfl) dX12_born_26 rfl (fun H locs X => ?_)
    refine lv_if_ne (tgt := 45) hx hb dX12_born_29 (by decide) (fun c29 => ?_) (fun c29 => ?_)
    · have hf := ite_f hf c29
      refine lv_bipush (v := (-2 : Int32)) hx hb dX12_born_45 (by decide) ?_
      exact r_I hx hb hr hlocks X hf dX12_born_47
    · have hf := ite_t hf c29
      refine lv_aload_n hx hb dX12_born_32 rfl (lv_at hl 1 rfl) ?_
      obtain ⟨g10, hf⟩ := gd_e hf
      refine g_R hx hb hts hown hK X o0 hN g10 fl_X12_20 (by decide) rfl (by decide) dX12_born_33 ?_
      refine lv_iconst (v := (2 : Int32)) hx hb dX12_born_36 (by decide) ?_
      refine lv_iload_n hx hb dX12_born_37 rfl (lv_at hl 0 rfl) ?_
      refine lv_iadd hx hb dX12_born_38 ?_
      obtain ⟨g11, hf⟩ := gd_e hf
      refine g_ia hx hb hK X g10 hN g11 (by decide) dX12_born_39 ?_
      refine lv_bipush (v := (-4 : Int32)) hx hb dX12_born_40 (by decide) ?_
      refine lv_icmp_eq (tgt := 48) hx hb dX12_born_42 (by decide) (fun c42 => ?_) (fun c42 => ?_)
      · have hf := ite_t hf c42
        refine lv_aload_n hx hb dX12_born_48 rfl (lv_at hl 1 rfl) ?_
        obtain ⟨r12, h13, q14, hf⟩ := bd_e hf
        refine c_V0 (As := []) (rest := []) (st1 := []) hx hb hml hown hts hK X (k_X12_keepDay l G n hN q14) o0 hN lc_X12_keepDay lv_X12_195 (ci := 12) rfl rfl (by decide) rfl hl.1 (Nat.le_of_ble_eq_true rfl) dX12_born_49 rfl (fun H locs X => ?_)
        refine lv_aload_n hx hb dX12_born_52 rfl (lv_at hl 1 rfl) ?_
        obtain ⟨g15, hf⟩ := gd_e hf
        refine g_R hx hb hts hown hK X o0 hN g15 fl_X12_20 (by decide) rfl (by decide) dX12_born_53 ?_
        refine lv_iconst (v := (0 : Int32)) hx hb dX12_born_56 (by decide) ?_
        refine lv_iload_n hx hb dX12_born_57 rfl (lv_at hl 0 rfl) ?_
        obtain ⟨g16, hf⟩ := gd_e hf
        refine g_is hx hb hK X g15 hN g16 (by decide) dX12_born_58 (fun H locs X => ?_)
        obtain ⟨h17, e18, hf⟩ := lt_e hf
        rw [← e18] at X
        refine lv_aload_n hx hb dX12_born_59 rfl (lv_at hl 1 rfl) ?_
        obtain ⟨g19, hf⟩ := gd_e hf
        refine g_R hx hb hts hown hK X o0 hN g19 fl_X12_20 (by decide) rfl (by decide) dX12_born_60 ?_
        refine lv_iconst (v := (2 : Int32)) hx hb dX12_born_63 (by decide) ?_
        refine lv_iload_n hx hb dX12_born_64 rfl (lv_at hl 0 rfl) ?_
        refine lv_iadd hx hb dX12_born_65 ?_
        refine lv_bipush (v := (7 : Int32)) hx hb dX12_born_66 (by decide) ?_
        obtain ⟨g20, hf⟩ := gd_e hf
        refine g_is hx hb hK X g19 hN g20 (by decide) dX12_born_68 (fun H locs X => ?_)
        obtain ⟨h21, e22, hf⟩ := lt_e hf
        rw [← e22] at X
        refine lv_iload_n hx hb dX12_born_69 rfl (lv_at hl 0 rfl) ?_
        exact r_I hx hb hr hlocks X hf dX12_born_70
      · have hf := ite_f hf c42
        refine lv_bipush (v := (-2 : Int32)) hx hb dX12_born_45 (by decide) ?_
        exact r_I hx hb hr hlocks X hf dX12_born_47
end
theorem dX12_dusk_0 : decode bX12_dusk 0 = .ok (.aload_n 0, 1) := by decide +kernel
theorem dX12_dusk_1 : decode bX12_dusk 1 = .ok (.iconst 0, 1) := by decide +kernel
theorem dX12_dusk_2 : decode bX12_dusk 2 = .ok (.putfield 1, 3) := by decide +kernel
theorem dX12_dusk_5 : decode bX12_dusk 5 = .ok (.aload_n 0, 1) := by decide +kernel
theorem dX12_dusk_6 : decode bX12_dusk 6 = .ok (.invokevirtual 135, 3) := by decide +kernel
theorem dX12_dusk_9 : decode bX12_dusk 9 = .ok (.invokestatic 204, 3) := by decide +kernel
theorem dX12_dusk_12 : decode bX12_dusk 12 = .ok (.istore_n 2, 1) := by decide +kernel
theorem dX12_dusk_13 : decode bX12_dusk 13 = .ok (.aload_n 0, 1) := by decide +kernel
theorem dX12_dusk_14 : decode bX12_dusk 14 = .ok (.invokevirtual 195, 3) := by decide +kernel
theorem dX12_dusk_17 : decode bX12_dusk 17 = .ok (.aload_n 0, 1) := by decide +kernel
theorem dX12_dusk_18 : decode bX12_dusk 18 = .ok (.iload_n 1, 1) := by decide +kernel
theorem dX12_dusk_19 : decode bX12_dusk 19 = .ok (.invokevirtual 71, 3) := by decide +kernel
theorem dX12_dusk_22 : decode bX12_dusk 22 = .ok (.iload_n 2, 1) := by decide +kernel
theorem dX12_dusk_23 : decode bX12_dusk 23 = .ok (.ireturn, 1) := by decide +kernel
section
variable {p : Program} {l : Launch} {e : Env} {s : State} {m : MethodId} {args : Array Value} {below : List Frame} {meth : Method} {c : Code} {G : GG} {n : Nat} {h' : Hp} {rv : Int32}
set_option maxHeartbeats 4000000
set_option maxRecDepth 100000
theorem k_X12_dusk (l : Launch) (G : GG) (n : Nat) (hN : NT ≤ n) {h h' : Hp} {x0 : Nat} {x1 : Int32} {rv : Int32} (hf : f_X12_dusk h x0 x1 = some (rv, h')) : CT l G n n yX12_dusk (.code yX12_dusk bX12_dusk 3 (some .int)) 1 0 0 [.ref (bs G + x0), .int x1] h h' (some (.int rv)) := by
  refine ct_of (maxL := 3) (ret := (some .int)) (bytes := bX12_dusk) (by decide) (Nat.le_of_ble_eq_true rfl) (fun p e s m below meth c C0 X ls hl => ?_)
  have hl : lv_has ls 3 [(0, .ref (bs G + x0)), (1, .int x1)] := hl
  obtain ⟨hx, hb, hr, hml, hown, hts, hK, hlocks, hnm⟩ := id C0
  unfold f_X12_dusk at hf
  obtain ⟨o0, hf⟩ := gd_e hf
  refine lv_aload_n hx hb dX12_dusk_0 rfl (lv_at hl 0 rfl) ?_
  refine lv_iconst (v := (0 : Int32)) hx hb dX12_dusk_1 (by decide) ?_
  refine g_PI hx hb hts hown hK X o0 hN fl_X12_1 ft_12_0 (by decide) rfl dX12_dusk_2 (fun H locs X => ?_)
  obtain ⟨h1, e2, hf⟩ := lt_e hf
  rw [← e2] at X
  refine lv_aload_n hx hb dX12_dusk_5 rfl (lv_at hl 0 rfl) ?_
  obtain ⟨r3, h4, q5, hf⟩ := bd_e hf
  refine c_V0 (As := []) (rest := []) (st1 := [.int r3]) hx hb hml hown hts hK X (k_X12_taken l G n hN q5) o0 hN lc_X12_taken lv_X12_135 (ci := 12) rfl rfl (by decide) rfl hl.1 (Nat.le_of_ble_eq_true rfl) dX12_dusk_6 rfl (fun H locs X => ?_)
  obtain ⟨r6, h7, q8, hf⟩ := bd_e hf
  refine c_S0 (As := [.int r3]) (rest := []) (st1 := [.int r6]) hx hb hml hown hts hK X (k_X12_bits l G n hN q8) lc_X12_bits ls_X12_204 (by decide) rfl hl.1 (Nat.le_of_ble_eq_true rfl) dX12_dusk_9 rfl (fun H locs X => ?_)
  refine lv_istore_n (lv' := [(2, .int r6), (0, .ref (bs G + x0)), (1, .int x1)]) hx hb dX12_dusk_12 rfl hl (by decide) rfl (fun ls hl => ?_)
  refine lv_aload_n hx hb dX12_dusk_13 rfl (lv_at hl 1 rfl) ?_
  obtain ⟨r9, h10, q11, hf⟩ := bd_e hf
  refine c_V0 (As := []) (rest := []) (st1 := []) hx hb hml hown hts hK X (k_X12_keepDay l G n hN q11) o0 hN lc_X12_keepDay lv_X12_195 (ci := 12) rfl rfl (by decide) rfl hl.1 (Nat.le_of_ble_eq_true rfl) dX12_dusk_14 rfl (fun H locs X => ?_)
  refine lv_aload_n hx hb dX12_dusk_17 rfl (lv_at hl 1 rfl) ?_
  refine lv_iload_n hx hb dX12_dusk_18 rfl (lv_at hl 2 rfl) ?_
  obtain ⟨r12, h13, q14, hf⟩ := bd_e hf
  refine c_V0 (As := [.int x1]) (rest := []) (st1 := []) hx hb hml hown hts hK X (k_X12_dawn l G n hN q14) o0 hN lc_X12_dawn lv_X12_71 (ci := 12) rfl rfl (by decide) rfl hl.1 (Nat.le_of_ble_eq_true rfl) dX12_dusk_19 rfl (fun H locs X => ?_)
  refine lv_iload_n hx hb dX12_dusk_22 rfl (lv_at hl 0 rfl) ?_
  exact r_I hx hb hr hlocks X hf dX12_dusk_23
end
theorem dX12_undo_0 : decode bX12_undo 0 = .ok (.aload_n 0, 1) := by decide +kernel
theorem dX12_undo_1 : decode bX12_undo 1 = .ok (.iconst 0, 1) := by decide +kernel
theorem dX12_undo_2 : decode bX12_undo 2 = .ok (.putfield 1, 3) := by decide +kernel
theorem dX12_undo_5 : decode bX12_undo 5 = .ok (.aload_n 0, 1) := by decide +kernel
theorem dX12_undo_6 : decode bX12_undo 6 = .ok (.getfield 119, 3) := by decide +kernel
theorem dX12_undo_9 : decode bX12_undo 9 = .ok (.ifCond .ne 6, 3) := by decide +kernel
theorem dX12_undo_12 : decode bX12_undo 12 = .ok (.bipush (-2), 2) := by decide +kernel
theorem dX12_undo_14 : decode bX12_undo 14 = .ok (.ireturn, 1) := by decide +kernel
theorem dX12_undo_15 : decode bX12_undo 15 = .ok (.aload_n 0, 1) := by decide +kernel
theorem dX12_undo_16 : decode bX12_undo 16 = .ok (.dup, 1) := by decide +kernel
theorem dX12_undo_17 : decode bX12_undo 17 = .ok (.getfield 119, 3) := by decide +kernel
theorem dX12_undo_20 : decode bX12_undo 20 = .ok (.iconst 1, 1) := by decide +kernel
theorem dX12_undo_21 : decode bX12_undo 21 = .ok (.isub, 1) := by decide +kernel
theorem dX12_undo_22 : decode bX12_undo 22 = .ok (.putfield 119, 3) := by decide +kernel
theorem dX12_undo_25 : decode bX12_undo 25 = .ok (.iconst 0, 1) := by decide +kernel
theorem dX12_undo_26 : decode bX12_undo 26 = .ok (.istore_n 1, 1) := by decide +kernel
theorem dX12_undo_27 : decode bX12_undo 27 = .ok (.iload_n 1, 1) := by decide +kernel
theorem dX12_undo_28 : decode bX12_undo 28 = .ok (.bipush 51, 2) := by decide +kernel
theorem dX12_undo_30 : decode bX12_undo 30 = .ok (.if_icmp .ge 29, 3) := by decide +kernel
theorem dX12_undo_33 : decode bX12_undo 33 = .ok (.aload_n 0, 1) := by decide +kernel
theorem dX12_undo_34 : decode bX12_undo 34 = .ok (.getfield 20, 3) := by decide +kernel
theorem dX12_undo_37 : decode bX12_undo 37 = .ok (.iload_n 1, 1) := by decide +kernel
theorem dX12_undo_38 : decode bX12_undo 38 = .ok (.aload_n 0, 1) := by decide +kernel
theorem dX12_undo_39 : decode bX12_undo 39 = .ok (.getfield 23, 3) := by decide +kernel
theorem dX12_undo_42 : decode bX12_undo 42 = .ok (.bipush 51, 2) := by decide +kernel
theorem dX12_undo_44 : decode bX12_undo 44 = .ok (.aload_n 0, 1) := by decide +kernel
theorem dX12_undo_45 : decode bX12_undo 45 = .ok (.getfield 119, 3) := by decide +kernel
theorem dX12_undo_48 : decode bX12_undo 48 = .ok (.imul, 1) := by decide +kernel
theorem dX12_undo_49 : decode bX12_undo 49 = .ok (.iload_n 1, 1) := by decide +kernel
theorem dX12_undo_50 : decode bX12_undo 50 = .ok (.iadd, 1) := by decide +kernel
theorem dX12_undo_51 : decode bX12_undo 51 = .ok (.iaload, 1) := by decide +kernel
theorem dX12_undo_52 : decode bX12_undo 52 = .ok (.iastore, 1) := by decide +kernel
theorem dX12_undo_53 : decode bX12_undo 53 = .ok (.iinc 1 1, 3) := by decide +kernel
theorem dX12_undo_56 : decode bX12_undo 56 = .ok (.goto (-29), 3) := by decide +kernel
theorem dX12_undo_59 : decode bX12_undo 59 = .ok (.aload_n 0, 1) := by decide +kernel
theorem dX12_undo_60 : decode bX12_undo 60 = .ok (.getfield 119, 3) := by decide +kernel
theorem dX12_undo_63 : decode bX12_undo 63 = .ok (.ireturn, 1) := by decide +kernel
section
variable {p : Program} {l : Launch} {e : Env} {s : State} {m : MethodId} {args : Array Value} {below : List Frame} {meth : Method} {c : Code} {G : GG} {n : Nat} {h' : Hp} {rv : Int32}
set_option maxHeartbeats 4000000
set_option maxRecDepth 100000
theorem j_X12_undo_27 (C0 : Cx p s m args meth c G bX12_undo RX12 2 (some .int) "undo") (hN : NT ≤ n) : ∀ (fu : Nat), ∀ {H : Heap} {locs : List Loc} {ls : Array Slot} {h : Hp} {x0 : Nat} {x1 : Int32}, XW G n h s 0 H locs → lv_has ls 2 [(0, .ref (bs G + x0)), (1, .int x1)] → kd x0 = 12 → f_X12_undo_27 fu h x0 x1 = some (rv, h') → W p l e (rmC 0 0 0) s m args below meth c H locs 0 0 (MQ below (QP G n h' (some (.int rv))) args s 0 0 (Ab G)) (F0 m 27 ls []) := by
  obtain ⟨hx, hb, hr, hml, hown, hts, hK, hlocks, hnm⟩ := id C0
  intro fu
  induction fu with
  | zero => intro H locs ls h x0 x1 X hl o0 hf; cases hf
  | succ fu ih =>
    intro H locs ls h x0 x1 X hl o0 hf
    rw [f_X12_undo_27] at hf
    refine lv_iload_n hx hb dX12_undo_27 rfl (lv_at hl 1 rfl) ?_
    refine lv_bipush (v := (51 : Int32)) hx hb dX12_undo_28 (by decide) ?_
    refine lv_icmp_ge (tgt := 59) hx hb dX12_undo_30 (by decide) (fun c30 => ?_) (fun c30 => ?_)
    · have hf := ite_t hf c30
      refine lv_aload_n hx hb dX12_undo_59 rfl (lv_at hl 0 rfl) ?_
      refine g_I hx hb hts hown hK X o0 hN fl_X12_119 (by decide) rfl dX12_undo_60 ?_
      exact r_I hx hb hr hlocks X hf dX12_undo_63
    · have hf := ite_f hf c30
      refine lv_aload_n hx hb dX12_undo_33 rfl (lv_at hl 0 rfl) ?_
      obtain ⟨g1, hf⟩ := gd_e hf
      refine g_R hx hb hts hown hK X o0 hN g1 fl_X12_20 (by decide) rfl (by decide) dX12_undo_34 ?_
      refine lv_iload_n hx hb dX12_undo_37 rfl (lv_at hl 1 rfl) ?_
      refine lv_aload_n hx hb dX12_undo_38 rfl (lv_at hl 0 rfl) ?_
      obtain ⟨g2, hf⟩ := gd_e hf
      refine g_R hx hb hts hown hK X o0 hN g2 fl_X12_23 (by decide) rfl (by decide) dX12_undo_39 ?_
      refine lv_bipush (v := (51 : Int32)) hx hb dX12_undo_42 (by decide) ?_
      refine lv_aload_n hx hb dX12_undo_44 rfl (lv_at hl 0 rfl) ?_
      refine g_I hx hb hts hown hK X o0 hN fl_X12_119 (by decide) rfl dX12_undo_45 ?_
      refine lv_imul hx hb dX12_undo_48 ?_
      refine lv_iload_n hx hb dX12_undo_49 rfl (lv_at hl 1 rfl) ?_
      refine lv_iadd hx hb dX12_undo_50 ?_
      obtain ⟨g3, hf⟩ := gd_e hf
      refine g_ia hx hb hK X g2 hN g3 (by decide) dX12_undo_51 ?_
      obtain ⟨g4, hf⟩ := gd_e hf
      refine g_is hx hb hK X g1 hN g4 (by decide) dX12_undo_52 (fun H locs X => ?_)
      obtain ⟨h5, e6, hf⟩ := lt_e hf
      rw [← e6] at X
      refine lv_iinc (v := (x1 + (1 : Int32))) (lv' := [(1, .int (x1 + (1 : Int32))), (0, .ref (bs G + x0))]) hx hb dX12_undo_53 hl (k := 1) rfl rfl (by decide) rfl (fun ls hl => ?_)
      refine lv_goto (tgt := 27) hx hb dX12_undo_56 (by decide) ?_
      exact ih X (lv_sub hl [1, 0] rfl) o0 hf
theorem k_X12_undo (l : Launch) (G : GG) (n : Nat) (hN : NT ≤ n) {h h' : Hp} {x0 : Nat} {rv : Int32} (hf : f_X12_undo h x0 = some (rv, h')) : CT l G n n yX12_undo (.code yX12_undo bX12_undo 2 (some .int)) 0 0 0 [.ref (bs G + x0)] h h' (some (.int rv)) := by
  refine ct_of (maxL := 2) (ret := (some .int)) (bytes := bX12_undo) (by decide) (Nat.le_of_ble_eq_true rfl) (fun p e s m below meth c C0 X ls hl => ?_)
  have hl : lv_has ls 2 [(0, .ref (bs G + x0))] := hl
  obtain ⟨hx, hb, hr, hml, hown, hts, hK, hlocks, hnm⟩ := id C0
  unfold f_X12_undo at hf
  obtain ⟨o0, hf⟩ := gd_e hf
  refine lv_aload_n hx hb dX12_undo_0 rfl (lv_at hl 0 rfl) ?_
  refine lv_iconst (v := (0 : Int32)) hx hb dX12_undo_1 (by decide) ?_
  refine g_PI hx hb hts hown hK X o0 hN fl_X12_1 ft_12_0 (by decide) rfl dX12_undo_2 (fun H locs X => ?_)
  obtain ⟨h1, e2, hf⟩ := lt_e hf
  rw [← e2] at X
  refine lv_aload_n hx hb dX12_undo_5 rfl (lv_at hl 0 rfl) ?_
  refine g_I hx hb hts hown hK X o0 hN fl_X12_119 (by decide) rfl dX12_undo_6 ?_
  refine lv_if_ne (tgt := 15) hx hb dX12_undo_9 (by decide) (fun c9 => ?_) (fun c9 => ?_)
  · have hf := ite_f hf c9
    refine lv_aload_n hx hb dX12_undo_15 rfl (lv_at hl 0 rfl) ?_
    refine lv_dup hx hb dX12_undo_16 rfl ?_
    refine g_I hx hb hts hown hK X o0 hN fl_X12_119 (by decide) rfl dX12_undo_17 ?_
    refine lv_iconst (v := (1 : Int32)) hx hb dX12_undo_20 (by decide) ?_
    refine lv_isub hx hb dX12_undo_21 ?_
    refine g_PI hx hb hts hown hK X o0 hN fl_X12_119 ft_12_5 (by decide) rfl dX12_undo_22 (fun H locs X => ?_)
    obtain ⟨h3, e4, hf⟩ := lt_e hf
    rw [← e4] at X
    refine lv_iconst (v := (0 : Int32)) hx hb dX12_undo_25 (by decide) ?_
    refine lv_istore_n (lv' := [(1, .int (0 : Int32)), (0, .ref (bs G + x0))]) hx hb dX12_undo_26 rfl hl (by decide) rfl (fun ls hl => ?_)
    exact j_X12_undo_27 C0 hN FU X (lv_sub hl [1, 0] rfl) o0 hf
  · have hf := ite_t hf c9
    refine lv_bipush (v := (-2 : Int32)) hx hb dX12_undo_12 (by decide) ?_
    exact r_I hx hb hr hlocks X hf dX12_undo_14
end
theorem dX12_best_0 : decode bX12_best 0 = .ok (.aload_n 0, 1) := by decide +kernel
theorem dX12_best_1 : decode bX12_best 1 = .ok (.iconst 0, 1) := by decide +kernel
theorem dX12_best_2 : decode bX12_best 2 = .ok (.putfield 1, 3) := by decide +kernel
theorem dX12_best_5 : decode bX12_best 5 = .ok (.aload_n 0, 1) := by decide +kernel
theorem dX12_best_6 : decode bX12_best 6 = .ok (.iload_n 1, 1) := by decide +kernel
theorem dX12_best_7 : decode bX12_best 7 = .ok (.invokevirtual 138, 3) := by decide +kernel
theorem dX12_best_10 : decode bX12_best 10 = .ok (.ifCond .ne 27, 3) := by decide +kernel
theorem dX12_best_13 : decode bX12_best 13 = .ok (.iload_n 2, 1) := by decide +kernel
theorem dX12_best_14 : decode bX12_best 14 = .ok (.i2l, 1) := by decide +kernel
theorem dX12_best_15 : decode bX12_best 15 = .ok (.lconst 1, 1) := by decide +kernel
theorem dX12_best_16 : decode bX12_best 16 = .ok (.ldc2_w 207, 3) := by decide +kernel
theorem dX12_best_19 : decode bX12_best 19 = .ok (.invokestatic 75, 3) := by decide +kernel
theorem dX12_best_22 : decode bX12_best 22 = .ok (.ifCond .eq 15, 3) := by decide +kernel
theorem dX12_best_25 : decode bX12_best 25 = .ok (.iload_n 3, 1) := by decide +kernel
theorem dX12_best_26 : decode bX12_best 26 = .ok (.i2l, 1) := by decide +kernel
theorem dX12_best_27 : decode bX12_best 27 = .ok (.lconst 0, 1) := by decide +kernel
theorem dX12_best_28 : decode bX12_best 28 = .ok (.ldc2_w 209, 3) := by decide +kernel
theorem dX12_best_31 : decode bX12_best 31 = .ok (.invokestatic 75, 3) := by decide +kernel
theorem dX12_best_34 : decode bX12_best 34 = .ok (.ifCond .ne 5, 3) := by decide +kernel
theorem dX12_best_37 : decode bX12_best 37 = .ok (.iconst (-1), 1) := by decide +kernel
theorem dX12_best_38 : decode bX12_best 38 = .ok (.ireturn, 1) := by decide +kernel
theorem dX12_best_39 : decode bX12_best 39 = .ok (.aload_n 0, 1) := by decide +kernel
theorem dX12_best_40 : decode bX12_best 40 = .ok (.aload_n 0, 1) := by decide +kernel
theorem dX12_best_41 : decode bX12_best 41 = .ok (.iload_n 1, 1) := by decide +kernel
theorem dX12_best_42 : decode bX12_best 42 = .ok (.invokevirtual 141, 3) := by decide +kernel
theorem dX12_best_45 : decode bX12_best 45 = .ok (.iload_n 2, 1) := by decide +kernel
theorem dX12_best_46 : decode bX12_best 46 = .ok (.aload_n 0, 1) := by decide +kernel
theorem dX12_best_47 : decode bX12_best 47 = .ok (.getfield 13, 3) := by decide +kernel
theorem dX12_best_50 : decode bX12_best 50 = .ok (.iconst 2, 1) := by decide +kernel
theorem dX12_best_51 : decode bX12_best 51 = .ok (.iaload, 1) := by decide +kernel
theorem dX12_best_52 : decode bX12_best 52 = .ok (.invokevirtual 191, 3) := by decide +kernel
theorem dX12_best_55 : decode bX12_best 55 = .ok (.istore 4, 2) := by decide +kernel
theorem dX12_best_57 : decode bX12_best 57 = .ok (.iload 4, 2) := by decide +kernel
theorem dX12_best_59 : decode bX12_best 59 = .ok (.bipush (-4), 2) := by decide +kernel
theorem dX12_best_61 : decode bX12_best 61 = .ok (.if_icmp .ne 6, 3) := by decide +kernel
theorem dX12_best_64 : decode bX12_best 64 = .ok (.bipush (-4), 2) := by decide +kernel
theorem dX12_best_66 : decode bX12_best 66 = .ok (.ireturn, 1) := by decide +kernel
theorem dX12_best_67 : decode bX12_best 67 = .ok (.iload_n 3, 1) := by decide +kernel
theorem dX12_best_68 : decode bX12_best 68 = .ok (.ifCond .ne 12, 3) := by decide +kernel
theorem dX12_best_71 : decode bX12_best 71 = .ok (.iload 4, 2) := by decide +kernel
theorem dX12_best_73 : decode bX12_best 73 = .ok (.sipush 1000, 3) := by decide +kernel
theorem dX12_best_76 : decode bX12_best 76 = .ok (.idiv, 1) := by decide +kernel
theorem dX12_best_77 : decode bX12_best 77 = .ok (.goto 45, 3) := by decide +kernel
theorem dX12_best_80 : decode bX12_best 80 = .ok (.iload_n 3, 1) := by decide +kernel
theorem dX12_best_81 : decode bX12_best 81 = .ok (.iconst 1, 1) := by decide +kernel
theorem dX12_best_82 : decode bX12_best 82 = .ok (.if_icmp .ne 12, 3) := by decide +kernel
theorem dX12_best_85 : decode bX12_best 85 = .ok (.iload 4, 2) := by decide +kernel
theorem dX12_best_87 : decode bX12_best 87 = .ok (.sipush 1000, 3) := by decide +kernel
theorem dX12_best_90 : decode bX12_best 90 = .ok (.irem, 1) := by decide +kernel
theorem dX12_best_91 : decode bX12_best 91 = .ok (.goto 31, 3) := by decide +kernel
theorem dX12_best_94 : decode bX12_best 94 = .ok (.iload_n 3, 1) := by decide +kernel
theorem dX12_best_95 : decode bX12_best 95 = .ok (.iconst 2, 1) := by decide +kernel
theorem dX12_best_96 : decode bX12_best 96 = .ok (.if_icmp .ne 10, 3) := by decide +kernel
theorem dX12_best_99 : decode bX12_best 99 = .ok (.aload_n 0, 1) := by decide +kernel
theorem dX12_best_100 : decode bX12_best 100 = .ok (.getfield 178, 3) := by decide +kernel
theorem dX12_best_103 : decode bX12_best 103 = .ok (.goto 19, 3) := by decide +kernel
theorem dX12_best_106 : decode bX12_best 106 = .ok (.iload_n 3, 1) := by decide +kernel
theorem dX12_best_107 : decode bX12_best 107 = .ok (.iconst 3, 1) := by decide +kernel
theorem dX12_best_108 : decode bX12_best 108 = .ok (.if_icmp .ne 10, 3) := by decide +kernel
theorem dX12_best_111 : decode bX12_best 111 = .ok (.aload_n 0, 1) := by decide +kernel
theorem dX12_best_112 : decode bX12_best 112 = .ok (.getfield 181, 3) := by decide +kernel
theorem dX12_best_115 : decode bX12_best 115 = .ok (.goto 7, 3) := by decide +kernel
theorem dX12_best_118 : decode bX12_best 118 = .ok (.aload_n 0, 1) := by decide +kernel
theorem dX12_best_119 : decode bX12_best 119 = .ok (.getfield 184, 3) := by decide +kernel
theorem dX12_best_122 : decode bX12_best 122 = .ok (.ireturn, 1) := by decide +kernel
section
variable {p : Program} {l : Launch} {e : Env} {s : State} {m : MethodId} {args : Array Value} {below : List Frame} {meth : Method} {c : Code} {G : GG} {n : Nat} {h' : Hp} {rv : Int32}
set_option maxHeartbeats 4000000
set_option maxRecDepth 100000
theorem k_X12_best (l : Launch) (G : GG) (n : Nat) (hN : NT ≤ n) {h h' : Hp} {x0 : Nat} {x1 : Int32} {x2 : Int32} {x3 : Int32} {rv : Int32} (hf : f_X12_best h x0 x1 x2 x3 = some (rv, h')) : CT l G n n yX12_best (.code yX12_best bX12_best 5 (some .int)) 5 0 0 [.ref (bs G + x0), .int x1, .int x2, .int x3] h h' (some (.int rv)) := by
  refine ct_of (maxL := 5) (ret := (some .int)) (bytes := bX12_best) (by decide) (Nat.le_of_ble_eq_true rfl) (fun p e s m below meth c C0 X ls hl => ?_)
  have hl : lv_has ls 5 [(0, .ref (bs G + x0)), (1, .int x1), (2, .int x2), (3, .int x3)] := hl
  obtain ⟨hx, hb, hr, hml, hown, hts, hK, hlocks, hnm⟩ := id C0
  unfold f_X12_best at hf
  obtain ⟨o0, hf⟩ := gd_e hf
  refine lv_aload_n hx hb dX12_best_0 rfl (lv_at hl 0 rfl) ?_
  refine lv_iconst (v := (0 : Int32)) hx hb dX12_best_1 (by decide) ?_
  refine g_PI hx hb hts hown hK X o0 hN fl_X12_1 ft_12_0 (by decide) rfl dX12_best_2 (fun H locs X => ?_)
  obtain ⟨h1, e2, hf⟩ := lt_e hf
  rw [← e2] at X
  refine lv_aload_n hx hb dX12_best_5 rfl (lv_at hl 0 rfl) ?_
  refine lv_iload_n hx hb dX12_best_6 rfl (lv_at hl 1 rfl) ?_
  obtain ⟨r3, h4, q5, hf⟩ := bd_e hf
  refine c_V0 (As := [.int x1]) (rest := []) (st1 := [.int r3]) hx hb hml hown hts hK X (k_X12_noOne l G n hN q5) o0 hN lc_X12_noOne lv_X12_138 (ci := 12) rfl rfl (by decide) rfl hl.1 (Nat.le_of_ble_eq_true rfl) dX12_best_7 rfl (fun H locs X => ?_)
  refine lv_if_ne (tgt := 37) hx hb dX12_best_10 (by decide) (fun c10 => ?_) (fun c10 => ?_)
  · have hf := ite_f hf c10
    refine lv_iconst (v := (-1 : Int32)) hx hb dX12_best_37 (by decide) ?_
    exact r_I hx hb hr hlocks X hf dX12_best_38
  · have hf := ite_t hf c10
    refine lv_iload_n hx hb dX12_best_13 rfl (lv_at hl 2 rfl) ?_
    refine lv_i2l hx hb dX12_best_14 rfl ?_
    refine lv_lconst (v := 1) hx hb dX12_best_15 (by decide) ?_
    refine lv_ldc2 hx hb hown (hts _ cn_X12_207) dX12_best_16 ?_
    obtain ⟨r6, h7, q8, hf⟩ := bd_e hf
    refine c_S0 (As := [.long x2.toInt64, .long (1 : Int64), .long (99 : Int64)]) (rest := []) (st1 := [.int r6]) hx hb hml hown hts hK X (k_X12_in l G n hN q8) lc_X12_in ls_X12_75 (by decide) rfl hl.1 (Nat.le_of_ble_eq_true rfl) dX12_best_19 rfl (fun H locs X => ?_)
    refine lv_if_eq (tgt := 37) hx hb dX12_best_22 (by decide) (fun c22 => ?_) (fun c22 => ?_)
    · have hf := ite_t hf c22
      refine lv_iconst (v := (-1 : Int32)) hx hb dX12_best_37 (by decide) ?_
      exact r_I hx hb hr hlocks X hf dX12_best_38
    · have hf := ite_f hf c22
      refine lv_iload_n hx hb dX12_best_25 rfl (lv_at hl 3 rfl) ?_
      refine lv_i2l hx hb dX12_best_26 rfl ?_
      refine lv_lconst (v := 0) hx hb dX12_best_27 (by decide) ?_
      refine lv_ldc2 hx hb hown (hts _ cn_X12_209) dX12_best_28 ?_
      obtain ⟨r9, h10, q11, hf⟩ := bd_e hf
      refine c_S0 (As := [.long x3.toInt64, .long (0 : Int64), .long (4 : Int64)]) (rest := []) (st1 := [.int r9]) hx hb hml hown hts hK X (k_X12_in l G n hN q11) lc_X12_in ls_X12_75 (by decide) rfl hl.1 (Nat.le_of_ble_eq_true rfl) dX12_best_31 rfl (fun H locs X => ?_)
      refine lv_if_ne (tgt := 39) hx hb dX12_best_34 (by decide) (fun c34 => ?_) (fun c34 => ?_)
      · have hf := ite_f hf c34
        refine lv_aload_n hx hb dX12_best_39 rfl (lv_at hl 0 rfl) ?_
        refine lv_aload_n hx hb dX12_best_40 rfl (lv_at hl 0 rfl) ?_
        refine lv_iload_n hx hb dX12_best_41 rfl (lv_at hl 1 rfl) ?_
        obtain ⟨r12, h13, q14, hf⟩ := bd_e hf
        refine c_V0 (As := [.int x1]) (rest := [.ref (bs G + x0)]) (st1 := [.int r12, .ref (bs G + x0)]) hx hb hml hown hts hK X (k_X12_mayOf l G n hN q14) o0 hN lc_X12_mayOf lv_X12_141 (ci := 12) rfl rfl (by decide) rfl hl.1 (Nat.le_of_ble_eq_true rfl) dX12_best_42 rfl (fun H locs X => ?_)
        refine lv_iload_n hx hb dX12_best_45 rfl (lv_at hl 2 rfl) ?_
        refine lv_aload_n hx hb dX12_best_46 rfl (lv_at hl 0 rfl) ?_
        obtain ⟨g15, hf⟩ := gd_e hf
        refine g_R hx hb hts hown hK X o0 hN g15 fl_X12_13 (by decide) rfl (by decide) dX12_best_47 ?_
        refine lv_iconst (v := (2 : Int32)) hx hb dX12_best_50 (by decide) ?_
        obtain ⟨g16, hf⟩ := gd_e hf
        refine g_ia hx hb hK X g15 hN g16 (by decide) dX12_best_51 ?_
        obtain ⟨r17, h18, q19, hf⟩ := bd_e hf
        refine c_V0 (As := [.int r12, .int x2, .int (h13.1 (h13.2 x0 1) (2 : Int32).toNatClampNeg)]) (rest := []) (st1 := [.int r17]) hx hb hml hown hts hK X (k_X12_bestOf l G n hN q19) o0 hN lc_X12_bestOf lv_X12_191 (ci := 12) rfl rfl (by decide) rfl hl.1 (Nat.le_of_ble_eq_true rfl) dX12_best_52 rfl (fun H locs X => ?_)
        refine lv_istore (lv' := [(4, .int r17), (0, .ref (bs G + x0)), (1, .int x1), (2, .int x2), (3, .int x3)]) hx hb dX12_best_55 hl (by decide) rfl (fun ls hl => ?_)
        refine lv_iload hx hb dX12_best_57 (lv_at hl 0 rfl) ?_
        refine lv_bipush (v := (-4 : Int32)) hx hb dX12_best_59 (by decide) ?_
        refine lv_icmp_ne (tgt := 67) hx hb dX12_best_61 (by decide) (fun c61 => ?_) (fun c61 => ?_)
        · have hf := ite_f hf c61
          refine lv_iload_n hx hb dX12_best_67 rfl (lv_at hl 4 rfl) ?_
          refine lv_if_ne (tgt := 80) hx hb dX12_best_68 (by decide) (fun c68 => ?_) (fun c68 => ?_)
          · have hf := ite_f hf c68
            refine lv_iload_n hx hb dX12_best_80 rfl (lv_at hl 4 rfl) ?_
            refine lv_iconst (v := (1 : Int32)) hx hb dX12_best_81 (by decide) ?_
            refine lv_icmp_ne (tgt := 94) hx hb dX12_best_82 (by decide) (fun c82 => ?_) (fun c82 => ?_)
            · have hf := ite_f hf c82
              refine lv_iload_n hx hb dX12_best_94 rfl (lv_at hl 4 rfl) ?_
              refine lv_iconst (v := (2 : Int32)) hx hb dX12_best_95 (by decide) ?_
              refine lv_icmp_ne (tgt := 106) hx hb dX12_best_96 (by decide) (fun c96 => ?_) (fun c96 => ?_)
              · have hf := ite_f hf c96
                refine lv_iload_n hx hb dX12_best_106 rfl (lv_at hl 4 rfl) ?_
                refine lv_iconst (v := (3 : Int32)) hx hb dX12_best_107 (by decide) ?_
                refine lv_icmp_ne (tgt := 118) hx hb dX12_best_108 (by decide) (fun c108 => ?_) (fun c108 => ?_)
                · have hf := ite_f hf c108
                  refine lv_aload_n hx hb dX12_best_118 rfl (lv_at hl 1 rfl) ?_
                  refine g_I hx hb hts hown hK X o0 hN fl_X12_184 (by decide) rfl dX12_best_119 ?_
                  exact r_I hx hb hr hlocks X hf dX12_best_122
                · have hf := ite_t hf c108
                  refine lv_aload_n hx hb dX12_best_111 rfl (lv_at hl 1 rfl) ?_
                  refine g_I hx hb hts hown hK X o0 hN fl_X12_181 (by decide) rfl dX12_best_112 ?_
                  refine lv_goto (tgt := 122) hx hb dX12_best_115 (by decide) ?_
                  exact r_I hx hb hr hlocks X hf dX12_best_122
              · have hf := ite_t hf c96
                refine lv_aload_n hx hb dX12_best_99 rfl (lv_at hl 1 rfl) ?_
                refine g_I hx hb hts hown hK X o0 hN fl_X12_178 (by decide) rfl dX12_best_100 ?_
                refine lv_goto (tgt := 122) hx hb dX12_best_103 (by decide) ?_
                exact r_I hx hb hr hlocks X hf dX12_best_122
            · have hf := ite_t hf c82
              refine lv_iload hx hb dX12_best_85 (lv_at hl 0 rfl) ?_
              refine lv_sipush (v := (1000 : Int32)) hx hb dX12_best_87 (by decide) ?_
              refine lv_irem hx hb dX12_best_90 (by decide) ?_
              refine lv_goto (tgt := 122) hx hb dX12_best_91 (by decide) ?_
              exact r_I hx hb hr hlocks X hf dX12_best_122
          · have hf := ite_t hf c68
            refine lv_iload hx hb dX12_best_71 (lv_at hl 0 rfl) ?_
            refine lv_sipush (v := (1000 : Int32)) hx hb dX12_best_73 (by decide) ?_
            refine lv_idiv hx hb dX12_best_76 (by decide) ?_
            refine lv_goto (tgt := 122) hx hb dX12_best_77 (by decide) ?_
            exact r_I hx hb hr hlocks X hf dX12_best_122
        · have hf := ite_t hf c61
          refine lv_bipush (v := (-4 : Int32)) hx hb dX12_best_64 (by decide) ?_
          exact r_I hx hb hr hlocks X hf dX12_best_66
      · have hf := ite_t hf c34
        refine lv_iconst (v := (-1 : Int32)) hx hb dX12_best_37 (by decide) ?_
        exact r_I hx hb hr hlocks X hf dX12_best_38
end
theorem dX12_stuckOf_0 : decode bX12_stuckOf 0 = .ok (.iload_n 2, 1) := by decide +kernel
theorem dX12_stuckOf_1 : decode bX12_stuckOf 1 = .ok (.istore 4, 2) := by decide +kernel
theorem dX12_stuckOf_3 : decode bX12_stuckOf 3 = .ok (.iconst 0, 1) := by decide +kernel
theorem dX12_stuckOf_4 : decode bX12_stuckOf 4 = .ok (.istore 5, 2) := by decide +kernel
theorem dX12_stuckOf_6 : decode bX12_stuckOf 6 = .ok (.iconst 0, 1) := by decide +kernel
theorem dX12_stuckOf_7 : decode bX12_stuckOf 7 = .ok (.istore 6, 2) := by decide +kernel
theorem dX12_stuckOf_9 : decode bX12_stuckOf 9 = .ok (.iload 6, 2) := by decide +kernel
theorem dX12_stuckOf_11 : decode bX12_stuckOf 11 = .ok (.aload_n 0, 1) := by decide +kernel
theorem dX12_stuckOf_12 : decode bX12_stuckOf 12 = .ok (.getfield 13, 3) := by decide +kernel
theorem dX12_stuckOf_15 : decode bX12_stuckOf 15 = .ok (.iconst 1, 1) := by decide +kernel
theorem dX12_stuckOf_16 : decode bX12_stuckOf 16 = .ok (.iaload, 1) := by decide +kernel
theorem dX12_stuckOf_17 : decode bX12_stuckOf 17 = .ok (.if_icmp .ge 65, 3) := by decide +kernel
theorem dX12_stuckOf_20 : decode bX12_stuckOf 20 = .ok (.iload_n 1, 1) := by decide +kernel
theorem dX12_stuckOf_21 : decode bX12_stuckOf 21 = .ok (.iload 6, 2) := by decide +kernel
theorem dX12_stuckOf_23 : decode bX12_stuckOf 23 = .ok (.invokestatic 170, 3) := by decide +kernel
theorem dX12_stuckOf_26 : decode bX12_stuckOf 26 = .ok (.ifCond .eq 50, 3) := by decide +kernel
theorem dX12_stuckOf_29 : decode bX12_stuckOf 29 = .ok (.aload_n 0, 1) := by decide +kernel
theorem dX12_stuckOf_30 : decode bX12_stuckOf 30 = .ok (.iload 6, 2) := by decide +kernel
theorem dX12_stuckOf_32 : decode bX12_stuckOf 32 = .ok (.iload 4, 2) := by decide +kernel
theorem dX12_stuckOf_34 : decode bX12_stuckOf 34 = .ok (.iload_n 3, 1) := by decide +kernel
theorem dX12_stuckOf_35 : decode bX12_stuckOf 35 = .ok (.invokevirtual 211, 3) := by decide +kernel
theorem dX12_stuckOf_38 : decode bX12_stuckOf 38 = .ok (.istore 7, 2) := by decide +kernel
theorem dX12_stuckOf_40 : decode bX12_stuckOf 40 = .ok (.iload 4, 2) := by decide +kernel
theorem dX12_stuckOf_42 : decode bX12_stuckOf 42 = .ok (.iload 7, 2) := by decide +kernel
theorem dX12_stuckOf_44 : decode bX12_stuckOf 44 = .ok (.ifCond .eq 10, 3) := by decide +kernel
theorem dX12_stuckOf_47 : decode bX12_stuckOf 47 = .ok (.aload_n 0, 1) := by decide +kernel
theorem dX12_stuckOf_48 : decode bX12_stuckOf 48 = .ok (.invokevirtual 201, 3) := by decide +kernel
theorem dX12_stuckOf_51 : decode bX12_stuckOf 51 = .ok (.goto 4, 3) := by decide +kernel
theorem dX12_stuckOf_54 : decode bX12_stuckOf 54 = .ok (.iconst 0, 1) := by decide +kernel
theorem dX12_stuckOf_55 : decode bX12_stuckOf 55 = .ok (.ior, 1) := by decide +kernel
theorem dX12_stuckOf_56 : decode bX12_stuckOf 56 = .ok (.istore 4, 2) := by decide +kernel
theorem dX12_stuckOf_58 : decode bX12_stuckOf 58 = .ok (.iload 5, 2) := by decide +kernel
theorem dX12_stuckOf_60 : decode bX12_stuckOf 60 = .ok (.iload 7, 2) := by decide +kernel
theorem dX12_stuckOf_62 : decode bX12_stuckOf 62 = .ok (.ifCond .eq 7, 3) := by decide +kernel
theorem dX12_stuckOf_65 : decode bX12_stuckOf 65 = .ok (.iconst 0, 1) := by decide +kernel
theorem dX12_stuckOf_66 : decode bX12_stuckOf 66 = .ok (.goto 7, 3) := by decide +kernel
theorem dX12_stuckOf_69 : decode bX12_stuckOf 69 = .ok (.iconst 1, 1) := by decide +kernel
theorem dX12_stuckOf_70 : decode bX12_stuckOf 70 = .ok (.iload 6, 2) := by decide +kernel
theorem dX12_stuckOf_72 : decode bX12_stuckOf 72 = .ok (.ishl, 1) := by decide +kernel
theorem dX12_stuckOf_73 : decode bX12_stuckOf 73 = .ok (.ior, 1) := by decide +kernel
theorem dX12_stuckOf_74 : decode bX12_stuckOf 74 = .ok (.istore 5, 2) := by decide +kernel
theorem dX12_stuckOf_76 : decode bX12_stuckOf 76 = .ok (.iinc 6 1, 3) := by decide +kernel
theorem dX12_stuckOf_79 : decode bX12_stuckOf 79 = .ok (.goto (-70), 3) := by decide +kernel
theorem dX12_stuckOf_82 : decode bX12_stuckOf 82 = .ok (.iload 5, 2) := by decide +kernel
theorem dX12_stuckOf_84 : decode bX12_stuckOf 84 = .ok (.ireturn, 1) := by decide +kernel
section
variable {p : Program} {l : Launch} {e : Env} {s : State} {m : MethodId} {args : Array Value} {below : List Frame} {meth : Method} {c : Code} {G : GG} {n : Nat} {h' : Hp} {rv : Int32}
set_option maxHeartbeats 4000000
set_option maxRecDepth 100000
theorem j_X12_stuckOf_55 (C0 : Cx p s m args meth c G bX12_stuckOf RX12 8 (some .int) "stuckOf") (hN : NT ≤ n) {k9 : Hp → Nat → Int32 → Int32 → Int32 → Int32 → Int32 → Option (Int32 × Hp)} (ih9 : ∀ {H : Heap} {locs : List Loc} {ls : Array Slot} {h : Hp} {x0 : Nat} {x1 : Int32} {x3 : Int32} {x4 : Int32} {x5 : Int32} {x6 : Int32}, XW G n h s 0 H locs → lv_has ls 8 [(0, .ref (bs G + x0)), (1, .int x1), (3, .int x3), (4, .int x4), (5, .int x5), (6, .int x6)] → kd x0 = 12 → k9 h x0 x1 x3 x4 x5 x6 = some (rv, h') → W p l e (rmC 6 0 0) s m args below meth c H locs 0 0 (MQ below (QP G n h' (some (.int rv))) args s 0 0 (Ab G)) (F0 m 9 ls [])) {H : Heap} {locs : List Loc} {ls : Array Slot} {h : Hp} {x0 : Nat} {x1 : Int32} {x3 : Int32} {x5 : Int32} {x6 : Int32} {x7 : Int32} {t0 : Int32} {t1 : Int32} (X : XW G n h s 0 H locs) (hl : lv_has ls 8 [(0, .ref (bs G + x0)), (1, .int x1), (3, .int x3), (5, .int x5), (6, .int x6), (7, .int x7)]) (o0 : kd x0 = 12) (hf : f_X12_stuckOf_55 k9 h x0 x1 x3 x5 x6 x7 t0 t1 = some (rv, h')) : W p l e (rmC 6 0 0) s m args below meth c H locs 0 0 (MQ below (QP G n h' (some (.int rv))) args s 0 0 (Ab G)) (F0 m 55 ls [.int t1, .int t0]) := by
  obtain ⟨hx, hb, hr, hml, hown, hts, hK, hlocks, hnm⟩ := id C0
  unfold f_X12_stuckOf_55 at hf
  refine lv_ior hx hb dX12_stuckOf_55 ?_
  refine lv_istore (lv' := [(4, .int (t0 ||| t1)), (0, .ref (bs G + x0)), (1, .int x1), (3, .int x3), (5, .int x5), (6, .int x6), (7, .int x7)]) hx hb dX12_stuckOf_56 hl (by decide) rfl (fun ls hl => ?_)
  refine lv_iload hx hb dX12_stuckOf_58 (lv_at hl 4 rfl) ?_
  refine lv_iload hx hb dX12_stuckOf_60 (lv_at hl 6 rfl) ?_
  refine lv_if_eq (tgt := 69) hx hb dX12_stuckOf_62 (by decide) (fun c62 => ?_) (fun c62 => ?_)
  · have hf := ite_t hf c62
    refine lv_iconst (v := (1 : Int32)) hx hb dX12_stuckOf_69 (by decide) ?_
    refine lv_iload hx hb dX12_stuckOf_70 (lv_at hl 5 rfl) ?_
    refine lv_ishl hx hb dX12_stuckOf_72 ?_
    refine lv_ior hx hb dX12_stuckOf_73 ?_
    refine lv_istore (lv' := [(5, .int (x5 ||| ((1 : Int32) <<< (x6 &&& 31)))), (4, .int (t0 ||| t1)), (0, .ref (bs G + x0)), (1, .int x1), (3, .int x3), (6, .int x6), (7, .int x7)]) hx hb dX12_stuckOf_74 hl (by decide) rfl (fun ls hl => ?_)
    refine lv_iinc (v := (x6 + (1 : Int32))) (lv' := [(6, .int (x6 + (1 : Int32))), (5, .int (x5 ||| ((1 : Int32) <<< (x6 &&& 31)))), (4, .int (t0 ||| t1)), (0, .ref (bs G + x0)), (1, .int x1), (3, .int x3), (7, .int x7)]) hx hb dX12_stuckOf_76 hl (k := 5) rfl rfl (by decide) rfl (fun ls hl => ?_)
    refine lv_goto (tgt := 9) hx hb dX12_stuckOf_79 (by decide) ?_
    exact ih9 X (lv_sub hl [3, 4, 5, 2, 1, 0] rfl) o0 hf
  · have hf := ite_f hf c62
    refine lv_iconst (v := (0 : Int32)) hx hb dX12_stuckOf_65 (by decide) ?_
    refine lv_goto (tgt := 73) hx hb dX12_stuckOf_66 (by decide) ?_
    refine lv_ior hx hb dX12_stuckOf_73 ?_
    refine lv_istore (lv' := [(5, .int (x5 ||| (0 : Int32))), (4, .int (t0 ||| t1)), (0, .ref (bs G + x0)), (1, .int x1), (3, .int x3), (6, .int x6), (7, .int x7)]) hx hb dX12_stuckOf_74 hl (by decide) rfl (fun ls hl => ?_)
    refine lv_iinc (v := (x6 + (1 : Int32))) (lv' := [(6, .int (x6 + (1 : Int32))), (5, .int (x5 ||| (0 : Int32))), (4, .int (t0 ||| t1)), (0, .ref (bs G + x0)), (1, .int x1), (3, .int x3), (7, .int x7)]) hx hb dX12_stuckOf_76 hl (k := 5) rfl rfl (by decide) rfl (fun ls hl => ?_)
    refine lv_goto (tgt := 9) hx hb dX12_stuckOf_79 (by decide) ?_
    exact ih9 X (lv_sub hl [3, 4, 5, 2, 1, 0] rfl) o0 hf
theorem j_X12_stuckOf_9 (C0 : Cx p s m args meth c G bX12_stuckOf RX12 8 (some .int) "stuckOf") (hN : NT ≤ n) : ∀ (fu : Nat), ∀ {H : Heap} {locs : List Loc} {ls : Array Slot} {h : Hp} {x0 : Nat} {x1 : Int32} {x3 : Int32} {x4 : Int32} {x5 : Int32} {x6 : Int32}, XW G n h s 0 H locs → lv_has ls 8 [(0, .ref (bs G + x0)), (1, .int x1), (3, .int x3), (4, .int x4), (5, .int x5), (6, .int x6)] → kd x0 = 12 → f_X12_stuckOf_9 fu h x0 x1 x3 x4 x5 x6 = some (rv, h') → W p l e (rmC 6 0 0) s m args below meth c H locs 0 0 (MQ below (QP G n h' (some (.int rv))) args s 0 0 (Ab G)) (F0 m 9 ls []) := by
  obtain ⟨hx, hb, hr, hml, hown, hts, hK, hlocks, hnm⟩ := id C0
  intro fu
  induction fu with
  | zero => intro H locs ls h x0 x1 x3 x4 x5 x6 X hl o0 hf; cases hf
  | succ fu ih =>
    intro H locs ls h x0 x1 x3 x4 x5 x6 X hl o0 hf
    rw [f_X12_stuckOf_9] at hf
    refine lv_iload hx hb dX12_stuckOf_9 (lv_at hl 5 rfl) ?_
    refine lv_aload_n hx hb dX12_stuckOf_11 rfl (lv_at hl 0 rfl) ?_
    obtain ⟨g1, hf⟩ := gd_e hf
    refine g_R hx hb hts hown hK X o0 hN g1 fl_X12_13 (by decide) rfl (by decide) dX12_stuckOf_12 ?_
    refine lv_iconst (v := (1 : Int32)) hx hb dX12_stuckOf_15 (by decide) ?_
    obtain ⟨g2, hf⟩ := gd_e hf
    refine g_ia hx hb hK X g1 hN g2 (by decide) dX12_stuckOf_16 ?_
    refine lv_icmp_ge (tgt := 82) hx hb dX12_stuckOf_17 (by decide) (fun c17 => ?_) (fun c17 => ?_)
    · have hf := ite_t hf c17
      refine lv_iload hx hb dX12_stuckOf_82 (lv_at hl 4 rfl) ?_
      exact r_I hx hb hr hlocks X hf dX12_stuckOf_84
    · have hf := ite_f hf c17
      refine lv_iload_n hx hb dX12_stuckOf_20 rfl (lv_at hl 1 rfl) ?_
      refine lv_iload hx hb dX12_stuckOf_21 (lv_at hl 5 rfl) ?_
      obtain ⟨r3, h4, q5, hf⟩ := bd_e hf
      refine c_S0 (As := [.int x1, .int x6]) (rest := []) (st1 := [.int r3]) hx hb hml hown hts hK X (k_X12_has l G n hN q5) lc_X12_has ls_X12_170 (by decide) rfl hl.1 (Nat.le_of_ble_eq_true rfl) dX12_stuckOf_23 rfl (fun H locs X => ?_)
      refine lv_if_eq (tgt := 76) hx hb dX12_stuckOf_26 (by decide) (fun c26 => ?_) (fun c26 => ?_)
      · have hf := ite_t hf c26
        refine lv_iinc (v := (x6 + (1 : Int32))) (lv' := [(6, .int (x6 + (1 : Int32))), (0, .ref (bs G + x0)), (1, .int x1), (3, .int x3), (4, .int x4), (5, .int x5)]) hx hb dX12_stuckOf_76 hl (k := 5) rfl rfl (by decide) rfl (fun ls hl => ?_)
        refine lv_goto (tgt := 9) hx hb dX12_stuckOf_79 (by decide) ?_
        exact ih X (lv_sub hl [1, 2, 3, 4, 5, 0] rfl) o0 hf
      · have hf := ite_f hf c26
        refine lv_aload_n hx hb dX12_stuckOf_29 rfl (lv_at hl 0 rfl) ?_
        refine lv_iload hx hb dX12_stuckOf_30 (lv_at hl 5 rfl) ?_
        refine lv_iload hx hb dX12_stuckOf_32 (lv_at hl 3 rfl) ?_
        refine lv_iload_n hx hb dX12_stuckOf_34 rfl (lv_at hl 2 rfl) ?_
        obtain ⟨r6, h7, q8, hf⟩ := bd_e hf
        refine c_V0 (As := [.int x6, .int x4, .int x3]) (rest := []) (st1 := [.int r6]) hx hb hml hown hts hK X (k_X12_hasBest l G n hN q8) o0 hN lc_X12_hasBest lv_X12_211 (ci := 12) rfl rfl (by decide) rfl hl.1 (Nat.le_of_ble_eq_true rfl) dX12_stuckOf_35 rfl (fun H locs X => ?_)
        refine lv_istore (lv' := [(7, .int r6), (0, .ref (bs G + x0)), (1, .int x1), (3, .int x3), (4, .int x4), (5, .int x5), (6, .int x6)]) hx hb dX12_stuckOf_38 hl (by decide) rfl (fun ls hl => ?_)
        refine lv_iload hx hb dX12_stuckOf_40 (lv_at hl 4 rfl) ?_
        refine lv_iload hx hb dX12_stuckOf_42 (lv_at hl 0 rfl) ?_
        refine lv_if_eq (tgt := 54) hx hb dX12_stuckOf_44 (by decide) (fun c44 => ?_) (fun c44 => ?_)
        · have hf := ite_t hf c44
          refine lv_iconst (v := (0 : Int32)) hx hb dX12_stuckOf_54 (by decide) ?_
          exact j_X12_stuckOf_55 C0 hN @ih X (lv_sub hl [1, 2, 3, 5, 6, 0] rfl) o0 hf
        · have hf := ite_f hf c44
          refine lv_aload_n hx hb dX12_stuckOf_47 rfl (lv_at hl 1 rfl) ?_
          obtain ⟨r9, h10, q11, hf⟩ := bd_e hf
          refine c_V0 (As := []) (rest := [.int x4]) (st1 := [.int r9, .int x4]) hx hb hml hown hts hK X (k_X12_usedSet l G n hN q11) o0 hN lc_X12_usedSet lv_X12_201 (ci := 12) rfl rfl (by decide) rfl hl.1 (Nat.le_of_ble_eq_true rfl) dX12_stuckOf_48 rfl (fun H locs X => ?_)
          refine lv_goto (tgt := 55) hx hb dX12_stuckOf_51 (by decide) ?_
          exact j_X12_stuckOf_55 C0 hN @ih X (lv_sub hl [1, 2, 3, 5, 6, 0] rfl) o0 hf
theorem k_X12_stuckOf (l : Launch) (G : GG) (n : Nat) (hN : NT ≤ n) {h h' : Hp} {x0 : Nat} {x1 : Int32} {x2 : Int32} {x3 : Int32} {rv : Int32} (hf : f_X12_stuckOf h x0 x1 x2 x3 = some (rv, h')) : CT l G n n yX12_stuckOf (.code yX12_stuckOf bX12_stuckOf 8 (some .int)) 6 0 0 [.ref (bs G + x0), .int x1, .int x2, .int x3] h h' (some (.int rv)) := by
  refine ct_of (maxL := 8) (ret := (some .int)) (bytes := bX12_stuckOf) (by decide) (Nat.le_of_ble_eq_true rfl) (fun p e s m below meth c C0 X ls hl => ?_)
  have hl : lv_has ls 8 [(0, .ref (bs G + x0)), (1, .int x1), (2, .int x2), (3, .int x3)] := hl
  obtain ⟨hx, hb, hr, hml, hown, hts, hK, hlocks, hnm⟩ := id C0
  unfold f_X12_stuckOf at hf
  obtain ⟨o0, hf⟩ := gd_e hf
  refine lv_iload_n hx hb dX12_stuckOf_0 rfl (lv_at hl 2 rfl) ?_
  refine lv_istore (lv' := [(4, .int x2), (0, .ref (bs G + x0)), (1, .int x1), (2, .int x2), (3, .int x3)]) hx hb dX12_stuckOf_1 hl (by decide) rfl (fun ls hl => ?_)
  refine lv_iconst (v := (0 : Int32)) hx hb dX12_stuckOf_3 (by decide) ?_
  refine lv_istore (lv' := [(5, .int (0 : Int32)), (4, .int x2), (0, .ref (bs G + x0)), (1, .int x1), (2, .int x2), (3, .int x3)]) hx hb dX12_stuckOf_4 hl (by decide) rfl (fun ls hl => ?_)
  refine lv_iconst (v := (0 : Int32)) hx hb dX12_stuckOf_6 (by decide) ?_
  refine lv_istore (lv' := [(6, .int (0 : Int32)), (5, .int (0 : Int32)), (4, .int x2), (0, .ref (bs G + x0)), (1, .int x1), (2, .int x2), (3, .int x3)]) hx hb dX12_stuckOf_7 hl (by decide) rfl (fun ls hl => ?_)
  exact j_X12_stuckOf_9 C0 hN FU X (lv_sub hl [3, 4, 6, 2, 1, 0] rfl) o0 hf
end
theorem dX12_silent_0 : decode bX12_silent 0 = .ok (.iconst 1, 1) := by decide +kernel
theorem dX12_silent_1 : decode bX12_silent 1 = .ok (.aload_n 0, 1) := by decide +kernel
theorem dX12_silent_2 : decode bX12_silent 2 = .ok (.getfield 13, 3) := by decide +kernel
theorem dX12_silent_5 : decode bX12_silent 5 = .ok (.iconst 1, 1) := by decide +kernel
theorem dX12_silent_6 : decode bX12_silent 6 = .ok (.iaload, 1) := by decide +kernel
theorem dX12_silent_7 : decode bX12_silent 7 = .ok (.ishl, 1) := by decide +kernel
theorem dX12_silent_8 : decode bX12_silent 8 = .ok (.iconst 1, 1) := by decide +kernel
theorem dX12_silent_9 : decode bX12_silent 9 = .ok (.isub, 1) := by decide +kernel
theorem dX12_silent_10 : decode bX12_silent 10 = .ok (.aload_n 0, 1) := by decide +kernel
theorem dX12_silent_11 : decode bX12_silent 11 = .ok (.getfield 20, 3) := by decide +kernel
theorem dX12_silent_14 : decode bX12_silent 14 = .ok (.iconst 2, 1) := by decide +kernel
theorem dX12_silent_15 : decode bX12_silent 15 = .ok (.iaload, 1) := by decide +kernel
theorem dX12_silent_16 : decode bX12_silent 16 = .ok (.iconst (-1), 1) := by decide +kernel
theorem dX12_silent_17 : decode bX12_silent 17 = .ok (.ixor, 1) := by decide +kernel
theorem dX12_silent_18 : decode bX12_silent 18 = .ok (.iand, 1) := by decide +kernel
theorem dX12_silent_19 : decode bX12_silent 19 = .ok (.ireturn, 1) := by decide +kernel
section
variable {p : Program} {l : Launch} {e : Env} {s : State} {m : MethodId} {args : Array Value} {below : List Frame} {meth : Method} {c : Code} {G : GG} {n : Nat} {h' : Hp} {rv : Int32}
set_option maxHeartbeats 4000000
set_option maxRecDepth 100000
theorem k_X12_silent (l : Launch) (G : GG) (n : Nat) (hN : NT ≤ n) {h h' : Hp} {x0 : Nat} {rv : Int32} (hf : f_X12_silent h x0 = some (rv, h')) : CT l G n n yX12_silent (.code yX12_silent bX12_silent 1 (some .int)) 0 0 0 [.ref (bs G + x0)] h h' (some (.int rv)) := by
  refine ct_of (maxL := 1) (ret := (some .int)) (bytes := bX12_silent) (by decide) (Nat.le_of_ble_eq_true rfl) (fun p e s m below meth c C0 X ls hl => ?_)
  have hl : lv_has ls 1 [(0, .ref (bs G + x0))] := hl
  obtain ⟨hx, hb, hr, hml, hown, hts, hK, hlocks, hnm⟩ := id C0
  unfold f_X12_silent at hf
  obtain ⟨o0, hf⟩ := gd_e hf
  refine lv_iconst (v := (1 : Int32)) hx hb dX12_silent_0 (by decide) ?_
  refine lv_aload_n hx hb dX12_silent_1 rfl (lv_at hl 0 rfl) ?_
  obtain ⟨g1, hf⟩ := gd_e hf
  refine g_R hx hb hts hown hK X o0 hN g1 fl_X12_13 (by decide) rfl (by decide) dX12_silent_2 ?_
  refine lv_iconst (v := (1 : Int32)) hx hb dX12_silent_5 (by decide) ?_
  obtain ⟨g2, hf⟩ := gd_e hf
  refine g_ia hx hb hK X g1 hN g2 (by decide) dX12_silent_6 ?_
  refine lv_ishl hx hb dX12_silent_7 ?_
  refine lv_iconst (v := (1 : Int32)) hx hb dX12_silent_8 (by decide) ?_
  refine lv_isub hx hb dX12_silent_9 ?_
  refine lv_aload_n hx hb dX12_silent_10 rfl (lv_at hl 0 rfl) ?_
  obtain ⟨g3, hf⟩ := gd_e hf
  refine g_R hx hb hts hown hK X o0 hN g3 fl_X12_20 (by decide) rfl (by decide) dX12_silent_11 ?_
  refine lv_iconst (v := (2 : Int32)) hx hb dX12_silent_14 (by decide) ?_
  obtain ⟨g4, hf⟩ := gd_e hf
  refine g_ia hx hb hK X g3 hN g4 (by decide) dX12_silent_15 ?_
  refine lv_iconst (v := (-1 : Int32)) hx hb dX12_silent_16 (by decide) ?_
  refine lv_ixor hx hb dX12_silent_17 ?_
  refine lv_iand hx hb dX12_silent_18 ?_
  exact r_I hx hb hr hlocks X hf dX12_silent_19
end
theorem dX12_stuck_0 : decode bX12_stuck 0 = .ok (.aload_n 0, 1) := by decide +kernel
theorem dX12_stuck_1 : decode bX12_stuck 1 = .ok (.iconst 0, 1) := by decide +kernel
theorem dX12_stuck_2 : decode bX12_stuck 2 = .ok (.putfield 1, 3) := by decide +kernel
theorem dX12_stuck_5 : decode bX12_stuck 5 = .ok (.aload_n 0, 1) := by decide +kernel
theorem dX12_stuck_6 : decode bX12_stuck 6 = .ok (.aload_n 0, 1) := by decide +kernel
theorem dX12_stuck_7 : decode bX12_stuck 7 = .ok (.invokevirtual 215, 3) := by decide +kernel
theorem dX12_stuck_10 : decode bX12_stuck 10 = .ok (.aload_n 0, 1) := by decide +kernel
theorem dX12_stuck_11 : decode bX12_stuck 11 = .ok (.invokevirtual 135, 3) := by decide +kernel
theorem dX12_stuck_14 : decode bX12_stuck 14 = .ok (.aload_n 0, 1) := by decide +kernel
theorem dX12_stuck_15 : decode bX12_stuck 15 = .ok (.getfield 13, 3) := by decide +kernel
theorem dX12_stuck_18 : decode bX12_stuck 18 = .ok (.iconst 2, 1) := by decide +kernel
theorem dX12_stuck_19 : decode bX12_stuck 19 = .ok (.iaload, 1) := by decide +kernel
theorem dX12_stuck_20 : decode bX12_stuck 20 = .ok (.invokevirtual 218, 3) := by decide +kernel
theorem dX12_stuck_23 : decode bX12_stuck 23 = .ok (.ireturn, 1) := by decide +kernel
section
variable {p : Program} {l : Launch} {e : Env} {s : State} {m : MethodId} {args : Array Value} {below : List Frame} {meth : Method} {c : Code} {G : GG} {n : Nat} {h' : Hp} {rv : Int32}
set_option maxHeartbeats 4000000
set_option maxRecDepth 100000
theorem k_X12_stuck (l : Launch) (G : GG) (n : Nat) (hN : NT ≤ n) {h h' : Hp} {x0 : Nat} {rv : Int32} (hf : f_X12_stuck h x0 = some (rv, h')) : CT l G n n yX12_stuck (.code yX12_stuck bX12_stuck 1 (some .int)) 7 0 0 [.ref (bs G + x0)] h h' (some (.int rv)) := by
  refine ct_of (maxL := 1) (ret := (some .int)) (bytes := bX12_stuck) (by decide) (Nat.le_of_ble_eq_true rfl) (fun p e s m below meth c C0 X ls hl => ?_)
  have hl : lv_has ls 1 [(0, .ref (bs G + x0))] := hl
  obtain ⟨hx, hb, hr, hml, hown, hts, hK, hlocks, hnm⟩ := id C0
  unfold f_X12_stuck at hf
  obtain ⟨o0, hf⟩ := gd_e hf
  refine lv_aload_n hx hb dX12_stuck_0 rfl (lv_at hl 0 rfl) ?_
  refine lv_iconst (v := (0 : Int32)) hx hb dX12_stuck_1 (by decide) ?_
  refine g_PI hx hb hts hown hK X o0 hN fl_X12_1 ft_12_0 (by decide) rfl dX12_stuck_2 (fun H locs X => ?_)
  obtain ⟨h1, e2, hf⟩ := lt_e hf
  rw [← e2] at X
  refine lv_aload_n hx hb dX12_stuck_5 rfl (lv_at hl 0 rfl) ?_
  refine lv_aload_n hx hb dX12_stuck_6 rfl (lv_at hl 0 rfl) ?_
  obtain ⟨r3, h4, q5, hf⟩ := bd_e hf
  refine c_V0 (As := []) (rest := [.ref (bs G + x0)]) (st1 := [.int r3, .ref (bs G + x0)]) hx hb hml hown hts hK X (k_X12_silent l G n hN q5) o0 hN lc_X12_silent lv_X12_215 (ci := 12) rfl rfl (by decide) rfl hl.1 (Nat.le_of_ble_eq_true rfl) dX12_stuck_7 rfl (fun H locs X => ?_)
  refine lv_aload_n hx hb dX12_stuck_10 rfl (lv_at hl 0 rfl) ?_
  obtain ⟨r6, h7, q8, hf⟩ := bd_e hf
  refine c_V0 (As := []) (rest := [.int r3, .ref (bs G + x0)]) (st1 := [.int r6, .int r3, .ref (bs G + x0)]) hx hb hml hown hts hK X (k_X12_taken l G n hN q8) o0 hN lc_X12_taken lv_X12_135 (ci := 12) rfl rfl (by decide) rfl hl.1 (Nat.le_of_ble_eq_true rfl) dX12_stuck_11 rfl (fun H locs X => ?_)
  refine lv_aload_n hx hb dX12_stuck_14 rfl (lv_at hl 0 rfl) ?_
  obtain ⟨g9, hf⟩ := gd_e hf
  refine g_R hx hb hts hown hK X o0 hN g9 fl_X12_13 (by decide) rfl (by decide) dX12_stuck_15 ?_
  refine lv_iconst (v := (2 : Int32)) hx hb dX12_stuck_18 (by decide) ?_
  obtain ⟨g10, hf⟩ := gd_e hf
  refine g_ia hx hb hK X g9 hN g10 (by decide) dX12_stuck_19 ?_
  obtain ⟨r11, h12, q13, hf⟩ := bd_e hf
  refine c_V0 (As := [.int r3, .int r6, .int (h7.1 (h7.2 x0 1) (2 : Int32).toNatClampNeg)]) (rest := []) (st1 := [.int r11]) hx hb hml hown hts hK X (k_X12_stuckOf l G n hN q13) o0 hN lc_X12_stuckOf lv_X12_218 (ci := 12) rfl rfl (by decide) rfl hl.1 (Nat.le_of_ble_eq_true rfl) dX12_stuck_20 rfl (fun H locs X => ?_)
  exact r_I hx hb hr hlocks X hf dX12_stuck_23
end
theorem dX12_freed_0 : decode bX12_freed 0 = .ok (.aload_n 0, 1) := by decide +kernel
theorem dX12_freed_1 : decode bX12_freed 1 = .ok (.iconst 0, 1) := by decide +kernel
theorem dX12_freed_2 : decode bX12_freed 2 = .ok (.putfield 1, 3) := by decide +kernel
theorem dX12_freed_5 : decode bX12_freed 5 = .ok (.aload_n 0, 1) := by decide +kernel
theorem dX12_freed_6 : decode bX12_freed 6 = .ok (.iload_n 1, 1) := by decide +kernel
theorem dX12_freed_7 : decode bX12_freed 7 = .ok (.invokevirtual 138, 3) := by decide +kernel
theorem dX12_freed_10 : decode bX12_freed 10 = .ok (.ifCond .eq 5, 3) := by decide +kernel
theorem dX12_freed_13 : decode bX12_freed 13 = .ok (.iconst (-1), 1) := by decide +kernel
theorem dX12_freed_14 : decode bX12_freed 14 = .ok (.ireturn, 1) := by decide +kernel
theorem dX12_freed_15 : decode bX12_freed 15 = .ok (.aload_n 0, 1) := by decide +kernel
theorem dX12_freed_16 : decode bX12_freed 16 = .ok (.invokevirtual 135, 3) := by decide +kernel
theorem dX12_freed_19 : decode bX12_freed 19 = .ok (.istore_n 2, 1) := by decide +kernel
theorem dX12_freed_20 : decode bX12_freed 20 = .ok (.aload_n 0, 1) := by decide +kernel
theorem dX12_freed_21 : decode bX12_freed 21 = .ok (.getfield 20, 3) := by decide +kernel
theorem dX12_freed_24 : decode bX12_freed 24 = .ok (.iconst 2, 1) := by decide +kernel
theorem dX12_freed_25 : decode bX12_freed 25 = .ok (.iaload, 1) := by decide +kernel
theorem dX12_freed_26 : decode bX12_freed 26 = .ok (.iload_n 1, 1) := by decide +kernel
theorem dX12_freed_27 : decode bX12_freed 27 = .ok (.invokestatic 170, 3) := by decide +kernel
theorem dX12_freed_30 : decode bX12_freed 30 = .ok (.ifCond .ne 18, 3) := by decide +kernel
theorem dX12_freed_33 : decode bX12_freed 33 = .ok (.aload_n 0, 1) := by decide +kernel
theorem dX12_freed_34 : decode bX12_freed 34 = .ok (.iload_n 1, 1) := by decide +kernel
theorem dX12_freed_35 : decode bX12_freed 35 = .ok (.iload_n 2, 1) := by decide +kernel
theorem dX12_freed_36 : decode bX12_freed 36 = .ok (.aload_n 0, 1) := by decide +kernel
theorem dX12_freed_37 : decode bX12_freed 37 = .ok (.getfield 13, 3) := by decide +kernel
theorem dX12_freed_40 : decode bX12_freed 40 = .ok (.iconst 2, 1) := by decide +kernel
theorem dX12_freed_41 : decode bX12_freed 41 = .ok (.iaload, 1) := by decide +kernel
theorem dX12_freed_42 : decode bX12_freed 42 = .ok (.invokevirtual 211, 3) := by decide +kernel
theorem dX12_freed_45 : decode bX12_freed 45 = .ok (.ifCond .eq 6, 3) := by decide +kernel
theorem dX12_freed_48 : decode bX12_freed 48 = .ok (.bipush (-4), 2) := by decide +kernel
theorem dX12_freed_50 : decode bX12_freed 50 = .ok (.ireturn, 1) := by decide +kernel
theorem dX12_freed_51 : decode bX12_freed 51 = .ok (.iconst 1, 1) := by decide +kernel
theorem dX12_freed_52 : decode bX12_freed 52 = .ok (.istore_n 3, 1) := by decide +kernel
theorem dX12_freed_53 : decode bX12_freed 53 = .ok (.iload_n 3, 1) := by decide +kernel
theorem dX12_freed_54 : decode bX12_freed 54 = .ok (.aload_n 0, 1) := by decide +kernel
theorem dX12_freed_55 : decode bX12_freed 55 = .ok (.getfield 13, 3) := by decide +kernel
theorem dX12_freed_58 : decode bX12_freed 58 = .ok (.iconst 0, 1) := by decide +kernel
theorem dX12_freed_59 : decode bX12_freed 59 = .ok (.iaload, 1) := by decide +kernel
theorem dX12_freed_60 : decode bX12_freed 60 = .ok (.if_icmp .gt 44, 3) := by decide +kernel
theorem dX12_freed_63 : decode bX12_freed 63 = .ok (.iload_n 2, 1) := by decide +kernel
theorem dX12_freed_64 : decode bX12_freed 64 = .ok (.iload_n 3, 1) := by decide +kernel
theorem dX12_freed_65 : decode bX12_freed 65 = .ok (.iconst 1, 1) := by decide +kernel
theorem dX12_freed_66 : decode bX12_freed 66 = .ok (.isub, 1) := by decide +kernel
theorem dX12_freed_67 : decode bX12_freed 67 = .ok (.invokestatic 170, 3) := by decide +kernel
theorem dX12_freed_70 : decode bX12_freed 70 = .ok (.ifCond .eq 28, 3) := by decide +kernel
theorem dX12_freed_73 : decode bX12_freed 73 = .ok (.aload_n 0, 1) := by decide +kernel
theorem dX12_freed_74 : decode bX12_freed 74 = .ok (.iload_n 1, 1) := by decide +kernel
theorem dX12_freed_75 : decode bX12_freed 75 = .ok (.iload_n 2, 1) := by decide +kernel
theorem dX12_freed_76 : decode bX12_freed 76 = .ok (.iconst 1, 1) := by decide +kernel
theorem dX12_freed_77 : decode bX12_freed 77 = .ok (.iload_n 3, 1) := by decide +kernel
theorem dX12_freed_78 : decode bX12_freed 78 = .ok (.iconst 1, 1) := by decide +kernel
theorem dX12_freed_79 : decode bX12_freed 79 = .ok (.isub, 1) := by decide +kernel
theorem dX12_freed_80 : decode bX12_freed 80 = .ok (.ishl, 1) := by decide +kernel
theorem dX12_freed_81 : decode bX12_freed 81 = .ok (.iconst (-1), 1) := by decide +kernel
theorem dX12_freed_82 : decode bX12_freed 82 = .ok (.ixor, 1) := by decide +kernel
theorem dX12_freed_83 : decode bX12_freed 83 = .ok (.iand, 1) := by decide +kernel
theorem dX12_freed_84 : decode bX12_freed 84 = .ok (.aload_n 0, 1) := by decide +kernel
theorem dX12_freed_85 : decode bX12_freed 85 = .ok (.getfield 13, 3) := by decide +kernel
theorem dX12_freed_88 : decode bX12_freed 88 = .ok (.iconst 2, 1) := by decide +kernel
theorem dX12_freed_89 : decode bX12_freed 89 = .ok (.iaload, 1) := by decide +kernel
theorem dX12_freed_90 : decode bX12_freed 90 = .ok (.invokevirtual 211, 3) := by decide +kernel
theorem dX12_freed_93 : decode bX12_freed 93 = .ok (.ifCond .eq 5, 3) := by decide +kernel
theorem dX12_freed_96 : decode bX12_freed 96 = .ok (.iload_n 3, 1) := by decide +kernel
theorem dX12_freed_97 : decode bX12_freed 97 = .ok (.ireturn, 1) := by decide +kernel
theorem dX12_freed_98 : decode bX12_freed 98 = .ok (.iinc 3 1, 3) := by decide +kernel
theorem dX12_freed_101 : decode bX12_freed 101 = .ok (.goto (-48), 3) := by decide +kernel
theorem dX12_freed_104 : decode bX12_freed 104 = .ok (.bipush (-4), 2) := by decide +kernel
theorem dX12_freed_106 : decode bX12_freed 106 = .ok (.ireturn, 1) := by decide +kernel
section
variable {p : Program} {l : Launch} {e : Env} {s : State} {m : MethodId} {args : Array Value} {below : List Frame} {meth : Method} {c : Code} {G : GG} {n : Nat} {h' : Hp} {rv : Int32}
set_option maxHeartbeats 4000000
set_option maxRecDepth 100000
theorem j_X12_freed_53 (C0 : Cx p s m args meth c G bX12_freed RX12 4 (some .int) "freed") (hN : NT ≤ n) : ∀ (fu : Nat), ∀ {H : Heap} {locs : List Loc} {ls : Array Slot} {h : Hp} {x0 : Nat} {x1 : Int32} {x2 : Int32} {x3 : Int32}, XW G n h s 0 H locs → lv_has ls 4 [(0, .ref (bs G + x0)), (1, .int x1), (2, .int x2), (3, .int x3)] → kd x0 = 12 → f_X12_freed_53 fu h x0 x1 x2 x3 = some (rv, h') → W p l e (rmC 6 0 0) s m args below meth c H locs 0 0 (MQ below (QP G n h' (some (.int rv))) args s 0 0 (Ab G)) (F0 m 53 ls []) := by
  obtain ⟨hx, hb, hr, hml, hown, hts, hK, hlocks, hnm⟩ := id C0
  intro fu
  induction fu with
  | zero => intro H locs ls h x0 x1 x2 x3 X hl o0 hf; cases hf
  | succ fu ih =>
    intro H locs ls h x0 x1 x2 x3 X hl o0 hf
    rw [f_X12_freed_53] at hf
    refine lv_iload_n hx hb dX12_freed_53 rfl (lv_at hl 3 rfl) ?_
    refine lv_aload_n hx hb dX12_freed_54 rfl (lv_at hl 0 rfl) ?_
    obtain ⟨g1, hf⟩ := gd_e hf
    refine g_R hx hb hts hown hK X o0 hN g1 fl_X12_13 (by decide) rfl (by decide) dX12_freed_55 ?_
    refine lv_iconst (v := (0 : Int32)) hx hb dX12_freed_58 (by decide) ?_
    obtain ⟨g2, hf⟩ := gd_e hf
    refine g_ia hx hb hK X g1 hN g2 (by decide) dX12_freed_59 ?_
    refine lv_icmp_gt (tgt := 104) hx hb dX12_freed_60 (by decide) (fun c60 => ?_) (fun c60 => ?_)
    · have hf := ite_t hf c60
      refine lv_bipush (v := (-4 : Int32)) hx hb dX12_freed_104 (by decide) ?_
      exact r_I hx hb hr hlocks X hf dX12_freed_106
    · have hf := ite_f hf c60
      refine lv_iload_n hx hb dX12_freed_63 rfl (lv_at hl 2 rfl) ?_
      refine lv_iload_n hx hb dX12_freed_64 rfl (lv_at hl 3 rfl) ?_
      refine lv_iconst (v := (1 : Int32)) hx hb dX12_freed_65 (by decide) ?_
      refine lv_isub hx hb dX12_freed_66 ?_
      obtain ⟨r3, h4, q5, hf⟩ := bd_e hf
      refine c_S0 (As := [.int x2, .int (x3 - (1 : Int32))]) (rest := []) (st1 := [.int r3]) hx hb hml hown hts hK X (k_X12_has l G n hN q5) lc_X12_has ls_X12_170 (by decide) rfl hl.1 (Nat.le_of_ble_eq_true rfl) dX12_freed_67 rfl (fun H locs X => ?_)
      refine lv_if_eq (tgt := 98) hx hb dX12_freed_70 (by decide) (fun c70 => ?_) (fun c70 => ?_)
      · have hf := ite_t hf c70
        refine lv_iinc (v := (x3 + (1 : Int32))) (lv' := [(3, .int (x3 + (1 : Int32))), (0, .ref (bs G + x0)), (1, .int x1), (2, .int x2)]) hx hb dX12_freed_98 hl (k := 3) rfl rfl (by decide) rfl (fun ls hl => ?_)
        refine lv_goto (tgt := 53) hx hb dX12_freed_101 (by decide) ?_
        exact ih X (lv_sub hl [1, 2, 3, 0] rfl) o0 hf
      · have hf := ite_f hf c70
        refine lv_aload_n hx hb dX12_freed_73 rfl (lv_at hl 0 rfl) ?_
        refine lv_iload_n hx hb dX12_freed_74 rfl (lv_at hl 1 rfl) ?_
        refine lv_iload_n hx hb dX12_freed_75 rfl (lv_at hl 2 rfl) ?_
        refine lv_iconst (v := (1 : Int32)) hx hb dX12_freed_76 (by decide) ?_
        refine lv_iload_n hx hb dX12_freed_77 rfl (lv_at hl 3 rfl) ?_
        refine lv_iconst (v := (1 : Int32)) hx hb dX12_freed_78 (by decide) ?_
        refine lv_isub hx hb dX12_freed_79 ?_
        refine lv_ishl hx hb dX12_freed_80 ?_
        refine lv_iconst (v := (-1 : Int32)) hx hb dX12_freed_81 (by decide) ?_
        refine lv_ixor hx hb dX12_freed_82 ?_
        refine lv_iand hx hb dX12_freed_83 ?_
        refine lv_aload_n hx hb dX12_freed_84 rfl (lv_at hl 0 rfl) ?_
        obtain ⟨g6, hf⟩ := gd_e hf
        refine g_R hx hb hts hown hK X o0 hN g6 fl_X12_13 (by decide) rfl (by decide) dX12_freed_85 ?_
        refine lv_iconst (v := (2 : Int32)) hx hb dX12_freed_88 (by decide) ?_
        obtain ⟨g7, hf⟩ := gd_e hf
        refine g_ia hx hb hK X g6 hN g7 (by decide) dX12_freed_89 ?_
        obtain ⟨r8, h9, q10, hf⟩ := bd_e hf
        refine c_V0 (As := [.int x1, .int (x2 &&& (((1 : Int32) <<< ((x3 - (1 : Int32)) &&& 31)) ^^^ (-1 : Int32))), .int (h4.1 (h4.2 x0 1) (2 : Int32).toNatClampNeg)]) (rest := []) (st1 := [.int r8]) hx hb hml hown hts hK X (k_X12_hasBest l G n hN q10) o0 hN lc_X12_hasBest lv_X12_211 (ci := 12) rfl rfl (by decide) rfl hl.1 (Nat.le_of_ble_eq_true rfl) dX12_freed_90 rfl (fun H locs X => ?_)
        refine lv_if_eq (tgt := 98) hx hb dX12_freed_93 (by decide) (fun c93 => ?_) (fun c93 => ?_)
        · have hf := ite_t hf c93
          refine lv_iinc (v := (x3 + (1 : Int32))) (lv' := [(3, .int (x3 + (1 : Int32))), (0, .ref (bs G + x0)), (1, .int x1), (2, .int x2)]) hx hb dX12_freed_98 hl (k := 3) rfl rfl (by decide) rfl (fun ls hl => ?_)
          refine lv_goto (tgt := 53) hx hb dX12_freed_101 (by decide) ?_
          exact ih X (lv_sub hl [1, 2, 3, 0] rfl) o0 hf
        · have hf := ite_f hf c93
          refine lv_iload_n hx hb dX12_freed_96 rfl (lv_at hl 3 rfl) ?_
          exact r_I hx hb hr hlocks X hf dX12_freed_97
theorem k_X12_freed (l : Launch) (G : GG) (n : Nat) (hN : NT ≤ n) {h h' : Hp} {x0 : Nat} {x1 : Int32} {rv : Int32} (hf : f_X12_freed h x0 x1 = some (rv, h')) : CT l G n n yX12_freed (.code yX12_freed bX12_freed 4 (some .int)) 6 0 0 [.ref (bs G + x0), .int x1] h h' (some (.int rv)) := by
  refine ct_of (maxL := 4) (ret := (some .int)) (bytes := bX12_freed) (by decide) (Nat.le_of_ble_eq_true rfl) (fun p e s m below meth c C0 X ls hl => ?_)
  have hl : lv_has ls 4 [(0, .ref (bs G + x0)), (1, .int x1)] := hl
  obtain ⟨hx, hb, hr, hml, hown, hts, hK, hlocks, hnm⟩ := id C0
  unfold f_X12_freed at hf
  obtain ⟨o0, hf⟩ := gd_e hf
  refine lv_aload_n hx hb dX12_freed_0 rfl (lv_at hl 0 rfl) ?_
  refine lv_iconst (v := (0 : Int32)) hx hb dX12_freed_1 (by decide) ?_
  refine g_PI hx hb hts hown hK X o0 hN fl_X12_1 ft_12_0 (by decide) rfl dX12_freed_2 (fun H locs X => ?_)
  obtain ⟨h1, e2, hf⟩ := lt_e hf
  rw [← e2] at X
  refine lv_aload_n hx hb dX12_freed_5 rfl (lv_at hl 0 rfl) ?_
  refine lv_iload_n hx hb dX12_freed_6 rfl (lv_at hl 1 rfl) ?_
  obtain ⟨r3, h4, q5, hf⟩ := bd_e hf
  refine c_V0 (As := [.int x1]) (rest := []) (st1 := [.int r3]) hx hb hml hown hts hK X (k_X12_noOne l G n hN q5) o0 hN lc_X12_noOne lv_X12_138 (ci := 12) rfl rfl (by decide) rfl hl.1 (Nat.le_of_ble_eq_true rfl) dX12_freed_7 rfl (fun H locs X => ?_)
  refine lv_if_eq (tgt := 15) hx hb dX12_freed_10 (by decide) (fun c10 => ?_) (fun c10 => ?_)
  · have hf := ite_t hf c10
    refine lv_aload_n hx hb dX12_freed_15 rfl (lv_at hl 0 rfl) ?_
    obtain ⟨r6, h7, q8, hf⟩ := bd_e hf
    refine c_V0 (As := []) (rest := []) (st1 := [.int r6]) hx hb hml hown hts hK X (k_X12_taken l G n hN q8) o0 hN lc_X12_taken lv_X12_135 (ci := 12) rfl rfl (by decide) rfl hl.1 (Nat.le_of_ble_eq_true rfl) dX12_freed_16 rfl (fun H locs X => ?_)
    refine lv_istore_n (lv' := [(2, .int r6), (0, .ref (bs G + x0)), (1, .int x1)]) hx hb dX12_freed_19 rfl hl (by decide) rfl (fun ls hl => ?_)
    refine lv_aload_n hx hb dX12_freed_20 rfl (lv_at hl 1 rfl) ?_
    obtain ⟨g9, hf⟩ := gd_e hf
    refine g_R hx hb hts hown hK X o0 hN g9 fl_X12_20 (by decide) rfl (by decide) dX12_freed_21 ?_
    refine lv_iconst (v := (2 : Int32)) hx hb dX12_freed_24 (by decide) ?_
    obtain ⟨g10, hf⟩ := gd_e hf
    refine g_ia hx hb hK X g9 hN g10 (by decide) dX12_freed_25 ?_
    refine lv_iload_n hx hb dX12_freed_26 rfl (lv_at hl 2 rfl) ?_
    obtain ⟨r11, h12, q13, hf⟩ := bd_e hf
    refine c_S0 (As := [.int (h7.1 (h7.2 x0 3) (2 : Int32).toNatClampNeg), .int x1]) (rest := []) (st1 := [.int r11]) hx hb hml hown hts hK X (k_X12_has l G n hN q13) lc_X12_has ls_X12_170 (by decide) rfl hl.1 (Nat.le_of_ble_eq_true rfl) dX12_freed_27 rfl (fun H locs X => ?_)
    refine lv_if_ne (tgt := 48) hx hb dX12_freed_30 (by decide) (fun c30 => ?_) (fun c30 => ?_)
    · have hf := ite_f hf c30
      refine lv_bipush (v := (-4 : Int32)) hx hb dX12_freed_48 (by decide) ?_
      exact r_I hx hb hr hlocks X hf dX12_freed_50
    · have hf := ite_t hf c30
      refine lv_aload_n hx hb dX12_freed_33 rfl (lv_at hl 1 rfl) ?_
      refine lv_iload_n hx hb dX12_freed_34 rfl (lv_at hl 2 rfl) ?_
      refine lv_iload_n hx hb dX12_freed_35 rfl (lv_at hl 0 rfl) ?_
      refine lv_aload_n hx hb dX12_freed_36 rfl (lv_at hl 1 rfl) ?_
      obtain ⟨g14, hf⟩ := gd_e hf
      refine g_R hx hb hts hown hK X o0 hN g14 fl_X12_13 (by decide) rfl (by decide) dX12_freed_37 ?_
      refine lv_iconst (v := (2 : Int32)) hx hb dX12_freed_40 (by decide) ?_
      obtain ⟨g15, hf⟩ := gd_e hf
      refine g_ia hx hb hK X g14 hN g15 (by decide) dX12_freed_41 ?_
      obtain ⟨r16, h17, q18, hf⟩ := bd_e hf
      refine c_V0 (As := [.int x1, .int r6, .int (h12.1 (h12.2 x0 1) (2 : Int32).toNatClampNeg)]) (rest := []) (st1 := [.int r16]) hx hb hml hown hts hK X (k_X12_hasBest l G n hN q18) o0 hN lc_X12_hasBest lv_X12_211 (ci := 12) rfl rfl (by decide) rfl hl.1 (Nat.le_of_ble_eq_true rfl) dX12_freed_42 rfl (fun H locs X => ?_)
      refine lv_if_eq (tgt := 51) hx hb dX12_freed_45 (by decide) (fun c45 => ?_) (fun c45 => ?_)
      · have hf := ite_t hf c45
        refine lv_iconst (v := (1 : Int32)) hx hb dX12_freed_51 (by decide) ?_
        refine lv_istore_n (lv' := [(3, .int (1 : Int32)), (2, .int r6), (0, .ref (bs G + x0)), (1, .int x1)]) hx hb dX12_freed_52 rfl hl (by decide) rfl (fun ls hl => ?_)
        exact j_X12_freed_53 C0 hN FU X (lv_sub hl [2, 3, 1, 0] rfl) o0 hf
      · have hf := ite_f hf c45
        refine lv_bipush (v := (-4 : Int32)) hx hb dX12_freed_48 (by decide) ?_
        exact r_I hx hb hr hlocks X hf dX12_freed_50
  · have hf := ite_f hf c10
    refine lv_iconst (v := (-1 : Int32)) hx hb dX12_freed_13 (by decide) ?_
    exact r_I hx hb hr hlocks X hf dX12_freed_14
end
theorem dX12_isAhead_0 : decode bX12_isAhead 0 = .ok (.iconst 0, 1) := by decide +kernel
theorem dX12_isAhead_1 : decode bX12_isAhead 1 = .ok (.istore_n 3, 1) := by decide +kernel
theorem dX12_isAhead_2 : decode bX12_isAhead 2 = .ok (.iconst 0, 1) := by decide +kernel
theorem dX12_isAhead_3 : decode bX12_isAhead 3 = .ok (.istore 4, 2) := by decide +kernel
theorem dX12_isAhead_5 : decode bX12_isAhead 5 = .ok (.iload 4, 2) := by decide +kernel
theorem dX12_isAhead_7 : decode bX12_isAhead 7 = .ok (.iload_n 2, 1) := by decide +kernel
theorem dX12_isAhead_8 : decode bX12_isAhead 8 = .ok (.if_icmp .ge 30, 3) := by decide +kernel
theorem dX12_isAhead_11 : decode bX12_isAhead 11 = .ok (.iload_n 3, 1) := by decide +kernel
theorem dX12_isAhead_12 : decode bX12_isAhead 12 = .ok (.ifCond .ne 14, 3) := by decide +kernel
theorem dX12_isAhead_15 : decode bX12_isAhead 15 = .ok (.aload_n 0, 1) := by decide +kernel
theorem dX12_isAhead_16 : decode bX12_isAhead 16 = .ok (.getfield 41, 3) := by decide +kernel
theorem dX12_isAhead_19 : decode bX12_isAhead 19 = .ok (.iload 4, 2) := by decide +kernel
theorem dX12_isAhead_21 : decode bX12_isAhead 21 = .ok (.iaload, 1) := by decide +kernel
theorem dX12_isAhead_22 : decode bX12_isAhead 22 = .ok (.iload_n 1, 1) := by decide +kernel
theorem dX12_isAhead_23 : decode bX12_isAhead 23 = .ok (.if_icmp .ne 7, 3) := by decide +kernel
theorem dX12_isAhead_26 : decode bX12_isAhead 26 = .ok (.iconst 1, 1) := by decide +kernel
theorem dX12_isAhead_27 : decode bX12_isAhead 27 = .ok (.goto 4, 3) := by decide +kernel
theorem dX12_isAhead_30 : decode bX12_isAhead 30 = .ok (.iconst 0, 1) := by decide +kernel
theorem dX12_isAhead_31 : decode bX12_isAhead 31 = .ok (.istore_n 3, 1) := by decide +kernel
theorem dX12_isAhead_32 : decode bX12_isAhead 32 = .ok (.iinc 4 1, 3) := by decide +kernel
theorem dX12_isAhead_35 : decode bX12_isAhead 35 = .ok (.goto (-30), 3) := by decide +kernel
theorem dX12_isAhead_38 : decode bX12_isAhead 38 = .ok (.iload_n 3, 1) := by decide +kernel
theorem dX12_isAhead_39 : decode bX12_isAhead 39 = .ok (.ireturn, 1) := by decide +kernel
section
variable {p : Program} {l : Launch} {e : Env} {s : State} {m : MethodId} {args : Array Value} {below : List Frame} {meth : Method} {c : Code} {G : GG} {n : Nat} {h' : Hp} {rv : Int32}
set_option maxHeartbeats 4000000
set_option maxRecDepth 100000
theorem j_X12_isAhead_5 (C0 : Cx p s m args meth c G bX12_isAhead RX12 5 (some .boolean) "isAhead") (hN : NT ≤ n) : ∀ (fu : Nat), ∀ {H : Heap} {locs : List Loc} {ls : Array Slot} {h : Hp} {x0 : Nat} {x1 : Int32} {x2 : Int32} {x3 : Int32} {x4 : Int32}, XW G n h s 0 H locs → lv_has ls 5 [(0, .ref (bs G + x0)), (1, .int x1), (2, .int x2), (3, .int x3), (4, .int x4)] → kd x0 = 12 → f_X12_isAhead_5 fu h x0 x1 x2 x3 x4 = some (rv, h') → W p l e (rmC 0 0 0) s m args below meth c H locs 0 0 (MQ below (QP G n h' (some (.int rv))) args s 0 0 (Ab G)) (F0 m 5 ls []) := by
  obtain ⟨hx, hb, hr, hml, hown, hts, hK, hlocks, hnm⟩ := id C0
  intro fu
  induction fu with
  | zero => intro H locs ls h x0 x1 x2 x3 x4 X hl o0 hf; cases hf
  | succ fu ih =>
    intro H locs ls h x0 x1 x2 x3 x4 X hl o0 hf
    rw [f_X12_isAhead_5] at hf
    refine lv_iload hx hb dX12_isAhead_5 (lv_at hl 4 rfl) ?_
    refine lv_iload_n hx hb dX12_isAhead_7 rfl (lv_at hl 2 rfl) ?_
    refine lv_icmp_ge (tgt := 38) hx hb dX12_isAhead_8 (by decide) (fun c8 => ?_) (fun c8 => ?_)
    · have hf := ite_t hf c8
      refine lv_iload_n hx hb dX12_isAhead_38 rfl (lv_at hl 3 rfl) ?_
      obtain ⟨g1, hf⟩ := gd_e hf
      exact r_Z hx hb hr hlocks X (z_ok g1).1 hf dX12_isAhead_39
    · have hf := ite_f hf c8
      refine lv_iload_n hx hb dX12_isAhead_11 rfl (lv_at hl 3 rfl) ?_
      refine lv_if_ne (tgt := 26) hx hb dX12_isAhead_12 (by decide) (fun c12 => ?_) (fun c12 => ?_)
      · have hf := ite_f hf c12
        refine lv_iconst (v := (1 : Int32)) hx hb dX12_isAhead_26 (by decide) ?_
        refine lv_goto (tgt := 31) hx hb dX12_isAhead_27 (by decide) ?_
        refine lv_istore_n (lv' := [(3, .int (1 : Int32)), (0, .ref (bs G + x0)), (1, .int x1), (2, .int x2), (4, .int x4)]) hx hb dX12_isAhead_31 rfl hl (by decide) rfl (fun ls hl => ?_)
        refine lv_iinc (v := (x4 + (1 : Int32))) (lv' := [(4, .int (x4 + (1 : Int32))), (3, .int (1 : Int32)), (0, .ref (bs G + x0)), (1, .int x1), (2, .int x2)]) hx hb dX12_isAhead_32 hl (k := 4) rfl rfl (by decide) rfl (fun ls hl => ?_)
        refine lv_goto (tgt := 5) hx hb dX12_isAhead_35 (by decide) ?_
        exact ih X (lv_sub hl [2, 3, 4, 1, 0] rfl) o0 hf
      · have hf := ite_t hf c12
        refine lv_aload_n hx hb dX12_isAhead_15 rfl (lv_at hl 0 rfl) ?_
        obtain ⟨g2, hf⟩ := gd_e hf
        refine g_R hx hb hts hown hK X o0 hN g2 fl_X12_41 (by decide) rfl (by decide) dX12_isAhead_16 ?_
        refine lv_iload hx hb dX12_isAhead_19 (lv_at hl 4 rfl) ?_
        obtain ⟨g3, hf⟩ := gd_e hf
        refine g_ia hx hb hK X g2 hN g3 (by decide) dX12_isAhead_21 ?_
        refine lv_iload_n hx hb dX12_isAhead_22 rfl (lv_at hl 1 rfl) ?_
        refine lv_icmp_ne (tgt := 30) hx hb dX12_isAhead_23 (by decide) (fun c23 => ?_) (fun c23 => ?_)
        · have hf := ite_f hf c23
          refine lv_iconst (v := (0 : Int32)) hx hb dX12_isAhead_30 (by decide) ?_
          refine lv_istore_n (lv' := [(3, .int (0 : Int32)), (0, .ref (bs G + x0)), (1, .int x1), (2, .int x2), (4, .int x4)]) hx hb dX12_isAhead_31 rfl hl (by decide) rfl (fun ls hl => ?_)
          refine lv_iinc (v := (x4 + (1 : Int32))) (lv' := [(4, .int (x4 + (1 : Int32))), (3, .int (0 : Int32)), (0, .ref (bs G + x0)), (1, .int x1), (2, .int x2)]) hx hb dX12_isAhead_32 hl (k := 4) rfl rfl (by decide) rfl (fun ls hl => ?_)
          refine lv_goto (tgt := 5) hx hb dX12_isAhead_35 (by decide) ?_
          exact ih X (lv_sub hl [2, 3, 4, 1, 0] rfl) o0 hf
        · have hf := ite_t hf c23
          refine lv_iconst (v := (1 : Int32)) hx hb dX12_isAhead_26 (by decide) ?_
          refine lv_goto (tgt := 31) hx hb dX12_isAhead_27 (by decide) ?_
          refine lv_istore_n (lv' := [(3, .int (1 : Int32)), (0, .ref (bs G + x0)), (1, .int x1), (2, .int x2), (4, .int x4)]) hx hb dX12_isAhead_31 rfl hl (by decide) rfl (fun ls hl => ?_)
          refine lv_iinc (v := (x4 + (1 : Int32))) (lv' := [(4, .int (x4 + (1 : Int32))), (3, .int (1 : Int32)), (0, .ref (bs G + x0)), (1, .int x1), (2, .int x2)]) hx hb dX12_isAhead_32 hl (k := 4) rfl rfl (by decide) rfl (fun ls hl => ?_)
          refine lv_goto (tgt := 5) hx hb dX12_isAhead_35 (by decide) ?_
          exact ih X (lv_sub hl [2, 3, 4, 1, 0] rfl) o0 hf
theorem k_X12_isAhead (l : Launch) (G : GG) (n : Nat) (hN : NT ≤ n) {h h' : Hp} {x0 : Nat} {x1 : Int32} {x2 : Int32} {rv : Int32} (hf : f_X12_isAhead h x0 x1 x2 = some (rv, h')) : CT l G n n yX12_isAhead (.code yX12_isAhead bX12_isAhead 5 (some .boolean)) 0 0 0 [.ref (bs G + x0), .int x1, .int x2] h h' (some (.int rv)) := by
  refine ct_of (maxL := 5) (ret := (some .boolean)) (bytes := bX12_isAhead) (by decide) (Nat.le_of_ble_eq_true rfl) (fun p e s m below meth c C0 X ls hl => ?_)
  have hl : lv_has ls 5 [(0, .ref (bs G + x0)), (1, .int x1), (2, .int x2)] := hl
  obtain ⟨hx, hb, hr, hml, hown, hts, hK, hlocks, hnm⟩ := id C0
  unfold f_X12_isAhead at hf
  obtain ⟨o0, hf⟩ := gd_e hf
  refine lv_iconst (v := (0 : Int32)) hx hb dX12_isAhead_0 (by decide) ?_
  refine lv_istore_n (lv' := [(3, .int (0 : Int32)), (0, .ref (bs G + x0)), (1, .int x1), (2, .int x2)]) hx hb dX12_isAhead_1 rfl hl (by decide) rfl (fun ls hl => ?_)
  refine lv_iconst (v := (0 : Int32)) hx hb dX12_isAhead_2 (by decide) ?_
  refine lv_istore (lv' := [(4, .int (0 : Int32)), (3, .int (0 : Int32)), (0, .ref (bs G + x0)), (1, .int x1), (2, .int x2)]) hx hb dX12_isAhead_3 hl (by decide) rfl (fun ls hl => ?_)
  exact j_X12_isAhead_5 C0 hN FU X (lv_sub hl [2, 3, 4, 1, 0] rfl) o0 hf
end
theorem dX12_layOrder_0 : decode bX12_layOrder 0 = .ok (.aload_n 0, 1) := by decide +kernel
theorem dX12_layOrder_1 : decode bX12_layOrder 1 = .ok (.invokevirtual 215, 3) := by decide +kernel
theorem dX12_layOrder_4 : decode bX12_layOrder 4 = .ok (.istore_n 1, 1) := by decide +kernel
theorem dX12_layOrder_5 : decode bX12_layOrder 5 = .ok (.iload_n 1, 1) := by decide +kernel
theorem dX12_layOrder_6 : decode bX12_layOrder 6 = .ok (.invokestatic 204, 3) := by decide +kernel
theorem dX12_layOrder_9 : decode bX12_layOrder 9 = .ok (.istore_n 2, 1) := by decide +kernel
theorem dX12_layOrder_10 : decode bX12_layOrder 10 = .ok (.aload_n 0, 1) := by decide +kernel
theorem dX12_layOrder_11 : decode bX12_layOrder 11 = .ok (.iconst (-1), 1) := by decide +kernel
theorem dX12_layOrder_12 : decode bX12_layOrder 12 = .ok (.putfield 221, 3) := by decide +kernel
theorem dX12_layOrder_15 : decode bX12_layOrder 15 = .ok (.iconst 0, 1) := by decide +kernel
theorem dX12_layOrder_16 : decode bX12_layOrder 16 = .ok (.istore_n 3, 1) := by decide +kernel
theorem dX12_layOrder_17 : decode bX12_layOrder 17 = .ok (.aload_n 0, 1) := by decide +kernel
theorem dX12_layOrder_18 : decode bX12_layOrder 18 = .ok (.getfield 41, 3) := by decide +kernel
theorem dX12_layOrder_21 : decode bX12_layOrder 21 = .ok (.iconst 0, 1) := by decide +kernel
theorem dX12_layOrder_22 : decode bX12_layOrder 22 = .ok (.iconst (-1), 1) := by decide +kernel
theorem dX12_layOrder_23 : decode bX12_layOrder 23 = .ok (.iastore, 1) := by decide +kernel
theorem dX12_layOrder_24 : decode bX12_layOrder 24 = .ok (.aload_n 0, 1) := by decide +kernel
theorem dX12_layOrder_25 : decode bX12_layOrder 25 = .ok (.getfield 44, 3) := by decide +kernel
theorem dX12_layOrder_28 : decode bX12_layOrder 28 = .ok (.iconst 0, 1) := by decide +kernel
theorem dX12_layOrder_29 : decode bX12_layOrder 29 = .ok (.aload_n 0, 1) := by decide +kernel
theorem dX12_layOrder_30 : decode bX12_layOrder 30 = .ok (.invokevirtual 135, 3) := by decide +kernel
theorem dX12_layOrder_33 : decode bX12_layOrder 33 = .ok (.iastore, 1) := by decide +kernel
theorem dX12_layOrder_34 : decode bX12_layOrder 34 = .ok (.aload_n 0, 1) := by decide +kernel
theorem dX12_layOrder_35 : decode bX12_layOrder 35 = .ok (.getfield 47, 3) := by decide +kernel
theorem dX12_layOrder_38 : decode bX12_layOrder 38 = .ok (.iconst 0, 1) := by decide +kernel
theorem dX12_layOrder_39 : decode bX12_layOrder 39 = .ok (.iconst 0, 1) := by decide +kernel
theorem dX12_layOrder_40 : decode bX12_layOrder 40 = .ok (.iastore, 1) := by decide +kernel
theorem dX12_layOrder_41 : decode bX12_layOrder 41 = .ok (.iload_n 3, 1) := by decide +kernel
theorem dX12_layOrder_42 : decode bX12_layOrder 42 = .ok (.ifCond .lt 231, 3) := by decide +kernel
theorem dX12_layOrder_45 : decode bX12_layOrder 45 = .ok (.aload_n 0, 1) := by decide +kernel
theorem dX12_layOrder_46 : decode bX12_layOrder 46 = .ok (.getfield 221, 3) := by decide +kernel
theorem dX12_layOrder_49 : decode bX12_layOrder 49 = .ok (.iload_n 2, 1) := by decide +kernel
theorem dX12_layOrder_50 : decode bX12_layOrder 50 = .ok (.if_icmp .ge 223, 3) := by decide +kernel
theorem dX12_layOrder_53 : decode bX12_layOrder 53 = .ok (.iload_n 3, 1) := by decide +kernel
theorem dX12_layOrder_54 : decode bX12_layOrder 54 = .ok (.iload_n 2, 1) := by decide +kernel
theorem dX12_layOrder_55 : decode bX12_layOrder 55 = .ok (.if_icmp .ne 61, 3) := by decide +kernel
theorem dX12_layOrder_58 : decode bX12_layOrder 58 = .ok (.aload_n 0, 1) := by decide +kernel
theorem dX12_layOrder_59 : decode bX12_layOrder 59 = .ok (.getfield 47, 3) := by decide +kernel
theorem dX12_layOrder_62 : decode bX12_layOrder 62 = .ok (.iload_n 3, 1) := by decide +kernel
theorem dX12_layOrder_63 : decode bX12_layOrder 63 = .ok (.iaload, 1) := by decide +kernel
theorem dX12_layOrder_64 : decode bX12_layOrder 64 = .ok (.aload_n 0, 1) := by decide +kernel
theorem dX12_layOrder_65 : decode bX12_layOrder 65 = .ok (.getfield 221, 3) := by decide +kernel
theorem dX12_layOrder_68 : decode bX12_layOrder 68 = .ok (.if_icmp .le 42, 3) := by decide +kernel
theorem dX12_layOrder_71 : decode bX12_layOrder 71 = .ok (.aload_n 0, 1) := by decide +kernel
theorem dX12_layOrder_72 : decode bX12_layOrder 72 = .ok (.aload_n 0, 1) := by decide +kernel
theorem dX12_layOrder_73 : decode bX12_layOrder 73 = .ok (.getfield 47, 3) := by decide +kernel
theorem dX12_layOrder_76 : decode bX12_layOrder 76 = .ok (.iload_n 3, 1) := by decide +kernel
theorem dX12_layOrder_77 : decode bX12_layOrder 77 = .ok (.iaload, 1) := by decide +kernel
theorem dX12_layOrder_78 : decode bX12_layOrder 78 = .ok (.putfield 221, 3) := by decide +kernel
theorem dX12_layOrder_81 : decode bX12_layOrder 81 = .ok (.iconst 0, 1) := by decide +kernel
theorem dX12_layOrder_82 : decode bX12_layOrder 82 = .ok (.istore 4, 2) := by decide +kernel
theorem dX12_layOrder_84 : decode bX12_layOrder 84 = .ok (.iload 4, 2) := by decide +kernel
theorem dX12_layOrder_86 : decode bX12_layOrder 86 = .ok (.iload_n 2, 1) := by decide +kernel
theorem dX12_layOrder_87 : decode bX12_layOrder 87 = .ok (.if_icmp .ge 23, 3) := by decide +kernel
theorem dX12_layOrder_90 : decode bX12_layOrder 90 = .ok (.aload_n 0, 1) := by decide +kernel
theorem dX12_layOrder_91 : decode bX12_layOrder 91 = .ok (.getfield 50, 3) := by decide +kernel
theorem dX12_layOrder_94 : decode bX12_layOrder 94 = .ok (.iload 4, 2) := by decide +kernel
theorem dX12_layOrder_96 : decode bX12_layOrder 96 = .ok (.aload_n 0, 1) := by decide +kernel
theorem dX12_layOrder_97 : decode bX12_layOrder 97 = .ok (.getfield 41, 3) := by decide +kernel
theorem dX12_layOrder_100 : decode bX12_layOrder 100 = .ok (.iload 4, 2) := by decide +kernel
theorem dX12_layOrder_102 : decode bX12_layOrder 102 = .ok (.iaload, 1) := by decide +kernel
theorem dX12_layOrder_103 : decode bX12_layOrder 103 = .ok (.iastore, 1) := by decide +kernel
theorem dX12_layOrder_104 : decode bX12_layOrder 104 = .ok (.iinc 4 1, 3) := by decide +kernel
theorem dX12_layOrder_107 : decode bX12_layOrder 107 = .ok (.goto (-23), 3) := by decide +kernel
theorem dX12_layOrder_110 : decode bX12_layOrder 110 = .ok (.iinc 3 (-1), 3) := by decide +kernel
theorem dX12_layOrder_113 : decode bX12_layOrder 113 = .ok (.goto (-72), 3) := by decide +kernel
theorem dX12_layOrder_116 : decode bX12_layOrder 116 = .ok (.aload_n 0, 1) := by decide +kernel
theorem dX12_layOrder_117 : decode bX12_layOrder 117 = .ok (.getfield 41, 3) := by decide +kernel
theorem dX12_layOrder_120 : decode bX12_layOrder 120 = .ok (.iload_n 3, 1) := by decide +kernel
theorem dX12_layOrder_121 : decode bX12_layOrder 121 = .ok (.iaload, 1) := by decide +kernel
theorem dX12_layOrder_122 : decode bX12_layOrder 122 = .ok (.iconst 1, 1) := by decide +kernel
theorem dX12_layOrder_123 : decode bX12_layOrder 123 = .ok (.iadd, 1) := by decide +kernel
theorem dX12_layOrder_124 : decode bX12_layOrder 124 = .ok (.istore 4, 2) := by decide +kernel
theorem dX12_layOrder_126 : decode bX12_layOrder 126 = .ok (.iload 4, 2) := by decide +kernel
theorem dX12_layOrder_128 : decode bX12_layOrder 128 = .ok (.aload_n 0, 1) := by decide +kernel
theorem dX12_layOrder_129 : decode bX12_layOrder 129 = .ok (.getfield 13, 3) := by decide +kernel
theorem dX12_layOrder_132 : decode bX12_layOrder 132 = .ok (.iconst 1, 1) := by decide +kernel
theorem dX12_layOrder_133 : decode bX12_layOrder 133 = .ok (.iaload, 1) := by decide +kernel
theorem dX12_layOrder_134 : decode bX12_layOrder 134 = .ok (.if_icmp .ge 28, 3) := by decide +kernel
theorem dX12_layOrder_137 : decode bX12_layOrder 137 = .ok (.iload_n 1, 1) := by decide +kernel
theorem dX12_layOrder_138 : decode bX12_layOrder 138 = .ok (.iload 4, 2) := by decide +kernel
theorem dX12_layOrder_140 : decode bX12_layOrder 140 = .ok (.invokestatic 170, 3) := by decide +kernel
theorem dX12_layOrder_143 : decode bX12_layOrder 143 = .ok (.ifCond .eq 13, 3) := by decide +kernel
theorem dX12_layOrder_146 : decode bX12_layOrder 146 = .ok (.aload_n 0, 1) := by decide +kernel
theorem dX12_layOrder_147 : decode bX12_layOrder 147 = .ok (.iload 4, 2) := by decide +kernel
theorem dX12_layOrder_149 : decode bX12_layOrder 149 = .ok (.iload_n 3, 1) := by decide +kernel
theorem dX12_layOrder_150 : decode bX12_layOrder 150 = .ok (.invokevirtual 224, 3) := by decide +kernel
theorem dX12_layOrder_153 : decode bX12_layOrder 153 = .ok (.ifCond .eq 9, 3) := by decide +kernel
theorem dX12_layOrder_156 : decode bX12_layOrder 156 = .ok (.iinc 4 1, 3) := by decide +kernel
theorem dX12_layOrder_159 : decode bX12_layOrder 159 = .ok (.goto (-33), 3) := by decide +kernel
theorem dX12_layOrder_162 : decode bX12_layOrder 162 = .ok (.aload_n 0, 1) := by decide +kernel
theorem dX12_layOrder_163 : decode bX12_layOrder 163 = .ok (.getfield 41, 3) := by decide +kernel
theorem dX12_layOrder_166 : decode bX12_layOrder 166 = .ok (.iload_n 3, 1) := by decide +kernel
theorem dX12_layOrder_167 : decode bX12_layOrder 167 = .ok (.iload 4, 2) := by decide +kernel
theorem dX12_layOrder_169 : decode bX12_layOrder 169 = .ok (.iastore, 1) := by decide +kernel
theorem dX12_layOrder_170 : decode bX12_layOrder 170 = .ok (.iload 4, 2) := by decide +kernel
theorem dX12_layOrder_172 : decode bX12_layOrder 172 = .ok (.aload_n 0, 1) := by decide +kernel
theorem dX12_layOrder_173 : decode bX12_layOrder 173 = .ok (.getfield 13, 3) := by decide +kernel
theorem dX12_layOrder_176 : decode bX12_layOrder 176 = .ok (.iconst 1, 1) := by decide +kernel
theorem dX12_layOrder_177 : decode bX12_layOrder 177 = .ok (.iaload, 1) := by decide +kernel
theorem dX12_layOrder_178 : decode bX12_layOrder 178 = .ok (.if_icmp .ne 9, 3) := by decide +kernel
theorem dX12_layOrder_181 : decode bX12_layOrder 181 = .ok (.iinc 3 (-1), 3) := by decide +kernel
theorem dX12_layOrder_184 : decode bX12_layOrder 184 = .ok (.goto 86, 3) := by decide +kernel
theorem dX12_layOrder_187 : decode bX12_layOrder 187 = .ok (.aload_n 0, 1) := by decide +kernel
theorem dX12_layOrder_188 : decode bX12_layOrder 188 = .ok (.iload 4, 2) := by decide +kernel
theorem dX12_layOrder_190 : decode bX12_layOrder 190 = .ok (.aload_n 0, 1) := by decide +kernel
theorem dX12_layOrder_191 : decode bX12_layOrder 191 = .ok (.getfield 44, 3) := by decide +kernel
theorem dX12_layOrder_194 : decode bX12_layOrder 194 = .ok (.iload_n 3, 1) := by decide +kernel
theorem dX12_layOrder_195 : decode bX12_layOrder 195 = .ok (.iaload, 1) := by decide +kernel
theorem dX12_layOrder_196 : decode bX12_layOrder 196 = .ok (.aload_n 0, 1) := by decide +kernel
theorem dX12_layOrder_197 : decode bX12_layOrder 197 = .ok (.getfield 13, 3) := by decide +kernel
theorem dX12_layOrder_200 : decode bX12_layOrder 200 = .ok (.iconst 2, 1) := by decide +kernel
theorem dX12_layOrder_201 : decode bX12_layOrder 201 = .ok (.iaload, 1) := by decide +kernel
theorem dX12_layOrder_202 : decode bX12_layOrder 202 = .ok (.invokevirtual 211, 3) := by decide +kernel
theorem dX12_layOrder_205 : decode bX12_layOrder 205 = .ok (.istore 5, 2) := by decide +kernel
theorem dX12_layOrder_207 : decode bX12_layOrder 207 = .ok (.aload_n 0, 1) := by decide +kernel
theorem dX12_layOrder_208 : decode bX12_layOrder 208 = .ok (.getfield 44, 3) := by decide +kernel
theorem dX12_layOrder_211 : decode bX12_layOrder 211 = .ok (.iload_n 3, 1) := by decide +kernel
theorem dX12_layOrder_212 : decode bX12_layOrder 212 = .ok (.iconst 1, 1) := by decide +kernel
theorem dX12_layOrder_213 : decode bX12_layOrder 213 = .ok (.iadd, 1) := by decide +kernel
theorem dX12_layOrder_214 : decode bX12_layOrder 214 = .ok (.aload_n 0, 1) := by decide +kernel
theorem dX12_layOrder_215 : decode bX12_layOrder 215 = .ok (.getfield 44, 3) := by decide +kernel
theorem dX12_layOrder_218 : decode bX12_layOrder 218 = .ok (.iload_n 3, 1) := by decide +kernel
theorem dX12_layOrder_219 : decode bX12_layOrder 219 = .ok (.iaload, 1) := by decide +kernel
theorem dX12_layOrder_220 : decode bX12_layOrder 220 = .ok (.iload 5, 2) := by decide +kernel
theorem dX12_layOrder_222 : decode bX12_layOrder 222 = .ok (.ifCond .eq 10, 3) := by decide +kernel
theorem dX12_layOrder_225 : decode bX12_layOrder 225 = .ok (.aload_n 0, 1) := by decide +kernel
theorem dX12_layOrder_226 : decode bX12_layOrder 226 = .ok (.invokevirtual 201, 3) := by decide +kernel
theorem dX12_layOrder_229 : decode bX12_layOrder 229 = .ok (.goto 4, 3) := by decide +kernel
theorem dX12_layOrder_232 : decode bX12_layOrder 232 = .ok (.iconst 0, 1) := by decide +kernel
theorem dX12_layOrder_233 : decode bX12_layOrder 233 = .ok (.ior, 1) := by decide +kernel
theorem dX12_layOrder_234 : decode bX12_layOrder 234 = .ok (.iastore, 1) := by decide +kernel
theorem dX12_layOrder_235 : decode bX12_layOrder 235 = .ok (.aload_n 0, 1) := by decide +kernel
theorem dX12_layOrder_236 : decode bX12_layOrder 236 = .ok (.getfield 47, 3) := by decide +kernel
theorem dX12_layOrder_239 : decode bX12_layOrder 239 = .ok (.iload_n 3, 1) := by decide +kernel
theorem dX12_layOrder_240 : decode bX12_layOrder 240 = .ok (.iconst 1, 1) := by decide +kernel
theorem dX12_layOrder_241 : decode bX12_layOrder 241 = .ok (.iadd, 1) := by decide +kernel
theorem dX12_layOrder_242 : decode bX12_layOrder 242 = .ok (.aload_n 0, 1) := by decide +kernel
theorem dX12_layOrder_243 : decode bX12_layOrder 243 = .ok (.getfield 47, 3) := by decide +kernel
theorem dX12_layOrder_246 : decode bX12_layOrder 246 = .ok (.iload_n 3, 1) := by decide +kernel
theorem dX12_layOrder_247 : decode bX12_layOrder 247 = .ok (.iaload, 1) := by decide +kernel
theorem dX12_layOrder_248 : decode bX12_layOrder 248 = .ok (.iload 5, 2) := by decide +kernel
theorem dX12_layOrder_250 : decode bX12_layOrder 250 = .ok (.ifCond .eq 7, 3) := by decide +kernel
theorem dX12_layOrder_253 : decode bX12_layOrder 253 = .ok (.iconst 1, 1) := by decide +kernel
theorem dX12_layOrder_254 : decode bX12_layOrder 254 = .ok (.goto 4, 3) := by decide +kernel
theorem dX12_layOrder_257 : decode bX12_layOrder 257 = .ok (.iconst 0, 1) := by decide +kernel
theorem dX12_layOrder_258 : decode bX12_layOrder 258 = .ok (.iadd, 1) := by decide +kernel
theorem dX12_layOrder_259 : decode bX12_layOrder 259 = .ok (.iastore, 1) := by decide +kernel
theorem dX12_layOrder_260 : decode bX12_layOrder 260 = .ok (.iinc 3 1, 3) := by decide +kernel
theorem dX12_layOrder_263 : decode bX12_layOrder 263 = .ok (.aload_n 0, 1) := by decide +kernel
theorem dX12_layOrder_264 : decode bX12_layOrder 264 = .ok (.getfield 41, 3) := by decide +kernel
theorem dX12_layOrder_267 : decode bX12_layOrder 267 = .ok (.iload_n 3, 1) := by decide +kernel
theorem dX12_layOrder_268 : decode bX12_layOrder 268 = .ok (.iconst (-1), 1) := by decide +kernel
theorem dX12_layOrder_269 : decode bX12_layOrder 269 = .ok (.iastore, 1) := by decide +kernel
theorem dX12_layOrder_270 : decode bX12_layOrder 270 = .ok (.goto (-229), 3) := by decide +kernel
theorem dX12_layOrder_273 : decode bX12_layOrder 273 = .ok (.return_, 1) := by decide +kernel
section
variable {p : Program} {l : Launch} {e : Env} {s : State} {m : MethodId} {args : Array Value} {below : List Frame} {meth : Method} {c : Code} {G : GG} {n : Nat} {h' : Hp} {rv : Unit}
set_option maxHeartbeats 4000000
set_option maxRecDepth 100000
theorem j_X12_layOrder_258 (C0 : Cx p s m args meth c G bX12_layOrder RX12 6 none "layOrder") (hN : NT ≤ n) {k41 : Hp → Nat → Int32 → Int32 → Int32 → Option (Unit × Hp)} (ih41 : ∀ {H : Heap} {locs : List Loc} {ls : Array Slot} {h : Hp} {x0 : Nat} {x1 : Int32} {x2 : Int32} {x3 : Int32}, XW G n h s 0 H locs → lv_has ls 6 [(0, .ref (bs G + x0)), (1, .int x1), (2, .int x2), (3, .int x3)] → kd x0 = 12 → k41 h x0 x1 x2 x3 = some (rv, h') → W p l e (rmC 6 0 0) s m args below meth c H locs 0 0 (MQ below (QP G n h' none) args s 0 0 (Ab G)) (F0 m 41 ls [])) {H : Heap} {locs : List Loc} {ls : Array Slot} {h : Hp} {x0 : Nat} {x1 : Int32} {x2 : Int32} {x3 : Int32} {t0 : Nat} {t1 : Int32} {t2 : Int32} {t3 : Int32} (X : XW G n h s 0 H locs) (hl : lv_has ls 6 [(0, .ref (bs G + x0)), (1, .int x1), (2, .int x2), (3, .int x3)]) (o0 : kd x0 = 12) (ot0 : kd t0 = 16) (hf : f_X12_layOrder_258 k41 h x0 x1 x2 x3 t0 t1 t2 t3 = some (rv, h')) : W p l e (rmC 6 0 0) s m args below meth c H locs 0 0 (MQ below (QP G n h' none) args s 0 0 (Ab G)) (F0 m 258 ls [.int t3, .int t2, .int t1, .ref (bs G + t0)]) := by
  obtain ⟨hx, hb, hr, hml, hown, hts, hK, hlocks, hnm⟩ := id C0
  unfold f_X12_layOrder_258 at hf
  refine lv_iadd hx hb dX12_layOrder_258 ?_
  obtain ⟨g1, hf⟩ := gd_e hf
  refine g_is hx hb hK X ot0 hN g1 (by decide) dX12_layOrder_259 (fun H locs X => ?_)
  obtain ⟨h2, e3, hf⟩ := lt_e hf
  rw [← e3] at X
  refine lv_iinc (v := (x3 + (1 : Int32))) (lv' := [(3, .int (x3 + (1 : Int32))), (0, .ref (bs G + x0)), (1, .int x1), (2, .int x2)]) hx hb dX12_layOrder_260 hl (k := 3) rfl rfl (by decide) rfl (fun ls hl => ?_)
  refine lv_aload_n hx hb dX12_layOrder_263 rfl (lv_at hl 1 rfl) ?_
  obtain ⟨g4, hf⟩ := gd_e hf
  refine g_R hx hb hts hown hK X o0 hN g4 fl_X12_41 (by decide) rfl (by decide) dX12_layOrder_264 ?_
  refine lv_iload_n hx hb dX12_layOrder_267 rfl (lv_at hl 0 rfl) ?_
  refine lv_iconst (v := (-1 : Int32)) hx hb dX12_layOrder_268 (by decide) ?_
  obtain ⟨g5, hf⟩ := gd_e hf
  refine g_is hx hb hK X g4 hN g5 (by decide) dX12_layOrder_269 (fun H locs X => ?_)
  obtain ⟨h6, e7, hf⟩ := lt_e hf
  rw [← e7] at X
  refine lv_goto (tgt := 41) hx hb dX12_layOrder_270 (by decide) ?_
  exact ih41 X (lv_sub hl [1, 2, 3, 0] rfl) o0 hf
theorem j_X12_layOrder_233 (C0 : Cx p s m args meth c G bX12_layOrder RX12 6 none "layOrder") (hN : NT ≤ n) {k41 : Hp → Nat → Int32 → Int32 → Int32 → Option (Unit × Hp)} (ih41 : ∀ {H : Heap} {locs : List Loc} {ls : Array Slot} {h : Hp} {x0 : Nat} {x1 : Int32} {x2 : Int32} {x3 : Int32}, XW G n h s 0 H locs → lv_has ls 6 [(0, .ref (bs G + x0)), (1, .int x1), (2, .int x2), (3, .int x3)] → kd x0 = 12 → k41 h x0 x1 x2 x3 = some (rv, h') → W p l e (rmC 6 0 0) s m args below meth c H locs 0 0 (MQ below (QP G n h' none) args s 0 0 (Ab G)) (F0 m 41 ls [])) {H : Heap} {locs : List Loc} {ls : Array Slot} {h : Hp} {x0 : Nat} {x1 : Int32} {x2 : Int32} {x3 : Int32} {x5 : Int32} {t0 : Nat} {t1 : Int32} {t2 : Int32} {t3 : Int32} (X : XW G n h s 0 H locs) (hl : lv_has ls 6 [(0, .ref (bs G + x0)), (1, .int x1), (2, .int x2), (3, .int x3), (5, .int x5)]) (o0 : kd x0 = 12) (ot0 : kd t0 = 16) (hf : f_X12_layOrder_233 k41 h x0 x1 x2 x3 x5 t0 t1 t2 t3 = some (rv, h')) : W p l e (rmC 6 0 0) s m args below meth c H locs 0 0 (MQ below (QP G n h' none) args s 0 0 (Ab G)) (F0 m 233 ls [.int t3, .int t2, .int t1, .ref (bs G + t0)]) := by
  obtain ⟨hx, hb, hr, hml, hown, hts, hK, hlocks, hnm⟩ := id C0
  unfold f_X12_layOrder_233 at hf
  refine lv_ior hx hb dX12_layOrder_233 ?_
  obtain ⟨g1, hf⟩ := gd_e hf
  refine g_is hx hb hK X ot0 hN g1 (by decide) dX12_layOrder_234 (fun H locs X => ?_)
  obtain ⟨h2, e3, hf⟩ := lt_e hf
  rw [← e3] at X
  refine lv_aload_n hx hb dX12_layOrder_235 rfl (lv_at hl 0 rfl) ?_
  obtain ⟨g4, hf⟩ := gd_e hf
  refine g_R hx hb hts hown hK X o0 hN g4 fl_X12_47 (by decide) rfl (by decide) dX12_layOrder_236 ?_
  refine lv_iload_n hx hb dX12_layOrder_239 rfl (lv_at hl 3 rfl) ?_
  refine lv_iconst (v := (1 : Int32)) hx hb dX12_layOrder_240 (by decide) ?_
  refine lv_iadd hx hb dX12_layOrder_241 ?_
  refine lv_aload_n hx hb dX12_layOrder_242 rfl (lv_at hl 0 rfl) ?_
  obtain ⟨g5, hf⟩ := gd_e hf
  refine g_R hx hb hts hown hK X o0 hN g5 fl_X12_47 (by decide) rfl (by decide) dX12_layOrder_243 ?_
  refine lv_iload_n hx hb dX12_layOrder_246 rfl (lv_at hl 3 rfl) ?_
  obtain ⟨g6, hf⟩ := gd_e hf
  refine g_ia hx hb hK X g5 hN g6 (by decide) dX12_layOrder_247 ?_
  refine lv_iload hx hb dX12_layOrder_248 (lv_at hl 4 rfl) ?_
  refine lv_if_eq (tgt := 257) hx hb dX12_layOrder_250 (by decide) (fun c250 => ?_) (fun c250 => ?_)
  · have hf := ite_t hf c250
    refine lv_iconst (v := (0 : Int32)) hx hb dX12_layOrder_257 (by decide) ?_
    exact j_X12_layOrder_258 C0 hN @ih41 X (lv_sub hl [0, 1, 2, 3] rfl) o0 g4 hf
  · have hf := ite_f hf c250
    refine lv_iconst (v := (1 : Int32)) hx hb dX12_layOrder_253 (by decide) ?_
    refine lv_goto (tgt := 258) hx hb dX12_layOrder_254 (by decide) ?_
    exact j_X12_layOrder_258 C0 hN @ih41 X (lv_sub hl [0, 1, 2, 3] rfl) o0 g4 hf
theorem j_X12_layOrder_162 (C0 : Cx p s m args meth c G bX12_layOrder RX12 6 none "layOrder") (hN : NT ≤ n) {k41 : Hp → Nat → Int32 → Int32 → Int32 → Option (Unit × Hp)} (ih41 : ∀ {H : Heap} {locs : List Loc} {ls : Array Slot} {h : Hp} {x0 : Nat} {x1 : Int32} {x2 : Int32} {x3 : Int32}, XW G n h s 0 H locs → lv_has ls 6 [(0, .ref (bs G + x0)), (1, .int x1), (2, .int x2), (3, .int x3)] → kd x0 = 12 → k41 h x0 x1 x2 x3 = some (rv, h') → W p l e (rmC 6 0 0) s m args below meth c H locs 0 0 (MQ below (QP G n h' none) args s 0 0 (Ab G)) (F0 m 41 ls [])) {H : Heap} {locs : List Loc} {ls : Array Slot} {h : Hp} {x0 : Nat} {x1 : Int32} {x2 : Int32} {x3 : Int32} {x4 : Int32} (X : XW G n h s 0 H locs) (hl : lv_has ls 6 [(0, .ref (bs G + x0)), (1, .int x1), (2, .int x2), (3, .int x3), (4, .int x4)]) (o0 : kd x0 = 12) (hf : f_X12_layOrder_162 k41 h x0 x1 x2 x3 x4 = some (rv, h')) : W p l e (rmC 6 0 0) s m args below meth c H locs 0 0 (MQ below (QP G n h' none) args s 0 0 (Ab G)) (F0 m 162 ls []) := by
  obtain ⟨hx, hb, hr, hml, hown, hts, hK, hlocks, hnm⟩ := id C0
  unfold f_X12_layOrder_162 at hf
  refine lv_aload_n hx hb dX12_layOrder_162 rfl (lv_at hl 0 rfl) ?_
  obtain ⟨g1, hf⟩ := gd_e hf
  refine g_R hx hb hts hown hK X o0 hN g1 fl_X12_41 (by decide) rfl (by decide) dX12_layOrder_163 ?_
  refine lv_iload_n hx hb dX12_layOrder_166 rfl (lv_at hl 3 rfl) ?_
  refine lv_iload hx hb dX12_layOrder_167 (lv_at hl 4 rfl) ?_
  obtain ⟨g2, hf⟩ := gd_e hf
  refine g_is hx hb hK X g1 hN g2 (by decide) dX12_layOrder_169 (fun H locs X => ?_)
  obtain ⟨h3, e4, hf⟩ := lt_e hf
  rw [← e4] at X
  refine lv_iload hx hb dX12_layOrder_170 (lv_at hl 4 rfl) ?_
  refine lv_aload_n hx hb dX12_layOrder_172 rfl (lv_at hl 0 rfl) ?_
  obtain ⟨g5, hf⟩ := gd_e hf
  refine g_R hx hb hts hown hK X o0 hN g5 fl_X12_13 (by decide) rfl (by decide) dX12_layOrder_173 ?_
  refine lv_iconst (v := (1 : Int32)) hx hb dX12_layOrder_176 (by decide) ?_
  obtain ⟨g6, hf⟩ := gd_e hf
  refine g_ia hx hb hK X g5 hN g6 (by decide) dX12_layOrder_177 ?_
  refine lv_icmp_ne (tgt := 187) hx hb dX12_layOrder_178 (by decide) (fun c178 => ?_) (fun c178 => ?_)
  · have hf := ite_f hf c178
    refine lv_aload_n hx hb dX12_layOrder_187 rfl (lv_at hl 0 rfl) ?_
    refine lv_iload hx hb dX12_layOrder_188 (lv_at hl 4 rfl) ?_
    refine lv_aload_n hx hb dX12_layOrder_190 rfl (lv_at hl 0 rfl) ?_
    obtain ⟨g7, hf⟩ := gd_e hf
    refine g_R hx hb hts hown hK X o0 hN g7 fl_X12_44 (by decide) rfl (by decide) dX12_layOrder_191 ?_
    refine lv_iload_n hx hb dX12_layOrder_194 rfl (lv_at hl 3 rfl) ?_
    obtain ⟨g8, hf⟩ := gd_e hf
    refine g_ia hx hb hK X g7 hN g8 (by decide) dX12_layOrder_195 ?_
    refine lv_aload_n hx hb dX12_layOrder_196 rfl (lv_at hl 0 rfl) ?_
    obtain ⟨g9, hf⟩ := gd_e hf
    refine g_R hx hb hts hown hK X o0 hN g9 fl_X12_13 (by decide) rfl (by decide) dX12_layOrder_197 ?_
    refine lv_iconst (v := (2 : Int32)) hx hb dX12_layOrder_200 (by decide) ?_
    obtain ⟨g10, hf⟩ := gd_e hf
    refine g_ia hx hb hK X g9 hN g10 (by decide) dX12_layOrder_201 ?_
    obtain ⟨r11, h12, q13, hf⟩ := bd_e hf
    refine c_V0 (As := [.int x4, .int (h3.1 (h3.2 x0 20) x3.toNatClampNeg), .int (h3.1 (h3.2 x0 1) (2 : Int32).toNatClampNeg)]) (rest := []) (st1 := [.int r11]) hx hb hml hown hts hK X (k_X12_hasBest l G n hN q13) o0 hN lc_X12_hasBest lv_X12_211 (ci := 12) rfl rfl (by decide) rfl hl.1 (Nat.le_of_ble_eq_true rfl) dX12_layOrder_202 rfl (fun H locs X => ?_)
    refine lv_istore (lv' := [(5, .int r11), (0, .ref (bs G + x0)), (1, .int x1), (2, .int x2), (3, .int x3), (4, .int x4)]) hx hb dX12_layOrder_205 hl (by decide) rfl (fun ls hl => ?_)
    refine lv_aload_n hx hb dX12_layOrder_207 rfl (lv_at hl 1 rfl) ?_
    obtain ⟨g14, hf⟩ := gd_e hf
    refine g_R hx hb hts hown hK X o0 hN g14 fl_X12_44 (by decide) rfl (by decide) dX12_layOrder_208 ?_
    refine lv_iload_n hx hb dX12_layOrder_211 rfl (lv_at hl 4 rfl) ?_
    refine lv_iconst (v := (1 : Int32)) hx hb dX12_layOrder_212 (by decide) ?_
    refine lv_iadd hx hb dX12_layOrder_213 ?_
    refine lv_aload_n hx hb dX12_layOrder_214 rfl (lv_at hl 1 rfl) ?_
    obtain ⟨g15, hf⟩ := gd_e hf
    refine g_R hx hb hts hown hK X o0 hN g15 fl_X12_44 (by decide) rfl (by decide) dX12_layOrder_215 ?_
    refine lv_iload_n hx hb dX12_layOrder_218 rfl (lv_at hl 4 rfl) ?_
    obtain ⟨g16, hf⟩ := gd_e hf
    refine g_ia hx hb hK X g15 hN g16 (by decide) dX12_layOrder_219 ?_
    refine lv_iload hx hb dX12_layOrder_220 (lv_at hl 0 rfl) ?_
    refine lv_if_eq (tgt := 232) hx hb dX12_layOrder_222 (by decide) (fun c222 => ?_) (fun c222 => ?_)
    · have hf := ite_t hf c222
      refine lv_iconst (v := (0 : Int32)) hx hb dX12_layOrder_232 (by decide) ?_
      exact j_X12_layOrder_233 C0 hN @ih41 X (lv_sub hl [1, 2, 3, 4, 0] rfl) o0 g14 hf
    · have hf := ite_f hf c222
      refine lv_aload_n hx hb dX12_layOrder_225 rfl (lv_at hl 1 rfl) ?_
      obtain ⟨r17, h18, q19, hf⟩ := bd_e hf
      refine c_V0 (As := []) (rest := [.int (h12.1 (h12.2 x0 20) x3.toNatClampNeg), .int (x3 + (1 : Int32)), .ref (bs G + (h12.2 x0 20))]) (st1 := [.int r17, .int (h12.1 (h12.2 x0 20) x3.toNatClampNeg), .int (x3 + (1 : Int32)), .ref (bs G + (h12.2 x0 20))]) hx hb hml hown hts hK X (k_X12_usedSet l G n hN q19) o0 hN lc_X12_usedSet lv_X12_201 (ci := 12) rfl rfl (by decide) rfl hl.1 (Nat.le_of_ble_eq_true rfl) dX12_layOrder_226 rfl (fun H locs X => ?_)
      refine lv_goto (tgt := 233) hx hb dX12_layOrder_229 (by decide) ?_
      exact j_X12_layOrder_233 C0 hN @ih41 X (lv_sub hl [1, 2, 3, 4, 0] rfl) o0 g14 hf
  · have hf := ite_t hf c178
    refine lv_iinc (v := (x3 + (-1 : Int32))) (lv' := [(3, .int (x3 + (-1 : Int32))), (0, .ref (bs G + x0)), (1, .int x1), (2, .int x2), (4, .int x4)]) hx hb dX12_layOrder_181 hl (k := 3) rfl rfl (by decide) rfl (fun ls hl => ?_)
    refine lv_goto (tgt := 270) hx hb dX12_layOrder_184 (by decide) ?_
    refine lv_goto (tgt := 41) hx hb dX12_layOrder_270 (by decide) ?_
    exact ih41 X (lv_sub hl [1, 2, 3, 0] rfl) o0 hf
theorem j_X12_layOrder_126 (C0 : Cx p s m args meth c G bX12_layOrder RX12 6 none "layOrder") (hN : NT ≤ n) {k41 : Hp → Nat → Int32 → Int32 → Int32 → Option (Unit × Hp)} (ih41 : ∀ {H : Heap} {locs : List Loc} {ls : Array Slot} {h : Hp} {x0 : Nat} {x1 : Int32} {x2 : Int32} {x3 : Int32}, XW G n h s 0 H locs → lv_has ls 6 [(0, .ref (bs G + x0)), (1, .int x1), (2, .int x2), (3, .int x3)] → kd x0 = 12 → k41 h x0 x1 x2 x3 = some (rv, h') → W p l e (rmC 6 0 0) s m args below meth c H locs 0 0 (MQ below (QP G n h' none) args s 0 0 (Ab G)) (F0 m 41 ls [])) : ∀ (fu : Nat), ∀ {H : Heap} {locs : List Loc} {ls : Array Slot} {h : Hp} {x0 : Nat} {x1 : Int32} {x2 : Int32} {x3 : Int32} {x4 : Int32}, XW G n h s 0 H locs → lv_has ls 6 [(0, .ref (bs G + x0)), (1, .int x1), (2, .int x2), (3, .int x3), (4, .int x4)] → kd x0 = 12 → f_X12_layOrder_126 k41 fu h x0 x1 x2 x3 x4 = some (rv, h') → W p l e (rmC 6 0 0) s m args below meth c H locs 0 0 (MQ below (QP G n h' none) args s 0 0 (Ab G)) (F0 m 126 ls []) := by
  obtain ⟨hx, hb, hr, hml, hown, hts, hK, hlocks, hnm⟩ := id C0
  intro fu
  induction fu with
  | zero => intro H locs ls h x0 x1 x2 x3 x4 X hl o0 hf; cases hf
  | succ fu ih =>
    intro H locs ls h x0 x1 x2 x3 x4 X hl o0 hf
    rw [f_X12_layOrder_126] at hf
    refine lv_iload hx hb dX12_layOrder_126 (lv_at hl 4 rfl) ?_
    refine lv_aload_n hx hb dX12_layOrder_128 rfl (lv_at hl 0 rfl) ?_
    obtain ⟨g1, hf⟩ := gd_e hf
    refine g_R hx hb hts hown hK X o0 hN g1 fl_X12_13 (by decide) rfl (by decide) dX12_layOrder_129 ?_
    refine lv_iconst (v := (1 : Int32)) hx hb dX12_layOrder_132 (by decide) ?_
    obtain ⟨g2, hf⟩ := gd_e hf
    refine g_ia hx hb hK X g1 hN g2 (by decide) dX12_layOrder_133 ?_
    refine lv_icmp_ge (tgt := 162) hx hb dX12_layOrder_134 (by decide) (fun c134 => ?_) (fun c134 => ?_)
    · have hf := ite_t hf c134
      exact j_X12_layOrder_162 C0 hN @ih41 X (lv_sub hl [0, 1, 2, 3, 4] rfl) o0 hf
    · have hf := ite_f hf c134
      refine lv_iload_n hx hb dX12_layOrder_137 rfl (lv_at hl 1 rfl) ?_
      refine lv_iload hx hb dX12_layOrder_138 (lv_at hl 4 rfl) ?_
      obtain ⟨r3, h4, q5, hf⟩ := bd_e hf
      refine c_S0 (As := [.int x1, .int x4]) (rest := []) (st1 := [.int r3]) hx hb hml hown hts hK X (k_X12_has l G n hN q5) lc_X12_has ls_X12_170 (by decide) rfl hl.1 (Nat.le_of_ble_eq_true rfl) dX12_layOrder_140 rfl (fun H locs X => ?_)
      refine lv_if_eq (tgt := 156) hx hb dX12_layOrder_143 (by decide) (fun c143 => ?_) (fun c143 => ?_)
      · have hf := ite_t hf c143
        refine lv_iinc (v := (x4 + (1 : Int32))) (lv' := [(4, .int (x4 + (1 : Int32))), (0, .ref (bs G + x0)), (1, .int x1), (2, .int x2), (3, .int x3)]) hx hb dX12_layOrder_156 hl (k := 4) rfl rfl (by decide) rfl (fun ls hl => ?_)
        refine lv_goto (tgt := 126) hx hb dX12_layOrder_159 (by decide) ?_
        exact ih X (lv_sub hl [1, 2, 3, 4, 0] rfl) o0 hf
      · have hf := ite_f hf c143
        refine lv_aload_n hx hb dX12_layOrder_146 rfl (lv_at hl 0 rfl) ?_
        refine lv_iload hx hb dX12_layOrder_147 (lv_at hl 4 rfl) ?_
        refine lv_iload_n hx hb dX12_layOrder_149 rfl (lv_at hl 3 rfl) ?_
        obtain ⟨r6, h7, q8, hf⟩ := bd_e hf
        refine c_V0 (As := [.int x4, .int x3]) (rest := []) (st1 := [.int r6]) hx hb hml hown hts hK X (k_X12_isAhead l G n hN q8) o0 hN lc_X12_isAhead lv_X12_224 (ci := 12) rfl rfl (by decide) rfl hl.1 (Nat.le_of_ble_eq_true rfl) dX12_layOrder_150 rfl (fun H locs X => ?_)
        refine lv_if_eq (tgt := 162) hx hb dX12_layOrder_153 (by decide) (fun c153 => ?_) (fun c153 => ?_)
        · have hf := ite_t hf c153
          exact j_X12_layOrder_162 C0 hN @ih41 X (lv_sub hl [0, 1, 2, 3, 4] rfl) o0 hf
        · have hf := ite_f hf c153
          refine lv_iinc (v := (x4 + (1 : Int32))) (lv' := [(4, .int (x4 + (1 : Int32))), (0, .ref (bs G + x0)), (1, .int x1), (2, .int x2), (3, .int x3)]) hx hb dX12_layOrder_156 hl (k := 4) rfl rfl (by decide) rfl (fun ls hl => ?_)
          refine lv_goto (tgt := 126) hx hb dX12_layOrder_159 (by decide) ?_
          exact ih X (lv_sub hl [1, 2, 3, 4, 0] rfl) o0 hf
theorem j_X12_layOrder_84 (C0 : Cx p s m args meth c G bX12_layOrder RX12 6 none "layOrder") (hN : NT ≤ n) {k41 : Hp → Nat → Int32 → Int32 → Int32 → Option (Unit × Hp)} (ih41 : ∀ {H : Heap} {locs : List Loc} {ls : Array Slot} {h : Hp} {x0 : Nat} {x1 : Int32} {x2 : Int32} {x3 : Int32}, XW G n h s 0 H locs → lv_has ls 6 [(0, .ref (bs G + x0)), (1, .int x1), (2, .int x2), (3, .int x3)] → kd x0 = 12 → k41 h x0 x1 x2 x3 = some (rv, h') → W p l e (rmC 6 0 0) s m args below meth c H locs 0 0 (MQ below (QP G n h' none) args s 0 0 (Ab G)) (F0 m 41 ls [])) : ∀ (fu : Nat), ∀ {H : Heap} {locs : List Loc} {ls : Array Slot} {h : Hp} {x0 : Nat} {x1 : Int32} {x2 : Int32} {x3 : Int32} {x4 : Int32}, XW G n h s 0 H locs → lv_has ls 6 [(0, .ref (bs G + x0)), (1, .int x1), (2, .int x2), (3, .int x3), (4, .int x4)] → kd x0 = 12 → f_X12_layOrder_84 k41 fu h x0 x1 x2 x3 x4 = some (rv, h') → W p l e (rmC 6 0 0) s m args below meth c H locs 0 0 (MQ below (QP G n h' none) args s 0 0 (Ab G)) (F0 m 84 ls []) := by
  obtain ⟨hx, hb, hr, hml, hown, hts, hK, hlocks, hnm⟩ := id C0
  intro fu
  induction fu with
  | zero => intro H locs ls h x0 x1 x2 x3 x4 X hl o0 hf; cases hf
  | succ fu ih =>
    intro H locs ls h x0 x1 x2 x3 x4 X hl o0 hf
    rw [f_X12_layOrder_84] at hf
    refine lv_iload hx hb dX12_layOrder_84 (lv_at hl 4 rfl) ?_
    refine lv_iload_n hx hb dX12_layOrder_86 rfl (lv_at hl 2 rfl) ?_
    refine lv_icmp_ge (tgt := 110) hx hb dX12_layOrder_87 (by decide) (fun c87 => ?_) (fun c87 => ?_)
    · have hf := ite_t hf c87
      refine lv_iinc (v := (x3 + (-1 : Int32))) (lv' := [(3, .int (x3 + (-1 : Int32))), (0, .ref (bs G + x0)), (1, .int x1), (2, .int x2), (4, .int x4)]) hx hb dX12_layOrder_110 hl (k := 3) rfl rfl (by decide) rfl (fun ls hl => ?_)
      refine lv_goto (tgt := 41) hx hb dX12_layOrder_113 (by decide) ?_
      exact ih41 X (lv_sub hl [1, 2, 3, 0] rfl) o0 hf
    · have hf := ite_f hf c87
      refine lv_aload_n hx hb dX12_layOrder_90 rfl (lv_at hl 0 rfl) ?_
      obtain ⟨g1, hf⟩ := gd_e hf
      refine g_R hx hb hts hown hK X o0 hN g1 fl_X12_50 (by decide) rfl (by decide) dX12_layOrder_91 ?_
      refine lv_iload hx hb dX12_layOrder_94 (lv_at hl 4 rfl) ?_
      refine lv_aload_n hx hb dX12_layOrder_96 rfl (lv_at hl 0 rfl) ?_
      obtain ⟨g2, hf⟩ := gd_e hf
      refine g_R hx hb hts hown hK X o0 hN g2 fl_X12_41 (by decide) rfl (by decide) dX12_layOrder_97 ?_
      refine lv_iload hx hb dX12_layOrder_100 (lv_at hl 4 rfl) ?_
      obtain ⟨g3, hf⟩ := gd_e hf
      refine g_ia hx hb hK X g2 hN g3 (by decide) dX12_layOrder_102 ?_
      obtain ⟨g4, hf⟩ := gd_e hf
      refine g_is hx hb hK X g1 hN g4 (by decide) dX12_layOrder_103 (fun H locs X => ?_)
      obtain ⟨h5, e6, hf⟩ := lt_e hf
      rw [← e6] at X
      refine lv_iinc (v := (x4 + (1 : Int32))) (lv' := [(4, .int (x4 + (1 : Int32))), (0, .ref (bs G + x0)), (1, .int x1), (2, .int x2), (3, .int x3)]) hx hb dX12_layOrder_104 hl (k := 4) rfl rfl (by decide) rfl (fun ls hl => ?_)
      refine lv_goto (tgt := 84) hx hb dX12_layOrder_107 (by decide) ?_
      exact ih X (lv_sub hl [1, 2, 3, 4, 0] rfl) o0 hf
theorem j_X12_layOrder_41 (C0 : Cx p s m args meth c G bX12_layOrder RX12 6 none "layOrder") (hN : NT ≤ n) : ∀ (fu : Nat), ∀ {H : Heap} {locs : List Loc} {ls : Array Slot} {h : Hp} {x0 : Nat} {x1 : Int32} {x2 : Int32} {x3 : Int32}, XW G n h s 0 H locs → lv_has ls 6 [(0, .ref (bs G + x0)), (1, .int x1), (2, .int x2), (3, .int x3)] → kd x0 = 12 → f_X12_layOrder_41 fu h x0 x1 x2 x3 = some (rv, h') → W p l e (rmC 6 0 0) s m args below meth c H locs 0 0 (MQ below (QP G n h' none) args s 0 0 (Ab G)) (F0 m 41 ls []) := by
  obtain ⟨hx, hb, hr, hml, hown, hts, hK, hlocks, hnm⟩ := id C0
  intro fu
  induction fu with
  | zero => intro H locs ls h x0 x1 x2 x3 X hl o0 hf; cases hf
  | succ fu ih =>
    intro H locs ls h x0 x1 x2 x3 X hl o0 hf
    rw [f_X12_layOrder_41] at hf
    refine lv_iload_n hx hb dX12_layOrder_41 rfl (lv_at hl 3 rfl) ?_
    refine lv_if_lt (tgt := 273) hx hb dX12_layOrder_42 (by decide) (fun c42 => ?_) (fun c42 => ?_)
    · have hf := ite_t hf c42
      exact r_V hx hb hr hlocks X hf dX12_layOrder_273
    · have hf := ite_f hf c42
      refine lv_aload_n hx hb dX12_layOrder_45 rfl (lv_at hl 0 rfl) ?_
      refine g_I hx hb hts hown hK X o0 hN fl_X12_221 (by decide) rfl dX12_layOrder_46 ?_
      refine lv_iload_n hx hb dX12_layOrder_49 rfl (lv_at hl 2 rfl) ?_
      refine lv_icmp_ge (tgt := 273) hx hb dX12_layOrder_50 (by decide) (fun c50 => ?_) (fun c50 => ?_)
      · have hf := ite_t hf c50
        exact r_V hx hb hr hlocks X hf dX12_layOrder_273
      · have hf := ite_f hf c50
        refine lv_iload_n hx hb dX12_layOrder_53 rfl (lv_at hl 3 rfl) ?_
        refine lv_iload_n hx hb dX12_layOrder_54 rfl (lv_at hl 2 rfl) ?_
        refine lv_icmp_ne (tgt := 116) hx hb dX12_layOrder_55 (by decide) (fun c55 => ?_) (fun c55 => ?_)
        · have hf := ite_f hf c55
          refine lv_aload_n hx hb dX12_layOrder_116 rfl (lv_at hl 0 rfl) ?_
          obtain ⟨g1, hf⟩ := gd_e hf
          refine g_R hx hb hts hown hK X o0 hN g1 fl_X12_41 (by decide) rfl (by decide) dX12_layOrder_117 ?_
          refine lv_iload_n hx hb dX12_layOrder_120 rfl (lv_at hl 3 rfl) ?_
          obtain ⟨g2, hf⟩ := gd_e hf
          refine g_ia hx hb hK X g1 hN g2 (by decide) dX12_layOrder_121 ?_
          refine lv_iconst (v := (1 : Int32)) hx hb dX12_layOrder_122 (by decide) ?_
          refine lv_iadd hx hb dX12_layOrder_123 ?_
          refine lv_istore (lv' := [(4, .int ((h.1 (h.2 x0 19) x3.toNatClampNeg) + (1 : Int32))), (0, .ref (bs G + x0)), (1, .int x1), (2, .int x2), (3, .int x3)]) hx hb dX12_layOrder_124 hl (by decide) rfl (fun ls hl => ?_)
          exact j_X12_layOrder_126 C0 hN @ih FU X (lv_sub hl [1, 2, 3, 4, 0] rfl) o0 hf
        · have hf := ite_t hf c55
          refine lv_aload_n hx hb dX12_layOrder_58 rfl (lv_at hl 0 rfl) ?_
          obtain ⟨g3, hf⟩ := gd_e hf
          refine g_R hx hb hts hown hK X o0 hN g3 fl_X12_47 (by decide) rfl (by decide) dX12_layOrder_59 ?_
          refine lv_iload_n hx hb dX12_layOrder_62 rfl (lv_at hl 3 rfl) ?_
          obtain ⟨g4, hf⟩ := gd_e hf
          refine g_ia hx hb hK X g3 hN g4 (by decide) dX12_layOrder_63 ?_
          refine lv_aload_n hx hb dX12_layOrder_64 rfl (lv_at hl 0 rfl) ?_
          refine g_I hx hb hts hown hK X o0 hN fl_X12_221 (by decide) rfl dX12_layOrder_65 ?_
          refine lv_icmp_le (tgt := 110) hx hb dX12_layOrder_68 (by decide) (fun c68 => ?_) (fun c68 => ?_)
          · have hf := ite_t hf c68
            refine lv_iinc (v := (x3 + (-1 : Int32))) (lv' := [(3, .int (x3 + (-1 : Int32))), (0, .ref (bs G + x0)), (1, .int x1), (2, .int x2)]) hx hb dX12_layOrder_110 hl (k := 3) rfl rfl (by decide) rfl (fun ls hl => ?_)
            refine lv_goto (tgt := 41) hx hb dX12_layOrder_113 (by decide) ?_
            exact ih X (lv_sub hl [1, 2, 3, 0] rfl) o0 hf
          · have hf := ite_f hf c68
            refine lv_aload_n hx hb dX12_layOrder_71 rfl (lv_at hl 0 rfl) ?_
            refine lv_aload_n hx hb dX12_layOrder_72 rfl (lv_at hl 0 rfl) ?_
            obtain ⟨g5, hf⟩ := gd_e hf
            refine g_R hx hb hts hown hK X o0 hN g5 fl_X12_47 (by decide) rfl (by decide) dX12_layOrder_73 ?_
            refine lv_iload_n hx hb dX12_layOrder_76 rfl (lv_at hl 3 rfl) ?_
            obtain ⟨g6, hf⟩ := gd_e hf
            refine g_ia hx hb hK X g5 hN g6 (by decide) dX12_layOrder_77 ?_
            refine g_PI hx hb hts hown hK X o0 hN fl_X12_221 ft_12_23 (by decide) rfl dX12_layOrder_78 (fun H locs X => ?_)
            obtain ⟨h7, e8, hf⟩ := lt_e hf
            rw [← e8] at X
            refine lv_iconst (v := (0 : Int32)) hx hb dX12_layOrder_81 (by decide) ?_
            refine lv_istore (lv' := [(4, .int (0 : Int32)), (0, .ref (bs G + x0)), (1, .int x1), (2, .int x2), (3, .int x3)]) hx hb dX12_layOrder_82 hl (by decide) rfl (fun ls hl => ?_)
            exact j_X12_layOrder_84 C0 hN @ih FU X (lv_sub hl [1, 2, 3, 4, 0] rfl) o0 hf
theorem k_X12_layOrder (l : Launch) (G : GG) (n : Nat) (hN : NT ≤ n) {h h' : Hp} {x0 : Nat} {rv : Unit} (hf : f_X12_layOrder h x0 = some (rv, h')) : CT l G n n yX12_layOrder (.code yX12_layOrder bX12_layOrder 6 none) 6 0 0 [.ref (bs G + x0)] h h' none := by
  refine ct_of (maxL := 6) (ret := none) (bytes := bX12_layOrder) (by decide) (Nat.le_of_ble_eq_true rfl) (fun p e s m below meth c C0 X ls hl => ?_)
  have hl : lv_has ls 6 [(0, .ref (bs G + x0))] := hl
  obtain ⟨hx, hb, hr, hml, hown, hts, hK, hlocks, hnm⟩ := id C0
  unfold f_X12_layOrder at hf
  obtain ⟨o0, hf⟩ := gd_e hf
  refine lv_aload_n hx hb dX12_layOrder_0 rfl (lv_at hl 0 rfl) ?_
  obtain ⟨r1, h2, q3, hf⟩ := bd_e hf
  refine c_V0 (As := []) (rest := []) (st1 := [.int r1]) hx hb hml hown hts hK X (k_X12_silent l G n hN q3) o0 hN lc_X12_silent lv_X12_215 (ci := 12) rfl rfl (by decide) rfl hl.1 (Nat.le_of_ble_eq_true rfl) dX12_layOrder_1 rfl (fun H locs X => ?_)
  refine lv_istore_n (lv' := [(1, .int r1), (0, .ref (bs G + x0))]) hx hb dX12_layOrder_4 rfl hl (by decide) rfl (fun ls hl => ?_)
  refine lv_iload_n hx hb dX12_layOrder_5 rfl (lv_at hl 0 rfl) ?_
  obtain ⟨r4, h5, q6, hf⟩ := bd_e hf
  refine c_S0 (As := [.int r1]) (rest := []) (st1 := [.int r4]) hx hb hml hown hts hK X (k_X12_bits l G n hN q6) lc_X12_bits ls_X12_204 (by decide) rfl hl.1 (Nat.le_of_ble_eq_true rfl) dX12_layOrder_6 rfl (fun H locs X => ?_)
  refine lv_istore_n (lv' := [(2, .int r4), (1, .int r1), (0, .ref (bs G + x0))]) hx hb dX12_layOrder_9 rfl hl (by decide) rfl (fun ls hl => ?_)
  refine lv_aload_n hx hb dX12_layOrder_10 rfl (lv_at hl 2 rfl) ?_
  refine lv_iconst (v := (-1 : Int32)) hx hb dX12_layOrder_11 (by decide) ?_
  refine g_PI hx hb hts hown hK X o0 hN fl_X12_221 ft_12_23 (by decide) rfl dX12_layOrder_12 (fun H locs X => ?_)
  obtain ⟨h7, e8, hf⟩ := lt_e hf
  rw [← e8] at X
  refine lv_iconst (v := (0 : Int32)) hx hb dX12_layOrder_15 (by decide) ?_
  refine lv_istore_n (lv' := [(3, .int (0 : Int32)), (2, .int r4), (1, .int r1), (0, .ref (bs G + x0))]) hx hb dX12_layOrder_16 rfl hl (by decide) rfl (fun ls hl => ?_)
  refine lv_aload_n hx hb dX12_layOrder_17 rfl (lv_at hl 3 rfl) ?_
  obtain ⟨g9, hf⟩ := gd_e hf
  refine g_R hx hb hts hown hK X o0 hN g9 fl_X12_41 (by decide) rfl (by decide) dX12_layOrder_18 ?_
  refine lv_iconst (v := (0 : Int32)) hx hb dX12_layOrder_21 (by decide) ?_
  refine lv_iconst (v := (-1 : Int32)) hx hb dX12_layOrder_22 (by decide) ?_
  obtain ⟨g10, hf⟩ := gd_e hf
  refine g_is hx hb hK X g9 hN g10 (by decide) dX12_layOrder_23 (fun H locs X => ?_)
  obtain ⟨h11, e12, hf⟩ := lt_e hf
  rw [← e12] at X
  refine lv_aload_n hx hb dX12_layOrder_24 rfl (lv_at hl 3 rfl) ?_
  obtain ⟨g13, hf⟩ := gd_e hf
  refine g_R hx hb hts hown hK X o0 hN g13 fl_X12_44 (by decide) rfl (by decide) dX12_layOrder_25 ?_
  refine lv_iconst (v := (0 : Int32)) hx hb dX12_layOrder_28 (by decide) ?_
  refine lv_aload_n hx hb dX12_layOrder_29 rfl (lv_at hl 3 rfl) ?_
  obtain ⟨r14, h15, q16, hf⟩ := bd_e hf
  refine c_V0 (As := []) (rest := [.int (0 : Int32), .ref (bs G + (h11.2 x0 20))]) (st1 := [.int r14, .int (0 : Int32), .ref (bs G + (h11.2 x0 20))]) hx hb hml hown hts hK X (k_X12_taken l G n hN q16) o0 hN lc_X12_taken lv_X12_135 (ci := 12) rfl rfl (by decide) rfl hl.1 (Nat.le_of_ble_eq_true rfl) dX12_layOrder_30 rfl (fun H locs X => ?_)
  obtain ⟨g17, hf⟩ := gd_e hf
  refine g_is hx hb hK X g13 hN g17 (by decide) dX12_layOrder_33 (fun H locs X => ?_)
  obtain ⟨h18, e19, hf⟩ := lt_e hf
  rw [← e19] at X
  refine lv_aload_n hx hb dX12_layOrder_34 rfl (lv_at hl 3 rfl) ?_
  obtain ⟨g20, hf⟩ := gd_e hf
  refine g_R hx hb hts hown hK X o0 hN g20 fl_X12_47 (by decide) rfl (by decide) dX12_layOrder_35 ?_
  refine lv_iconst (v := (0 : Int32)) hx hb dX12_layOrder_38 (by decide) ?_
  refine lv_iconst (v := (0 : Int32)) hx hb dX12_layOrder_39 (by decide) ?_
  obtain ⟨g21, hf⟩ := gd_e hf
  refine g_is hx hb hK X g20 hN g21 (by decide) dX12_layOrder_40 (fun H locs X => ?_)
  obtain ⟨h22, e23, hf⟩ := lt_e hf
  rw [← e23] at X
  exact j_X12_layOrder_41 C0 hN FU X (lv_sub hl [3, 2, 1, 0] rfl) o0 hf
end
theorem dX12_order_0 : decode bX12_order 0 = .ok (.aload_n 0, 1) := by decide +kernel
theorem dX12_order_1 : decode bX12_order 1 = .ok (.iconst 0, 1) := by decide +kernel
theorem dX12_order_2 : decode bX12_order 2 = .ok (.putfield 1, 3) := by decide +kernel
theorem dX12_order_5 : decode bX12_order 5 = .ok (.iload_n 1, 1) := by decide +kernel
theorem dX12_order_6 : decode bX12_order 6 = .ok (.i2l, 1) := by decide +kernel
theorem dX12_order_7 : decode bX12_order 7 = .ok (.ldc2_w 227, 3) := by decide +kernel
theorem dX12_order_10 : decode bX12_order 10 = .ok (.ldc2_w 229, 3) := by decide +kernel
theorem dX12_order_13 : decode bX12_order 13 = .ok (.invokestatic 75, 3) := by decide +kernel
theorem dX12_order_16 : decode bX12_order 16 = .ok (.ifCond .ne 5, 3) := by decide +kernel
theorem dX12_order_19 : decode bX12_order 19 = .ok (.iconst (-1), 1) := by decide +kernel
theorem dX12_order_20 : decode bX12_order 20 = .ok (.ireturn, 1) := by decide +kernel
theorem dX12_order_21 : decode bX12_order 21 = .ok (.aload_n 0, 1) := by decide +kernel
theorem dX12_order_22 : decode bX12_order 22 = .ok (.invokevirtual 231, 3) := by decide +kernel
theorem dX12_order_25 : decode bX12_order 25 = .ok (.iload_n 1, 1) := by decide +kernel
theorem dX12_order_26 : decode bX12_order 26 = .ok (.ifCond .ge 10, 3) := by decide +kernel
theorem dX12_order_29 : decode bX12_order 29 = .ok (.aload_n 0, 1) := by decide +kernel
theorem dX12_order_30 : decode bX12_order 30 = .ok (.getfield 221, 3) := by decide +kernel
theorem dX12_order_33 : decode bX12_order 33 = .ok (.goto 25, 3) := by decide +kernel
theorem dX12_order_36 : decode bX12_order 36 = .ok (.iload_n 1, 1) := by decide +kernel
theorem dX12_order_37 : decode bX12_order 37 = .ok (.aload_n 0, 1) := by decide +kernel
theorem dX12_order_38 : decode bX12_order 38 = .ok (.invokevirtual 215, 3) := by decide +kernel
theorem dX12_order_41 : decode bX12_order 41 = .ok (.invokestatic 204, 3) := by decide +kernel
theorem dX12_order_44 : decode bX12_order 44 = .ok (.if_icmp .ge 12, 3) := by decide +kernel
theorem dX12_order_47 : decode bX12_order 47 = .ok (.aload_n 0, 1) := by decide +kernel
theorem dX12_order_48 : decode bX12_order 48 = .ok (.getfield 50, 3) := by decide +kernel
theorem dX12_order_51 : decode bX12_order 51 = .ok (.iload_n 1, 1) := by decide +kernel
theorem dX12_order_52 : decode bX12_order 52 = .ok (.iaload, 1) := by decide +kernel
theorem dX12_order_53 : decode bX12_order 53 = .ok (.goto 5, 3) := by decide +kernel
theorem dX12_order_56 : decode bX12_order 56 = .ok (.bipush (-4), 2) := by decide +kernel
theorem dX12_order_58 : decode bX12_order 58 = .ok (.ireturn, 1) := by decide +kernel
section
variable {p : Program} {l : Launch} {e : Env} {s : State} {m : MethodId} {args : Array Value} {below : List Frame} {meth : Method} {c : Code} {G : GG} {n : Nat} {h' : Hp} {rv : Int32}
set_option maxHeartbeats 4000000
set_option maxRecDepth 100000
theorem k_X12_order (l : Launch) (G : GG) (n : Nat) (hN : NT ≤ n) {h h' : Hp} {x0 : Nat} {x1 : Int32} {rv : Int32} (hf : f_X12_order h x0 x1 = some (rv, h')) : CT l G n n yX12_order (.code yX12_order bX12_order 2 (some .int)) 7 0 0 [.ref (bs G + x0), .int x1] h h' (some (.int rv)) := by
  refine ct_of (maxL := 2) (ret := (some .int)) (bytes := bX12_order) (by decide) (Nat.le_of_ble_eq_true rfl) (fun p e s m below meth c C0 X ls hl => ?_)
  have hl : lv_has ls 2 [(0, .ref (bs G + x0)), (1, .int x1)] := hl
  obtain ⟨hx, hb, hr, hml, hown, hts, hK, hlocks, hnm⟩ := id C0
  unfold f_X12_order at hf
  obtain ⟨o0, hf⟩ := gd_e hf
  refine lv_aload_n hx hb dX12_order_0 rfl (lv_at hl 0 rfl) ?_
  refine lv_iconst (v := (0 : Int32)) hx hb dX12_order_1 (by decide) ?_
  refine g_PI hx hb hts hown hK X o0 hN fl_X12_1 ft_12_0 (by decide) rfl dX12_order_2 (fun H locs X => ?_)
  obtain ⟨h1, e2, hf⟩ := lt_e hf
  rw [← e2] at X
  refine lv_iload_n hx hb dX12_order_5 rfl (lv_at hl 1 rfl) ?_
  refine lv_i2l hx hb dX12_order_6 rfl ?_
  refine lv_ldc2 hx hb hown (hts _ cn_X12_227) dX12_order_7 ?_
  refine lv_ldc2 hx hb hown (hts _ cn_X12_229) dX12_order_10 ?_
  obtain ⟨r3, h4, q5, hf⟩ := bd_e hf
  refine c_S0 (As := [.long x1.toInt64, .long (-1 : Int64), .long (5 : Int64)]) (rest := []) (st1 := [.int r3]) hx hb hml hown hts hK X (k_X12_in l G n hN q5) lc_X12_in ls_X12_75 (by decide) rfl hl.1 (Nat.le_of_ble_eq_true rfl) dX12_order_13 rfl (fun H locs X => ?_)
  refine lv_if_ne (tgt := 21) hx hb dX12_order_16 (by decide) (fun c16 => ?_) (fun c16 => ?_)
  · have hf := ite_f hf c16
    refine lv_aload_n hx hb dX12_order_21 rfl (lv_at hl 0 rfl) ?_
    obtain ⟨r6, h7, q8, hf⟩ := bd_e hf
    refine c_V0 (As := []) (rest := []) (st1 := []) hx hb hml hown hts hK X (k_X12_layOrder l G n hN q8) o0 hN lc_X12_layOrder lv_X12_231 (ci := 12) rfl rfl (by decide) rfl hl.1 (Nat.le_of_ble_eq_true rfl) dX12_order_22 rfl (fun H locs X => ?_)
    refine lv_iload_n hx hb dX12_order_25 rfl (lv_at hl 1 rfl) ?_
    refine lv_if_ge (tgt := 36) hx hb dX12_order_26 (by decide) (fun c26 => ?_) (fun c26 => ?_)
    · have hf := ite_t hf c26
      refine lv_iload_n hx hb dX12_order_36 rfl (lv_at hl 1 rfl) ?_
      refine lv_aload_n hx hb dX12_order_37 rfl (lv_at hl 0 rfl) ?_
      obtain ⟨r9, h10, q11, hf⟩ := bd_e hf
      refine c_V0 (As := []) (rest := [.int x1]) (st1 := [.int r9, .int x1]) hx hb hml hown hts hK X (k_X12_silent l G n hN q11) o0 hN lc_X12_silent lv_X12_215 (ci := 12) rfl rfl (by decide) rfl hl.1 (Nat.le_of_ble_eq_true rfl) dX12_order_38 rfl (fun H locs X => ?_)
      obtain ⟨r12, h13, q14, hf⟩ := bd_e hf
      refine c_S0 (As := [.int r9]) (rest := [.int x1]) (st1 := [.int r12, .int x1]) hx hb hml hown hts hK X (k_X12_bits l G n hN q14) lc_X12_bits ls_X12_204 (by decide) rfl hl.1 (Nat.le_of_ble_eq_true rfl) dX12_order_41 rfl (fun H locs X => ?_)
      refine lv_icmp_ge (tgt := 56) hx hb dX12_order_44 (by decide) (fun c44 => ?_) (fun c44 => ?_)
      · have hf := ite_t hf c44
        refine lv_bipush (v := (-4 : Int32)) hx hb dX12_order_56 (by decide) ?_
        exact r_I hx hb hr hlocks X hf dX12_order_58
      · have hf := ite_f hf c44
        refine lv_aload_n hx hb dX12_order_47 rfl (lv_at hl 0 rfl) ?_
        obtain ⟨g15, hf⟩ := gd_e hf
        refine g_R hx hb hts hown hK X o0 hN g15 fl_X12_50 (by decide) rfl (by decide) dX12_order_48 ?_
        refine lv_iload_n hx hb dX12_order_51 rfl (lv_at hl 1 rfl) ?_
        obtain ⟨g16, hf⟩ := gd_e hf
        refine g_ia hx hb hK X g15 hN g16 (by decide) dX12_order_52 ?_
        refine lv_goto (tgt := 58) hx hb dX12_order_53 (by decide) ?_
        exact r_I hx hb hr hlocks X hf dX12_order_58
    · have hf := ite_f hf c26
      refine lv_aload_n hx hb dX12_order_29 rfl (lv_at hl 0 rfl) ?_
      refine g_I hx hb hts hown hK X o0 hN fl_X12_221 (by decide) rfl dX12_order_30 ?_
      refine lv_goto (tgt := 58) hx hb dX12_order_33 (by decide) ?_
      exact r_I hx hb hr hlocks X hf dX12_order_58
  · have hf := ite_t hf c16
    refine lv_iconst (v := (-1 : Int32)) hx hb dX12_order_19 (by decide) ?_
    exact r_I hx hb hr hlocks X hf dX12_order_20
end
