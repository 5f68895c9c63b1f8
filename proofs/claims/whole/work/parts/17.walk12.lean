theorem dX12_readingsBy_0 : decode bX12_readingsBy 0 = .ok (.iconst 0, 1) := by decide +kernel
theorem dX12_readingsBy_1 : decode bX12_readingsBy 1 = .ok (.istore_n 3, 1) := by decide +kernel
theorem dX12_readingsBy_2 : decode bX12_readingsBy 2 = .ok (.iload_n 3, 1) := by decide +kernel
theorem dX12_readingsBy_3 : decode bX12_readingsBy 3 = .ok (.bipush 64, 2) := by decide +kernel
theorem dX12_readingsBy_5 : decode bX12_readingsBy 5 = .ok (.if_icmp .ge 24, 3) := by decide +kernel
theorem dX12_readingsBy_8 : decode bX12_readingsBy 8 = .ok (.aload_n 0, 1) := by decide +kernel
theorem dX12_readingsBy_9 : decode bX12_readingsBy 9 = .ok (.getfield 65, 3) := by decide +kernel
theorem dX12_readingsBy_12 : decode bX12_readingsBy 12 = .ok (.iload_n 3, 1) := by decide +kernel
theorem dX12_readingsBy_13 : decode bX12_readingsBy 13 = .ok (.iload_n 3, 1) := by decide +kernel
theorem dX12_readingsBy_14 : decode bX12_readingsBy 14 = .ok (.ifCond .ne 7, 3) := by decide +kernel
theorem dX12_readingsBy_17 : decode bX12_readingsBy 17 = .ok (.iconst 1, 1) := by decide +kernel
theorem dX12_readingsBy_18 : decode bX12_readingsBy 18 = .ok (.goto 4, 3) := by decide +kernel
theorem dX12_readingsBy_21 : decode bX12_readingsBy 21 = .ok (.iconst 0, 1) := by decide +kernel
theorem dX12_readingsBy_22 : decode bX12_readingsBy 22 = .ok (.iastore, 1) := by decide +kernel
theorem dX12_readingsBy_23 : decode bX12_readingsBy 23 = .ok (.iinc 3 1, 3) := by decide +kernel
theorem dX12_readingsBy_26 : decode bX12_readingsBy 26 = .ok (.goto (-24), 3) := by decide +kernel
theorem dX12_readingsBy_29 : decode bX12_readingsBy 29 = .ok (.iconst 0, 1) := by decide +kernel
theorem dX12_readingsBy_30 : decode bX12_readingsBy 30 = .ok (.istore_n 3, 1) := by decide +kernel
theorem dX12_readingsBy_31 : decode bX12_readingsBy 31 = .ok (.iload_n 3, 1) := by decide +kernel
theorem dX12_readingsBy_32 : decode bX12_readingsBy 32 = .ok (.aload_n 0, 1) := by decide +kernel
theorem dX12_readingsBy_33 : decode bX12_readingsBy 33 = .ok (.getfield 116, 3) := by decide +kernel
theorem dX12_readingsBy_36 : decode bX12_readingsBy 36 = .ok (.if_icmp .ge 119, 3) := by decide +kernel
theorem dX12_readingsBy_39 : decode bX12_readingsBy 39 = .ok (.iload_n 3, 1) := by decide +kernel
theorem dX12_readingsBy_40 : decode bX12_readingsBy 40 = .ok (.iload_n 1, 1) := by decide +kernel
theorem dX12_readingsBy_41 : decode bX12_readingsBy 41 = .ok (.if_icmp .ne 14, 3) := by decide +kernel
theorem dX12_readingsBy_44 : decode bX12_readingsBy 44 = .ok (.aload_n 0, 1) := by decide +kernel
theorem dX12_readingsBy_45 : decode bX12_readingsBy 45 = .ok (.getfield 62, 3) := by decide +kernel
theorem dX12_readingsBy_48 : decode bX12_readingsBy 48 = .ok (.iload_n 3, 1) := by decide +kernel
theorem dX12_readingsBy_49 : decode bX12_readingsBy 49 = .ok (.iaload, 1) := by decide +kernel
theorem dX12_readingsBy_50 : decode bX12_readingsBy 50 = .ok (.iload_n 2, 1) := by decide +kernel
theorem dX12_readingsBy_51 : decode bX12_readingsBy 51 = .ok (.iand, 1) := by decide +kernel
theorem dX12_readingsBy_52 : decode bX12_readingsBy 52 = .ok (.goto 9, 3) := by decide +kernel
theorem dX12_readingsBy_55 : decode bX12_readingsBy 55 = .ok (.aload_n 0, 1) := by decide +kernel
theorem dX12_readingsBy_56 : decode bX12_readingsBy 56 = .ok (.getfield 62, 3) := by decide +kernel
theorem dX12_readingsBy_59 : decode bX12_readingsBy 59 = .ok (.iload_n 3, 1) := by decide +kernel
theorem dX12_readingsBy_60 : decode bX12_readingsBy 60 = .ok (.iaload, 1) := by decide +kernel
theorem dX12_readingsBy_61 : decode bX12_readingsBy 61 = .ok (.istore 4, 2) := by decide +kernel
theorem dX12_readingsBy_63 : decode bX12_readingsBy 63 = .ok (.bipush 63, 2) := by decide +kernel
theorem dX12_readingsBy_65 : decode bX12_readingsBy 65 = .ok (.istore 5, 2) := by decide +kernel
theorem dX12_readingsBy_67 : decode bX12_readingsBy 67 = .ok (.iload 5, 2) := by decide +kernel
theorem dX12_readingsBy_69 : decode bX12_readingsBy 69 = .ok (.ifCond .lt 80, 3) := by decide +kernel
theorem dX12_readingsBy_72 : decode bX12_readingsBy 72 = .ok (.iconst 0, 1) := by decide +kernel
theorem dX12_readingsBy_73 : decode bX12_readingsBy 73 = .ok (.istore 6, 2) := by decide +kernel
theorem dX12_readingsBy_75 : decode bX12_readingsBy 75 = .ok (.iconst 0, 1) := by decide +kernel
theorem dX12_readingsBy_76 : decode bX12_readingsBy 76 = .ok (.istore 7, 2) := by decide +kernel
theorem dX12_readingsBy_78 : decode bX12_readingsBy 78 = .ok (.iload 7, 2) := by decide +kernel
theorem dX12_readingsBy_80 : decode bX12_readingsBy 80 = .ok (.bipush 6, 2) := by decide +kernel
theorem dX12_readingsBy_82 : decode bX12_readingsBy 82 = .ok (.if_icmp .ge 52, 3) := by decide +kernel
theorem dX12_readingsBy_85 : decode bX12_readingsBy 85 = .ok (.iload 6, 2) := by decide +kernel
theorem dX12_readingsBy_87 : decode bX12_readingsBy 87 = .ok (.iload 5, 2) := by decide +kernel
theorem dX12_readingsBy_89 : decode bX12_readingsBy 89 = .ok (.iload 7, 2) := by decide +kernel
theorem dX12_readingsBy_91 : decode bX12_readingsBy 91 = .ok (.invokestatic 170, 3) := by decide +kernel
theorem dX12_readingsBy_94 : decode bX12_readingsBy 94 = .ok (.ifCond .eq 30, 3) := by decide +kernel
theorem dX12_readingsBy_97 : decode bX12_readingsBy 97 = .ok (.iload 4, 2) := by decide +kernel
theorem dX12_readingsBy_99 : decode bX12_readingsBy 99 = .ok (.iload 7, 2) := by decide +kernel
theorem dX12_readingsBy_101 : decode bX12_readingsBy 101 = .ok (.invokestatic 170, 3) := by decide +kernel
theorem dX12_readingsBy_104 : decode bX12_readingsBy 104 = .ok (.ifCond .eq 20, 3) := by decide +kernel
theorem dX12_readingsBy_107 : decode bX12_readingsBy 107 = .ok (.aload_n 0, 1) := by decide +kernel
theorem dX12_readingsBy_108 : decode bX12_readingsBy 108 = .ok (.getfield 65, 3) := by decide +kernel
theorem dX12_readingsBy_111 : decode bX12_readingsBy 111 = .ok (.iload 5, 2) := by decide +kernel
theorem dX12_readingsBy_113 : decode bX12_readingsBy 113 = .ok (.iconst 1, 1) := by decide +kernel
theorem dX12_readingsBy_114 : decode bX12_readingsBy 114 = .ok (.iload 7, 2) := by decide +kernel
theorem dX12_readingsBy_116 : decode bX12_readingsBy 116 = .ok (.ishl, 1) := by decide +kernel
theorem dX12_readingsBy_117 : decode bX12_readingsBy 117 = .ok (.iconst (-1), 1) := by decide +kernel
theorem dX12_readingsBy_118 : decode bX12_readingsBy 118 = .ok (.ixor, 1) := by decide +kernel
theorem dX12_readingsBy_119 : decode bX12_readingsBy 119 = .ok (.iand, 1) := by decide +kernel
theorem dX12_readingsBy_120 : decode bX12_readingsBy 120 = .ok (.iaload, 1) := by decide +kernel
theorem dX12_readingsBy_121 : decode bX12_readingsBy 121 = .ok (.goto 4, 3) := by decide +kernel
theorem dX12_readingsBy_124 : decode bX12_readingsBy 124 = .ok (.iconst 0, 1) := by decide +kernel
theorem dX12_readingsBy_125 : decode bX12_readingsBy 125 = .ok (.iadd, 1) := by decide +kernel
theorem dX12_readingsBy_126 : decode bX12_readingsBy 126 = .ok (.istore 6, 2) := by decide +kernel
theorem dX12_readingsBy_128 : decode bX12_readingsBy 128 = .ok (.iinc 7 1, 3) := by decide +kernel
theorem dX12_readingsBy_131 : decode bX12_readingsBy 131 = .ok (.goto (-53), 3) := by decide +kernel
theorem dX12_readingsBy_134 : decode bX12_readingsBy 134 = .ok (.aload_n 0, 1) := by decide +kernel
theorem dX12_readingsBy_135 : decode bX12_readingsBy 135 = .ok (.getfield 65, 3) := by decide +kernel
theorem dX12_readingsBy_138 : decode bX12_readingsBy 138 = .ok (.iload 5, 2) := by decide +kernel
theorem dX12_readingsBy_140 : decode bX12_readingsBy 140 = .ok (.iload 6, 2) := by decide +kernel
theorem dX12_readingsBy_142 : decode bX12_readingsBy 142 = .ok (.iastore, 1) := by decide +kernel
theorem dX12_readingsBy_143 : decode bX12_readingsBy 143 = .ok (.iinc 5 (-1), 3) := by decide +kernel
theorem dX12_readingsBy_146 : decode bX12_readingsBy 146 = .ok (.goto (-79), 3) := by decide +kernel
theorem dX12_readingsBy_149 : decode bX12_readingsBy 149 = .ok (.iinc 3 1, 3) := by decide +kernel
theorem dX12_readingsBy_152 : decode bX12_readingsBy 152 = .ok (.goto (-121), 3) := by decide +kernel
theorem dX12_readingsBy_155 : decode bX12_readingsBy 155 = .ok (.iconst 0, 1) := by decide +kernel
theorem dX12_readingsBy_156 : decode bX12_readingsBy 156 = .ok (.istore_n 3, 1) := by decide +kernel
theorem dX12_readingsBy_157 : decode bX12_readingsBy 157 = .ok (.iconst 0, 1) := by decide +kernel
theorem dX12_readingsBy_158 : decode bX12_readingsBy 158 = .ok (.istore 4, 2) := by decide +kernel
theorem dX12_readingsBy_160 : decode bX12_readingsBy 160 = .ok (.iload 4, 2) := by decide +kernel
theorem dX12_readingsBy_162 : decode bX12_readingsBy 162 = .ok (.bipush 64, 2) := by decide +kernel
theorem dX12_readingsBy_164 : decode bX12_readingsBy 164 = .ok (.if_icmp .ge 19, 3) := by decide +kernel
theorem dX12_readingsBy_167 : decode bX12_readingsBy 167 = .ok (.iload_n 3, 1) := by decide +kernel
theorem dX12_readingsBy_168 : decode bX12_readingsBy 168 = .ok (.aload_n 0, 1) := by decide +kernel
theorem dX12_readingsBy_169 : decode bX12_readingsBy 169 = .ok (.getfield 65, 3) := by decide +kernel
theorem dX12_readingsBy_172 : decode bX12_readingsBy 172 = .ok (.iload 4, 2) := by decide +kernel
theorem dX12_readingsBy_174 : decode bX12_readingsBy 174 = .ok (.iaload, 1) := by decide +kernel
theorem dX12_readingsBy_175 : decode bX12_readingsBy 175 = .ok (.iadd, 1) := by decide +kernel
theorem dX12_readingsBy_176 : decode bX12_readingsBy 176 = .ok (.istore_n 3, 1) := by decide +kernel
theorem dX12_readingsBy_177 : decode bX12_readingsBy 177 = .ok (.iinc 4 1, 3) := by decide +kernel
theorem dX12_readingsBy_180 : decode bX12_readingsBy 180 = .ok (.goto (-20), 3) := by decide +kernel
theorem dX12_readingsBy_183 : decode bX12_readingsBy 183 = .ok (.iload_n 3, 1) := by decide +kernel
theorem dX12_readingsBy_184 : decode bX12_readingsBy 184 = .ok (.ireturn, 1) := by decide +kernel
section
variable {p : Program} {l : Launch} {e : Env} {s : State} {m : MethodId} {args : Array Value} {below : List Frame} {meth : Method} {c : Code} {G : GG} {n : Nat} {h' : Hp} {rv : Int32}
set_option maxHeartbeats 4000000
set_option maxRecDepth 100000
theorem j_X12_readingsBy_160 (C0 : Cx p s m args meth c G bX12_readingsBy RX12 8 (some .int) "readingsBy") (hN : NT ≤ n) : ∀ (fu : Nat), ∀ {H : Heap} {locs : List Loc} {ls : Array Slot} {h : Hp} {x0 : Nat} {x3 : Int32} {x4 : Int32}, XW G n h s 0 H locs → lv_has ls 8 [(0, .ref (bs G + x0)), (3, .int x3), (4, .int x4)] → kd x0 = 12 → f_X12_readingsBy_160 fu h x0 x3 x4 = some (rv, h') → W p l e (rmC 1 0 0) s m args below meth c H locs 0 0 (MQ below (QP G n h' (some (.int rv))) args s 0 0 (Ab G)) (F0 m 160 ls []) := by
  obtain ⟨hx, hb, hr, hml, hown, hts, hK, hlocks, hnm⟩ := id C0
  intro fu
  induction fu with
  | zero => intro H locs ls h x0 x3 x4 X hl o0 hf; cases hf
  | succ fu ih =>
    intro H locs ls h x0 x3 x4 X hl o0 hf
    rw [f_X12_readingsBy_160] at hf
    refine lv_iload hx hb dX12_readingsBy_160 (lv_at hl 2 rfl) ?_
    refine lv_bipush (v := (64 : Int32)) hx hb dX12_readingsBy_162 (by decide) ?_
    refine lv_icmp_ge (tgt := 183) hx hb dX12_readingsBy_164 (by decide) (fun c164 => ?_) (fun c164 => ?_)
    · have hf := ite_t hf c164
      refine lv_iload_n hx hb dX12_readingsBy_183 rfl (lv_at hl 1 rfl) ?_
      exact r_I hx hb hr hlocks X hf dX12_readingsBy_184
    · have hf := ite_f hf c164
      refine lv_iload_n hx hb dX12_readingsBy_167 rfl (lv_at hl 1 rfl) ?_
      refine lv_aload_n hx hb dX12_readingsBy_168 rfl (lv_at hl 0 rfl) ?_
      obtain ⟨g1, hf⟩ := gd_e hf
      refine g_R hx hb hts hown hK X o0 hN g1 fl_X12_65 (by decide) rfl (by decide) dX12_readingsBy_169 ?_
      refine lv_iload hx hb dX12_readingsBy_172 (lv_at hl 2 rfl) ?_
      obtain ⟨g2, hf⟩ := gd_e hf
      refine g_ia hx hb hK X g1 hN g2 (by decide) dX12_readingsBy_174 ?_
      refine lv_iadd hx hb dX12_readingsBy_175 ?_
      refine lv_istore_n (lv' := [(3, .int (x3 + (h.1 (h.2 x0 29) x4.toNatClampNeg))), (0, .ref (bs G + x0)), (4, .int x4)]) hx hb dX12_readingsBy_176 rfl hl (by decide) rfl (fun ls hl => ?_)
      refine lv_iinc (v := (x4 + (1 : Int32))) (lv' := [(4, .int (x4 + (1 : Int32))), (3, .int (x3 + (h.1 (h.2 x0 29) x4.toNatClampNeg))), (0, .ref (bs G + x0))]) hx hb dX12_readingsBy_177 hl (k := 2) rfl rfl (by decide) rfl (fun ls hl => ?_)
      refine lv_goto (tgt := 160) hx hb dX12_readingsBy_180 (by decide) ?_
      exact ih X (lv_sub hl [2, 1, 0] rfl) o0 hf
theorem j_X12_readingsBy_78 (C0 : Cx p s m args meth c G bX12_readingsBy RX12 8 (some .int) "readingsBy") (hN : NT ≤ n) {k31 : Hp → Nat → Int32 → Int32 → Int32 → Option (Int32 × Hp)} {k67 : Hp → Nat → Int32 → Int32 → Int32 → Int32 → Int32 → Option (Int32 × Hp)} (ih31 : ∀ {H : Heap} {locs : List Loc} {ls : Array Slot} {h : Hp} {x0 : Nat} {x1 : Int32} {x2 : Int32} {x3 : Int32}, XW G n h s 0 H locs → lv_has ls 8 [(0, .ref (bs G + x0)), (1, .int x1), (2, .int x2), (3, .int x3)] → kd x0 = 12 → k31 h x0 x1 x2 x3 = some (rv, h') → W p l e (rmC 1 0 0) s m args below meth c H locs 0 0 (MQ below (QP G n h' (some (.int rv))) args s 0 0 (Ab G)) (F0 m 31 ls [])) (ih67 : ∀ {H : Heap} {locs : List Loc} {ls : Array Slot} {h : Hp} {x0 : Nat} {x1 : Int32} {x2 : Int32} {x3 : Int32} {x4 : Int32} {x5 : Int32}, XW G n h s 0 H locs → lv_has ls 8 [(0, .ref (bs G + x0)), (1, .int x1), (2, .int x2), (3, .int x3), (4, .int x4), (5, .int x5)] → kd x0 = 12 → k67 h x0 x1 x2 x3 x4 x5 = some (rv, h') → W p l e (rmC 1 0 0) s m args below meth c H locs 0 0 (MQ below (QP G n h' (some (.int rv))) args s 0 0 (Ab G)) (F0 m 67 ls [])) : ∀ (fu : Nat), ∀ {H : Heap} {locs : List Loc} {ls : Array Slot} {h : Hp} {x0 : Nat} {x1 : Int32} {x2 : Int32} {x3 : Int32} {x4 : Int32} {x5 : Int32} {x6 : Int32} {x7 : Int32}, XW G n h s 0 H locs → lv_has ls 8 [(0, .ref (bs G + x0)), (1, .int x1), (2, .int x2), (3, .int x3), (4, .int x4), (5, .int x5), (6, .int x6), (7, .int x7)] → kd x0 = 12 → f_X12_readingsBy_78 k31 k67 fu h x0 x1 x2 x3 x4 x5 x6 x7 = some (rv, h') → W p l e (rmC 1 0 0) s m args below meth c H locs 0 0 (MQ below (QP G n h' (some (.int rv))) args s 0 0 (Ab G)) (F0 m 78 ls []) := by
  obtain ⟨hx, hb, hr, hml, hown, hts, hK, hlocks, hnm⟩ := id C0
  intro fu
  induction fu with
  | zero => intro H locs ls h x0 x1 x2 x3 x4 x5 x6 x7 X hl o0 hf; cases hf
  | succ fu ih =>
    intro H locs ls h x0 x1 x2 x3 x4 x5 x6 x7 X hl o0 hf
    rw [f_X12_readingsBy_78] at hf
    refine lv_iload hx hb dX12_readingsBy_78 (lv_at hl 7 rfl) ?_
    refine lv_bipush (v := (6 : Int32)) hx hb dX12_readingsBy_80 (by decide) ?_
    refine lv_icmp_ge (tgt := 134) hx hb dX12_readingsBy_82 (by decide) (fun c82 => ?_) (fun c82 => ?_)
    · have hf := ite_t hf c82
      refine lv_aload_n hx hb dX12_readingsBy_134 rfl (lv_at hl 0 rfl) ?_
      obtain ⟨g1, hf⟩ := gd_e hf
      refine g_R hx hb hts hown hK X o0 hN g1 fl_X12_65 (by decide) rfl (by decide) dX12_readingsBy_135 ?_
      refine lv_iload hx hb dX12_readingsBy_138 (lv_at hl 5 rfl) ?_
      refine lv_iload hx hb dX12_readingsBy_140 (lv_at hl 6 rfl) ?_
      obtain ⟨g2, hf⟩ := gd_e hf
      refine g_is hx hb hK X g1 hN g2 (by decide) dX12_readingsBy_142 (fun H locs X => ?_)
      obtain ⟨h3, e4, hf⟩ := lt_e hf
      rw [← e4] at X
      refine lv_iinc (v := (x5 + (-1 : Int32))) (lv' := [(5, .int (x5 + (-1 : Int32))), (0, .ref (bs G + x0)), (1, .int x1), (2, .int x2), (3, .int x3), (4, .int x4), (6, .int x6), (7, .int x7)]) hx hb dX12_readingsBy_143 hl (k := 5) rfl rfl (by decide) rfl (fun ls hl => ?_)
      refine lv_goto (tgt := 67) hx hb dX12_readingsBy_146 (by decide) ?_
      exact ih67 X (lv_sub hl [1, 2, 3, 4, 5, 0] rfl) o0 hf
    · have hf := ite_f hf c82
      refine lv_iload hx hb dX12_readingsBy_85 (lv_at hl 6 rfl) ?_
      refine lv_iload hx hb dX12_readingsBy_87 (lv_at hl 5 rfl) ?_
      refine lv_iload hx hb dX12_readingsBy_89 (lv_at hl 7 rfl) ?_
      obtain ⟨r5, h6, q7, hf⟩ := bd_e hf
      refine c_S0 (As := [.int x5, .int x7]) (rest := [.int x6]) (st1 := [.int r5, .int x6]) hx hb hml hown hts hK X (k_X12_has l G n hN q7) lc_X12_has ls_X12_170 (by decide) rfl hl.1 (Nat.le_of_ble_eq_true rfl) dX12_readingsBy_91 rfl (fun H locs X => ?_)
      refine lv_if_eq (tgt := 124) hx hb dX12_readingsBy_94 (by decide) (fun c94 => ?_) (fun c94 => ?_)
      · have hf := ite_t hf c94
        refine lv_iconst (v := (0 : Int32)) hx hb dX12_readingsBy_124 (by decide) ?_
        refine lv_iadd hx hb dX12_readingsBy_125 ?_
        refine lv_istore (lv' := [(6, .int (x6 + (0 : Int32))), (0, .ref (bs G + x0)), (1, .int x1), (2, .int x2), (3, .int x3), (4, .int x4), (5, .int x5), (7, .int x7)]) hx hb dX12_readingsBy_126 hl (by decide) rfl (fun ls hl => ?_)
        refine lv_iinc (v := (x7 + (1 : Int32))) (lv' := [(7, .int (x7 + (1 : Int32))), (6, .int (x6 + (0 : Int32))), (0, .ref (bs G + x0)), (1, .int x1), (2, .int x2), (3, .int x3), (4, .int x4), (5, .int x5)]) hx hb dX12_readingsBy_128 hl (k := 7) rfl rfl (by decide) rfl (fun ls hl => ?_)
        refine lv_goto (tgt := 78) hx hb dX12_readingsBy_131 (by decide) ?_
        exact ih X (lv_sub hl [2, 3, 4, 5, 6, 7, 1, 0] rfl) o0 hf
      · have hf := ite_f hf c94
        refine lv_iload hx hb dX12_readingsBy_97 (lv_at hl 4 rfl) ?_
        refine lv_iload hx hb dX12_readingsBy_99 (lv_at hl 7 rfl) ?_
        obtain ⟨r8, h9, q10, hf⟩ := bd_e hf
        refine c_S0 (As := [.int x4, .int x7]) (rest := [.int x6]) (st1 := [.int r8, .int x6]) hx hb hml hown hts hK X (k_X12_has l G n hN q10) lc_X12_has ls_X12_170 (by decide) rfl hl.1 (Nat.le_of_ble_eq_true rfl) dX12_readingsBy_101 rfl (fun H locs X => ?_)
        refine lv_if_eq (tgt := 124) hx hb dX12_readingsBy_104 (by decide) (fun c104 => ?_) (fun c104 => ?_)
        · have hf := ite_t hf c104
          refine lv_iconst (v := (0 : Int32)) hx hb dX12_readingsBy_124 (by decide) ?_
          refine lv_iadd hx hb dX12_readingsBy_125 ?_
          refine lv_istore (lv' := [(6, .int (x6 + (0 : Int32))), (0, .ref (bs G + x0)), (1, .int x1), (2, .int x2), (3, .int x3), (4, .int x4), (5, .int x5), (7, .int x7)]) hx hb dX12_readingsBy_126 hl (by decide) rfl (fun ls hl => ?_)
          refine lv_iinc (v := (x7 + (1 : Int32))) (lv' := [(7, .int (x7 + (1 : Int32))), (6, .int (x6 + (0 : Int32))), (0, .ref (bs G + x0)), (1, .int x1), (2, .int x2), (3, .int x3), (4, .int x4), (5, .int x5)]) hx hb dX12_readingsBy_128 hl (k := 7) rfl rfl (by decide) rfl (fun ls hl => ?_)
          refine lv_goto (tgt := 78) hx hb dX12_readingsBy_131 (by decide) ?_
          exact ih X (lv_sub hl [2, 3, 4, 5, 6, 7, 1, 0] rfl) o0 hf
        · have hf := ite_f hf c104
          refine lv_aload_n hx hb dX12_readingsBy_107 rfl (lv_at hl 0 rfl) ?_
          obtain ⟨g11, hf⟩ := gd_e hf
          refine g_R hx hb hts hown hK X o0 hN g11 fl_X12_65 (by decide) rfl (by decide) dX12_readingsBy_108 ?_
          refine lv_iload hx hb dX12_readingsBy_111 (lv_at hl 5 rfl) ?_
          refine lv_iconst (v := (1 : Int32)) hx hb dX12_readingsBy_113 (by decide) ?_
          refine lv_iload hx hb dX12_readingsBy_114 (lv_at hl 7 rfl) ?_
          refine lv_ishl hx hb dX12_readingsBy_116 ?_
          refine lv_iconst (v := (-1 : Int32)) hx hb dX12_readingsBy_117 (by decide) ?_
          refine lv_ixor hx hb dX12_readingsBy_118 ?_
          refine lv_iand hx hb dX12_readingsBy_119 ?_
          obtain ⟨g12, hf⟩ := gd_e hf
          refine g_ia hx hb hK X g11 hN g12 (by decide) dX12_readingsBy_120 ?_
          refine lv_goto (tgt := 125) hx hb dX12_readingsBy_121 (by decide) ?_
          refine lv_iadd hx hb dX12_readingsBy_125 ?_
          refine lv_istore (lv' := [(6, .int (x6 + (h9.1 (h9.2 x0 29) (x5 &&& (((1 : Int32) <<< (x7 &&& 31)) ^^^ (-1 : Int32))).toNatClampNeg))), (0, .ref (bs G + x0)), (1, .int x1), (2, .int x2), (3, .int x3), (4, .int x4), (5, .int x5), (7, .int x7)]) hx hb dX12_readingsBy_126 hl (by decide) rfl (fun ls hl => ?_)
          refine lv_iinc (v := (x7 + (1 : Int32))) (lv' := [(7, .int (x7 + (1 : Int32))), (6, .int (x6 + (h9.1 (h9.2 x0 29) (x5 &&& (((1 : Int32) <<< (x7 &&& 31)) ^^^ (-1 : Int32))).toNatClampNeg))), (0, .ref (bs G + x0)), (1, .int x1), (2, .int x2), (3, .int x3), (4, .int x4), (5, .int x5)]) hx hb dX12_readingsBy_128 hl (k := 7) rfl rfl (by decide) rfl (fun ls hl => ?_)
          refine lv_goto (tgt := 78) hx hb dX12_readingsBy_131 (by decide) ?_
          exact ih X (lv_sub hl [2, 3, 4, 5, 6, 7, 1, 0] rfl) o0 hf
theorem j_X12_readingsBy_67 (C0 : Cx p s m args meth c G bX12_readingsBy RX12 8 (some .int) "readingsBy") (hN : NT ≤ n) {k31 : Hp → Nat → Int32 → Int32 → Int32 → Option (Int32 × Hp)} (ih31 : ∀ {H : Heap} {locs : List Loc} {ls : Array Slot} {h : Hp} {x0 : Nat} {x1 : Int32} {x2 : Int32} {x3 : Int32}, XW G n h s 0 H locs → lv_has ls 8 [(0, .ref (bs G + x0)), (1, .int x1), (2, .int x2), (3, .int x3)] → kd x0 = 12 → k31 h x0 x1 x2 x3 = some (rv, h') → W p l e (rmC 1 0 0) s m args below meth c H locs 0 0 (MQ below (QP G n h' (some (.int rv))) args s 0 0 (Ab G)) (F0 m 31 ls [])) : ∀ (fu : Nat), ∀ {H : Heap} {locs : List Loc} {ls : Array Slot} {h : Hp} {x0 : Nat} {x1 : Int32} {x2 : Int32} {x3 : Int32} {x4 : Int32} {x5 : Int32}, XW G n h s 0 H locs → lv_has ls 8 [(0, .ref (bs G + x0)), (1, .int x1), (2, .int x2), (3, .int x3), (4, .int x4), (5, .int x5)] → kd x0 = 12 → f_X12_readingsBy_67 k31 fu h x0 x1 x2 x3 x4 x5 = some (rv, h') → W p l e (rmC 1 0 0) s m args below meth c H locs 0 0 (MQ below (QP G n h' (some (.int rv))) args s 0 0 (Ab G)) (F0 m 67 ls []) := by
  obtain ⟨hx, hb, hr, hml, hown, hts, hK, hlocks, hnm⟩ := id C0
  intro fu
  induction fu with
  | zero => intro H locs ls h x0 x1 x2 x3 x4 x5 X hl o0 hf; cases hf
  | succ fu ih =>
    intro H locs ls h x0 x1 x2 x3 x4 x5 X hl o0 hf
    rw [f_X12_readingsBy_67] at hf
    refine lv_iload hx hb dX12_readingsBy_67 (lv_at hl 5 rfl) ?_
    refine lv_if_lt (tgt := 149) hx hb dX12_readingsBy_69 (by decide) (fun c69 => ?_) (fun c69 => ?_)
    · have hf := ite_t hf c69
      refine lv_iinc (v := (x3 + (1 : Int32))) (lv' := [(3, .int (x3 + (1 : Int32))), (0, .ref (bs G + x0)), (1, .int x1), (2, .int x2), (4, .int x4), (5, .int x5)]) hx hb dX12_readingsBy_149 hl (k := 3) rfl rfl (by decide) rfl (fun ls hl => ?_)
      refine lv_goto (tgt := 31) hx hb dX12_readingsBy_152 (by decide) ?_
      exact ih31 X (lv_sub hl [1, 2, 3, 0] rfl) o0 hf
    · have hf := ite_f hf c69
      refine lv_iconst (v := (0 : Int32)) hx hb dX12_readingsBy_72 (by decide) ?_
      refine lv_istore (lv' := [(6, .int (0 : Int32)), (0, .ref (bs G + x0)), (1, .int x1), (2, .int x2), (3, .int x3), (4, .int x4), (5, .int x5)]) hx hb dX12_readingsBy_73 hl (by decide) rfl (fun ls hl => ?_)
      refine lv_iconst (v := (0 : Int32)) hx hb dX12_readingsBy_75 (by decide) ?_
      refine lv_istore (lv' := [(7, .int (0 : Int32)), (6, .int (0 : Int32)), (0, .ref (bs G + x0)), (1, .int x1), (2, .int x2), (3, .int x3), (4, .int x4), (5, .int x5)]) hx hb dX12_readingsBy_76 hl (by decide) rfl (fun ls hl => ?_)
      exact j_X12_readingsBy_78 C0 hN @ih31 @ih FU X (lv_sub hl [2, 3, 4, 5, 6, 7, 1, 0] rfl) o0 hf
theorem j_X12_readingsBy_31 (C0 : Cx p s m args meth c G bX12_readingsBy RX12 8 (some .int) "readingsBy") (hN : NT ≤ n) : ∀ (fu : Nat), ∀ {H : Heap} {locs : List Loc} {ls : Array Slot} {h : Hp} {x0 : Nat} {x1 : Int32} {x2 : Int32} {x3 : Int32}, XW G n h s 0 H locs → lv_has ls 8 [(0, .ref (bs G + x0)), (1, .int x1), (2, .int x2), (3, .int x3)] → kd x0 = 12 → f_X12_readingsBy_31 fu h x0 x1 x2 x3 = some (rv, h') → W p l e (rmC 1 0 0) s m args below meth c H locs 0 0 (MQ below (QP G n h' (some (.int rv))) args s 0 0 (Ab G)) (F0 m 31 ls []) := by
  obtain ⟨hx, hb, hr, hml, hown, hts, hK, hlocks, hnm⟩ := id C0
  intro fu
  induction fu with
  | zero => intro H locs ls h x0 x1 x2 x3 X hl o0 hf; cases hf
  | succ fu ih =>
    intro H locs ls h x0 x1 x2 x3 X hl o0 hf
    rw [f_X12_readingsBy_31] at hf
    refine lv_iload_n hx hb dX12_readingsBy_31 rfl (lv_at hl 3 rfl) ?_
    refine lv_aload_n hx hb dX12_readingsBy_32 rfl (lv_at hl 0 rfl) ?_
    refine g_I hx hb hts hown hK X o0 hN fl_X12_116 (by decide) rfl dX12_readingsBy_33 ?_
    refine lv_icmp_ge (tgt := 155) hx hb dX12_readingsBy_36 (by decide) (fun c36 => ?_) (fun c36 => ?_)
    · have hf := ite_t hf c36
      refine lv_iconst (v := (0 : Int32)) hx hb dX12_readingsBy_155 (by decide) ?_
      refine lv_istore_n (lv' := [(3, .int (0 : Int32)), (0, .ref (bs G + x0)), (1, .int x1), (2, .int x2)]) hx hb dX12_readingsBy_156 rfl hl (by decide) rfl (fun ls hl => ?_)
      refine lv_iconst (v := (0 : Int32)) hx hb dX12_readingsBy_157 (by decide) ?_
      refine lv_istore (lv' := [(4, .int (0 : Int32)), (3, .int (0 : Int32)), (0, .ref (bs G + x0)), (1, .int x1), (2, .int x2)]) hx hb dX12_readingsBy_158 hl (by decide) rfl (fun ls hl => ?_)
      exact j_X12_readingsBy_160 C0 hN FU X (lv_sub hl [2, 1, 0] rfl) o0 hf
    · have hf := ite_f hf c36
      refine lv_iload_n hx hb dX12_readingsBy_39 rfl (lv_at hl 3 rfl) ?_
      refine lv_iload_n hx hb dX12_readingsBy_40 rfl (lv_at hl 1 rfl) ?_
      refine lv_icmp_ne (tgt := 55) hx hb dX12_readingsBy_41 (by decide) (fun c41 => ?_) (fun c41 => ?_)
      · have hf := ite_f hf c41
        refine lv_aload_n hx hb dX12_readingsBy_55 rfl (lv_at hl 0 rfl) ?_
        obtain ⟨g1, hf⟩ := gd_e hf
        refine g_R hx hb hts hown hK X o0 hN g1 fl_X12_62 (by decide) rfl (by decide) dX12_readingsBy_56 ?_
        refine lv_iload_n hx hb dX12_readingsBy_59 rfl (lv_at hl 3 rfl) ?_
        obtain ⟨g2, hf⟩ := gd_e hf
        refine g_ia hx hb hK X g1 hN g2 (by decide) dX12_readingsBy_60 ?_
        refine lv_istore (lv' := [(4, .int (h.1 (h.2 x0 28) x3.toNatClampNeg)), (0, .ref (bs G + x0)), (1, .int x1), (2, .int x2), (3, .int x3)]) hx hb dX12_readingsBy_61 hl (by decide) rfl (fun ls hl => ?_)
        refine lv_bipush (v := (63 : Int32)) hx hb dX12_readingsBy_63 (by decide) ?_
        refine lv_istore (lv' := [(5, .int (63 : Int32)), (4, .int (h.1 (h.2 x0 28) x3.toNatClampNeg)), (0, .ref (bs G + x0)), (1, .int x1), (2, .int x2), (3, .int x3)]) hx hb dX12_readingsBy_65 hl (by decide) rfl (fun ls hl => ?_)
        exact j_X12_readingsBy_67 C0 hN @ih FU X (lv_sub hl [2, 3, 4, 5, 1, 0] rfl) o0 hf
      · have hf := ite_t hf c41
        refine lv_aload_n hx hb dX12_readingsBy_44 rfl (lv_at hl 0 rfl) ?_
        obtain ⟨g3, hf⟩ := gd_e hf
        refine g_R hx hb hts hown hK X o0 hN g3 fl_X12_62 (by decide) rfl (by decide) dX12_readingsBy_45 ?_
        refine lv_iload_n hx hb dX12_readingsBy_48 rfl (lv_at hl 3 rfl) ?_
        obtain ⟨g4, hf⟩ := gd_e hf
        refine g_ia hx hb hK X g3 hN g4 (by decide) dX12_readingsBy_49 ?_
        refine lv_iload_n hx hb dX12_readingsBy_50 rfl (lv_at hl 2 rfl) ?_
        refine lv_iand hx hb dX12_readingsBy_51 ?_
        refine lv_goto (tgt := 61) hx hb dX12_readingsBy_52 (by decide) ?_
        refine lv_istore (lv' := [(4, .int ((h.1 (h.2 x0 28) x3.toNatClampNeg) &&& x2)), (0, .ref (bs G + x0)), (1, .int x1), (2, .int x2), (3, .int x3)]) hx hb dX12_readingsBy_61 hl (by decide) rfl (fun ls hl => ?_)
        refine lv_bipush (v := (63 : Int32)) hx hb dX12_readingsBy_63 (by decide) ?_
        refine lv_istore (lv' := [(5, .int (63 : Int32)), (4, .int ((h.1 (h.2 x0 28) x3.toNatClampNeg) &&& x2)), (0, .ref (bs G + x0)), (1, .int x1), (2, .int x2), (3, .int x3)]) hx hb dX12_readingsBy_65 hl (by decide) rfl (fun ls hl => ?_)
        exact j_X12_readingsBy_67 C0 hN @ih FU X (lv_sub hl [2, 3, 4, 5, 1, 0] rfl) o0 hf
theorem j_X12_readingsBy_22 (C0 : Cx p s m args meth c G bX12_readingsBy RX12 8 (some .int) "readingsBy") (hN : NT ≤ n) {k2 : Hp → Nat → Int32 → Int32 → Int32 → Option (Int32 × Hp)} (ih2 : ∀ {H : Heap} {locs : List Loc} {ls : Array Slot} {h : Hp} {x0 : Nat} {x1 : Int32} {x2 : Int32} {x3 : Int32}, XW G n h s 0 H locs → lv_has ls 8 [(0, .ref (bs G + x0)), (1, .int x1), (2, .int x2), (3, .int x3)] → kd x0 = 12 → k2 h x0 x1 x2 x3 = some (rv, h') → W p l e (rmC 1 0 0) s m args below meth c H locs 0 0 (MQ below (QP G n h' (some (.int rv))) args s 0 0 (Ab G)) (F0 m 2 ls [])) {H : Heap} {locs : List Loc} {ls : Array Slot} {h : Hp} {x0 : Nat} {x1 : Int32} {x2 : Int32} {x3 : Int32} {t0 : Nat} {t1 : Int32} {t2 : Int32} (X : XW G n h s 0 H locs) (hl : lv_has ls 8 [(0, .ref (bs G + x0)), (1, .int x1), (2, .int x2), (3, .int x3)]) (o0 : kd x0 = 12) (ot0 : kd t0 = 16) (hf : f_X12_readingsBy_22 k2 h x0 x1 x2 x3 t0 t1 t2 = some (rv, h')) : W p l e (rmC 1 0 0) s m args below meth c H locs 0 0 (MQ below (QP G n h' (some (.int rv))) args s 0 0 (Ab G)) (F0 m 22 ls [.int t2, .int t1, .ref (bs G + t0)]) := by
  obtain ⟨hx, hb, hr, hml, hown, hts, hK, hlocks, hnm⟩ := id C0
  unfold f_X12_readingsBy_22 at hf
  obtain ⟨g1, hf⟩ := gd_e hf
  refine g_is hx hb hK X ot0 hN g1 (by decide) dX12_readingsBy_22 (fun H locs X => ?_)
  obtain ⟨h2, e3, hf⟩ := lt_e hf
  rw [← e3] at X
  refine lv_iinc (v := (x3 + (1 : Int32))) (lv' := [(3, .int (x3 + (1 : Int32))), (0, .ref (bs G + x0)), (1, .int x1), (2, .int x2)]) hx hb dX12_readingsBy_23 hl (k := 3) rfl rfl (by decide) rfl (fun ls hl => ?_)
  refine lv_goto (tgt := 2) hx hb dX12_readingsBy_26 (by decide) ?_
  exact ih2 X (lv_sub hl [1, 2, 3, 0] rfl) o0 hf
theorem j_X12_readingsBy_2 (C0 : Cx p s m args meth c G bX12_readingsBy RX12 8 (some .int) "readingsBy") (hN : NT ≤ n) : ∀ (fu : Nat), ∀ {H : Heap} {locs : List Loc} {ls : Array Slot} {h : Hp} {x0 : Nat} {x1 : Int32} {x2 : Int32} {x3 : Int32}, XW G n h s 0 H locs → lv_has ls 8 [(0, .ref (bs G + x0)), (1, .int x1), (2, .int x2), (3, .int x3)] → kd x0 = 12 → f_X12_readingsBy_2 fu h x0 x1 x2 x3 = some (rv, h') → W p l e (rmC 1 0 0) s m args below meth c H locs 0 0 (MQ below (QP G n h' (some (.int rv))) args s 0 0 (Ab G)) (F0 m 2 ls []) := by
  obtain ⟨hx, hb, hr, hml, hown, hts, hK, hlocks, hnm⟩ := id C0
  intro fu
  induction fu with
  | zero => intro H locs ls h x0 x1 x2 x3 X hl o0 hf; cases hf
  | succ fu ih =>
    intro H locs ls h x0 x1 x2 x3 X hl o0 hf
    rw [f_X12_readingsBy_2] at hf
    refine lv_iload_n hx hb dX12_readingsBy_2 rfl (lv_at hl 3 rfl) ?_
    refine lv_bipush (v := (64 : Int32)) hx hb dX12_readingsBy_3 (by decide) ?_
    refine lv_icmp_ge (tgt := 29) hx hb dX12_readingsBy_5 (by decide) (fun c5 => ?_) (fun c5 => ?_)
    · have hf := ite_t hf c5
      refine lv_iconst (v := (0 : Int32)) hx hb dX12_readingsBy_29 (by decide) ?_
      refine lv_istore_n (lv' := [(3, .int (0 : Int32)), (0, .ref (bs G + x0)), (1, .int x1), (2, .int x2)]) hx hb dX12_readingsBy_30 rfl hl (by decide) rfl (fun ls hl => ?_)
      exact j_X12_readingsBy_31 C0 hN FU X (lv_sub hl [1, 2, 3, 0] rfl) o0 hf
    · have hf := ite_f hf c5
      refine lv_aload_n hx hb dX12_readingsBy_8 rfl (lv_at hl 0 rfl) ?_
      obtain ⟨g1, hf⟩ := gd_e hf
      refine g_R hx hb hts hown hK X o0 hN g1 fl_X12_65 (by decide) rfl (by decide) dX12_readingsBy_9 ?_
      refine lv_iload_n hx hb dX12_readingsBy_12 rfl (lv_at hl 3 rfl) ?_
      refine lv_iload_n hx hb dX12_readingsBy_13 rfl (lv_at hl 3 rfl) ?_
      refine lv_if_ne (tgt := 21) hx hb dX12_readingsBy_14 (by decide) (fun c14 => ?_) (fun c14 => ?_)
      · have hf := ite_f hf c14
        refine lv_iconst (v := (0 : Int32)) hx hb dX12_readingsBy_21 (by decide) ?_
        exact j_X12_readingsBy_22 C0 hN @ih X (lv_sub hl [0, 1, 2, 3] rfl) o0 g1 hf
      · have hf := ite_t hf c14
        refine lv_iconst (v := (1 : Int32)) hx hb dX12_readingsBy_17 (by decide) ?_
        refine lv_goto (tgt := 22) hx hb dX12_readingsBy_18 (by decide) ?_
        exact j_X12_readingsBy_22 C0 hN @ih X (lv_sub hl [0, 1, 2, 3] rfl) o0 g1 hf
theorem k_X12_readingsBy (l : Launch) (G : GG) (n : Nat) (hN : NT ≤ n) {h h' : Hp} {x0 : Nat} {x1 : Int32} {x2 : Int32} {rv : Int32} (hf : f_X12_readingsBy h x0 x1 x2 = some (rv, h')) : CT l G n n yX12_readingsBy (.code yX12_readingsBy bX12_readingsBy 8 (some .int)) 1 0 0 [.ref (bs G + x0), .int x1, .int x2] h h' (some (.int rv)) := by
  refine ct_of (maxL := 8) (ret := (some .int)) (bytes := bX12_readingsBy) (by decide) (Nat.le_of_ble_eq_true rfl) (fun p e s m below meth c C0 X ls hl => ?_)
  have hl : lv_has ls 8 [(0, .ref (bs G + x0)), (1, .int x1), (2, .int x2)] := hl
  obtain ⟨hx, hb, hr, hml, hown, hts, hK, hlocks, hnm⟩ := id C0
  unfold f_X12_readingsBy at hf
  obtain ⟨o0, hf⟩ := gd_e hf
  refine lv_iconst (v := (0 : Int32)) hx hb dX12_readingsBy_0 (by decide) ?_
  refine lv_istore_n (lv' := [(3, .int (0 : Int32)), (0, .ref (bs G + x0)), (1, .int x1), (2, .int x2)]) hx hb dX12_readingsBy_1 rfl hl (by decide) rfl (fun ls hl => ?_)
  exact j_X12_readingsBy_2 C0 hN FU X (lv_sub hl [1, 2, 3, 0] rfl) o0 hf
end
theorem dX12_book_0 : decode bX12_book 0 = .ok (.aload_n 0, 1) := by decide +kernel
theorem dX12_book_1 : decode bX12_book 1 = .ok (.iconst 0, 1) := by decide +kernel
theorem dX12_book_2 : decode bX12_book 2 = .ok (.putfield 1, 3) := by decide +kernel
theorem dX12_book_5 : decode bX12_book 5 = .ok (.iload_n 1, 1) := by decide +kernel
theorem dX12_book_6 : decode bX12_book 6 = .ok (.i2l, 1) := by decide +kernel
theorem dX12_book_7 : decode bX12_book 7 = .ok (.ldc2_w 227, 3) := by decide +kernel
theorem dX12_book_10 : decode bX12_book 10 = .ok (.aload_n 0, 1) := by decide +kernel
theorem dX12_book_11 : decode bX12_book 11 = .ok (.getfield 116, 3) := by decide +kernel
theorem dX12_book_14 : decode bX12_book 14 = .ok (.iconst 1, 1) := by decide +kernel
theorem dX12_book_15 : decode bX12_book 15 = .ok (.isub, 1) := by decide +kernel
theorem dX12_book_16 : decode bX12_book 16 = .ok (.i2l, 1) := by decide +kernel
theorem dX12_book_17 : decode bX12_book 17 = .ok (.invokestatic 75, 3) := by decide +kernel
theorem dX12_book_20 : decode bX12_book 20 = .ok (.ifCond .ne 5, 3) := by decide +kernel
theorem dX12_book_23 : decode bX12_book 23 = .ok (.iconst (-1), 1) := by decide +kernel
theorem dX12_book_24 : decode bX12_book 24 = .ok (.ireturn, 1) := by decide +kernel
theorem dX12_book_25 : decode bX12_book 25 = .ok (.iconst 0, 1) := by decide +kernel
theorem dX12_book_26 : decode bX12_book 26 = .ok (.istore_n 2, 1) := by decide +kernel
theorem dX12_book_27 : decode bX12_book 27 = .ok (.iload_n 2, 1) := by decide +kernel
theorem dX12_book_28 : decode bX12_book 28 = .ok (.aload_n 0, 1) := by decide +kernel
theorem dX12_book_29 : decode bX12_book 29 = .ok (.getfield 116, 3) := by decide +kernel
theorem dX12_book_32 : decode bX12_book 32 = .ok (.if_icmp .ge 78, 3) := by decide +kernel
theorem dX12_book_35 : decode bX12_book 35 = .ok (.aload_n 0, 1) := by decide +kernel
theorem dX12_book_36 : decode bX12_book 36 = .ok (.getfield 62, 3) := by decide +kernel
theorem dX12_book_39 : decode bX12_book 39 = .ok (.iload_n 2, 1) := by decide +kernel
theorem dX12_book_40 : decode bX12_book 40 = .ok (.iconst 0, 1) := by decide +kernel
theorem dX12_book_41 : decode bX12_book 41 = .ok (.iastore, 1) := by decide +kernel
theorem dX12_book_42 : decode bX12_book 42 = .ok (.iconst 0, 1) := by decide +kernel
theorem dX12_book_43 : decode bX12_book 43 = .ok (.istore_n 3, 1) := by decide +kernel
theorem dX12_book_44 : decode bX12_book 44 = .ok (.iload_n 3, 1) := by decide +kernel
theorem dX12_book_45 : decode bX12_book 45 = .ok (.aload_n 0, 1) := by decide +kernel
theorem dX12_book_46 : decode bX12_book 46 = .ok (.getfield 13, 3) := by decide +kernel
theorem dX12_book_49 : decode bX12_book 49 = .ok (.iconst 1, 1) := by decide +kernel
theorem dX12_book_50 : decode bX12_book 50 = .ok (.iaload, 1) := by decide +kernel
theorem dX12_book_51 : decode bX12_book 51 = .ok (.if_icmp .ge 53, 3) := by decide +kernel
theorem dX12_book_54 : decode bX12_book 54 = .ok (.aload_n 0, 1) := by decide +kernel
theorem dX12_book_55 : decode bX12_book 55 = .ok (.getfield 62, 3) := by decide +kernel
theorem dX12_book_58 : decode bX12_book 58 = .ok (.iload_n 2, 1) := by decide +kernel
theorem dX12_book_59 : decode bX12_book 59 = .ok (.dup2, 1) := by decide +kernel
theorem dX12_book_60 : decode bX12_book 60 = .ok (.iaload, 1) := by decide +kernel
theorem dX12_book_61 : decode bX12_book 61 = .ok (.aload_n 0, 1) := by decide +kernel
theorem dX12_book_62 : decode bX12_book 62 = .ok (.aload_n 0, 1) := by decide +kernel
theorem dX12_book_63 : decode bX12_book 63 = .ok (.getfield 59, 3) := by decide +kernel
theorem dX12_book_66 : decode bX12_book 66 = .ok (.iload_n 2, 1) := by decide +kernel
theorem dX12_book_67 : decode bX12_book 67 = .ok (.iaload, 1) := by decide +kernel
theorem dX12_book_68 : decode bX12_book 68 = .ok (.aload_n 0, 1) := by decide +kernel
theorem dX12_book_69 : decode bX12_book 69 = .ok (.getfield 13, 3) := by decide +kernel
theorem dX12_book_72 : decode bX12_book 72 = .ok (.bipush 53, 2) := by decide +kernel
theorem dX12_book_74 : decode bX12_book 74 = .ok (.iload_n 3, 1) := by decide +kernel
theorem dX12_book_75 : decode bX12_book 75 = .ok (.iadd, 1) := by decide +kernel
theorem dX12_book_76 : decode bX12_book 76 = .ok (.iaload, 1) := by decide +kernel
theorem dX12_book_77 : decode bX12_book 77 = .ok (.aload_n 0, 1) := by decide +kernel
theorem dX12_book_78 : decode bX12_book 78 = .ok (.getfield 13, 3) := by decide +kernel
theorem dX12_book_81 : decode bX12_book 81 = .ok (.iconst 2, 1) := by decide +kernel
theorem dX12_book_82 : decode bX12_book 82 = .ok (.iaload, 1) := by decide +kernel
theorem dX12_book_83 : decode bX12_book 83 = .ok (.invokevirtual 239, 3) := by decide +kernel
theorem dX12_book_86 : decode bX12_book 86 = .ok (.ifCond .le 9, 3) := by decide +kernel
theorem dX12_book_89 : decode bX12_book 89 = .ok (.iconst 1, 1) := by decide +kernel
theorem dX12_book_90 : decode bX12_book 90 = .ok (.iload_n 3, 1) := by decide +kernel
theorem dX12_book_91 : decode bX12_book 91 = .ok (.ishl, 1) := by decide +kernel
theorem dX12_book_92 : decode bX12_book 92 = .ok (.goto 4, 3) := by decide +kernel
theorem dX12_book_95 : decode bX12_book 95 = .ok (.iconst 0, 1) := by decide +kernel
theorem dX12_book_96 : decode bX12_book 96 = .ok (.ior, 1) := by decide +kernel
theorem dX12_book_97 : decode bX12_book 97 = .ok (.iastore, 1) := by decide +kernel
theorem dX12_book_98 : decode bX12_book 98 = .ok (.iinc 3 1, 3) := by decide +kernel
theorem dX12_book_101 : decode bX12_book 101 = .ok (.goto (-57), 3) := by decide +kernel
theorem dX12_book_104 : decode bX12_book 104 = .ok (.iinc 2 1, 3) := by decide +kernel
theorem dX12_book_107 : decode bX12_book 107 = .ok (.goto (-80), 3) := by decide +kernel
theorem dX12_book_110 : decode bX12_book 110 = .ok (.aload_n 0, 1) := by decide +kernel
theorem dX12_book_111 : decode bX12_book 111 = .ok (.bipush (-4), 2) := by decide +kernel
theorem dX12_book_113 : decode bX12_book 113 = .ok (.iconst 0, 1) := by decide +kernel
theorem dX12_book_114 : decode bX12_book 114 = .ok (.invokevirtual 242, 3) := by decide +kernel
theorem dX12_book_117 : decode bX12_book 117 = .ok (.istore_n 2, 1) := by decide +kernel
theorem dX12_book_118 : decode bX12_book 118 = .ok (.iload_n 1, 1) := by decide +kernel
theorem dX12_book_119 : decode bX12_book 119 = .ok (.ifCond .ge 5, 3) := by decide +kernel
theorem dX12_book_122 : decode bX12_book 122 = .ok (.iload_n 2, 1) := by decide +kernel
theorem dX12_book_123 : decode bX12_book 123 = .ok (.ireturn, 1) := by decide +kernel
theorem dX12_book_124 : decode bX12_book 124 = .ok (.iconst 0, 1) := by decide +kernel
theorem dX12_book_125 : decode bX12_book 125 = .ok (.istore_n 3, 1) := by decide +kernel
theorem dX12_book_126 : decode bX12_book 126 = .ok (.iload_n 3, 1) := by decide +kernel
theorem dX12_book_127 : decode bX12_book 127 = .ok (.aload_n 0, 1) := by decide +kernel
theorem dX12_book_128 : decode bX12_book 128 = .ok (.getfield 13, 3) := by decide +kernel
theorem dX12_book_131 : decode bX12_book 131 = .ok (.iconst 1, 1) := by decide +kernel
theorem dX12_book_132 : decode bX12_book 132 = .ok (.iaload, 1) := by decide +kernel
theorem dX12_book_133 : decode bX12_book 133 = .ok (.if_icmp .ge 27, 3) := by decide +kernel
theorem dX12_book_136 : decode bX12_book 136 = .ok (.iload_n 2, 1) := by decide +kernel
theorem dX12_book_137 : decode bX12_book 137 = .ok (.ifCond .le 23, 3) := by decide +kernel
theorem dX12_book_140 : decode bX12_book 140 = .ok (.aload_n 0, 1) := by decide +kernel
theorem dX12_book_141 : decode bX12_book 141 = .ok (.iload_n 1, 1) := by decide +kernel
theorem dX12_book_142 : decode bX12_book 142 = .ok (.iconst 1, 1) := by decide +kernel
theorem dX12_book_143 : decode bX12_book 143 = .ok (.iload_n 3, 1) := by decide +kernel
theorem dX12_book_144 : decode bX12_book 144 = .ok (.ishl, 1) := by decide +kernel
theorem dX12_book_145 : decode bX12_book 145 = .ok (.invokevirtual 242, 3) := by decide +kernel
theorem dX12_book_148 : decode bX12_book 148 = .ok (.iload_n 2, 1) := by decide +kernel
theorem dX12_book_149 : decode bX12_book 149 = .ok (.if_icmp .ne 5, 3) := by decide +kernel
theorem dX12_book_152 : decode bX12_book 152 = .ok (.iload_n 3, 1) := by decide +kernel
theorem dX12_book_153 : decode bX12_book 153 = .ok (.ireturn, 1) := by decide +kernel
theorem dX12_book_154 : decode bX12_book 154 = .ok (.iinc 3 1, 3) := by decide +kernel
theorem dX12_book_157 : decode bX12_book 157 = .ok (.goto (-31), 3) := by decide +kernel
theorem dX12_book_160 : decode bX12_book 160 = .ok (.bipush (-4), 2) := by decide +kernel
theorem dX12_book_162 : decode bX12_book 162 = .ok (.ireturn, 1) := by decide +kernel
section
variable {p : Program} {l : Launch} {e : Env} {s : State} {m : MethodId} {args : Array Value} {below : List Frame} {meth : Method} {c : Code} {G : GG} {n : Nat} {h' : Hp} {rv : Int32}
set_option maxHeartbeats 4000000
set_option maxRecDepth 100000
theorem j_X12_book_126 (C0 : Cx p s m args meth c G bX12_book RX12 4 (some .int) "book") (hN : NT ≤ n) : ∀ (fu : Nat), ∀ {H : Heap} {locs : List Loc} {ls : Array Slot} {h : Hp} {x0 : Nat} {x1 : Int32} {x2 : Int32} {x3 : Int32}, XW G n h s 0 H locs → lv_has ls 4 [(0, .ref (bs G + x0)), (1, .int x1), (2, .int x2), (3, .int x3)] → kd x0 = 12 → f_X12_book_126 fu h x0 x1 x2 x3 = some (rv, h') → W p l e (rmC 2 0 0) s m args below meth c H locs 0 0 (MQ below (QP G n h' (some (.int rv))) args s 0 0 (Ab G)) (F0 m 126 ls []) := by
  obtain ⟨hx, hb, hr, hml, hown, hts, hK, hlocks, hnm⟩ := id C0
  intro fu
  induction fu with
  | zero => intro H locs ls h x0 x1 x2 x3 X hl o0 hf; cases hf
  | succ fu ih =>
    intro H locs ls h x0 x1 x2 x3 X hl o0 hf
    rw [f_X12_book_126] at hf
    refine lv_iload_n hx hb dX12_book_126 rfl (lv_at hl 3 rfl) ?_
    refine lv_aload_n hx hb dX12_book_127 rfl (lv_at hl 0 rfl) ?_
    obtain ⟨g1, hf⟩ := gd_e hf
    refine g_R hx hb hts hown hK X o0 hN g1 fl_X12_13 (by decide) rfl (by decide) dX12_book_128 ?_
    refine lv_iconst (v := (1 : Int32)) hx hb dX12_book_131 (by decide) ?_
    obtain ⟨g2, hf⟩ := gd_e hf
    refine g_ia hx hb hK X g1 hN g2 (by decide) dX12_book_132 ?_
    refine lv_icmp_ge (tgt := 160) hx hb dX12_book_133 (by decide) (fun c133 => ?_) (fun c133 => ?_)
    · have hf := ite_t hf c133
      refine lv_bipush (v := (-4 : Int32)) hx hb dX12_book_160 (by decide) ?_
      exact r_I hx hb hr hlocks X hf dX12_book_162
    · have hf := ite_f hf c133
      refine lv_iload_n hx hb dX12_book_136 rfl (lv_at hl 2 rfl) ?_
      refine lv_if_le (tgt := 160) hx hb dX12_book_137 (by decide) (fun c137 => ?_) (fun c137 => ?_)
      · have hf := ite_t hf c137
        refine lv_bipush (v := (-4 : Int32)) hx hb dX12_book_160 (by decide) ?_
        exact r_I hx hb hr hlocks X hf dX12_book_162
      · have hf := ite_f hf c137
        refine lv_aload_n hx hb dX12_book_140 rfl (lv_at hl 0 rfl) ?_
        refine lv_iload_n hx hb dX12_book_141 rfl (lv_at hl 1 rfl) ?_
        refine lv_iconst (v := (1 : Int32)) hx hb dX12_book_142 (by decide) ?_
        refine lv_iload_n hx hb dX12_book_143 rfl (lv_at hl 3 rfl) ?_
        refine lv_ishl hx hb dX12_book_144 ?_
        obtain ⟨r3, h4, q5, hf⟩ := bd_e hf
        refine c_V0 (As := [.int x1, .int ((1 : Int32) <<< (x3 &&& 31))]) (rest := []) (st1 := [.int r3]) hx hb hml hown hts hK X (k_X12_readingsBy l G n hN q5) o0 hN lc_X12_readingsBy lv_X12_242 (ci := 12) rfl rfl (by decide) rfl hl.1 (Nat.le_of_ble_eq_true rfl) dX12_book_145 rfl (fun H locs X => ?_)
        refine lv_iload_n hx hb dX12_book_148 rfl (lv_at hl 2 rfl) ?_
        refine lv_icmp_ne (tgt := 154) hx hb dX12_book_149 (by decide) (fun c149 => ?_) (fun c149 => ?_)
        · have hf := ite_f hf c149
          refine lv_iinc (v := (x3 + (1 : Int32))) (lv' := [(3, .int (x3 + (1 : Int32))), (0, .ref (bs G + x0)), (1, .int x1), (2, .int x2)]) hx hb dX12_book_154 hl (k := 3) rfl rfl (by decide) rfl (fun ls hl => ?_)
          refine lv_goto (tgt := 126) hx hb dX12_book_157 (by decide) ?_
          exact ih X (lv_sub hl [1, 2, 3, 0] rfl) o0 hf
        · have hf := ite_t hf c149
          refine lv_iload_n hx hb dX12_book_152 rfl (lv_at hl 3 rfl) ?_
          exact r_I hx hb hr hlocks X hf dX12_book_153
theorem j_X12_book_96 (C0 : Cx p s m args meth c G bX12_book RX12 4 (some .int) "book") (hN : NT ≤ n) {k27 : Hp → Nat → Int32 → Int32 → Option (Int32 × Hp)} {k44 : Hp → Nat → Int32 → Int32 → Int32 → Option (Int32 × Hp)} (ih27 : ∀ {H : Heap} {locs : List Loc} {ls : Array Slot} {h : Hp} {x0 : Nat} {x1 : Int32} {x2 : Int32}, XW G n h s 0 H locs → lv_has ls 4 [(0, .ref (bs G + x0)), (1, .int x1), (2, .int x2)] → kd x0 = 12 → k27 h x0 x1 x2 = some (rv, h') → W p l e (rmC 2 0 0) s m args below meth c H locs 0 0 (MQ below (QP G n h' (some (.int rv))) args s 0 0 (Ab G)) (F0 m 27 ls [])) (ih44 : ∀ {H : Heap} {locs : List Loc} {ls : Array Slot} {h : Hp} {x0 : Nat} {x1 : Int32} {x2 : Int32} {x3 : Int32}, XW G n h s 0 H locs → lv_has ls 4 [(0, .ref (bs G + x0)), (1, .int x1), (2, .int x2), (3, .int x3)] → kd x0 = 12 → k44 h x0 x1 x2 x3 = some (rv, h') → W p l e (rmC 2 0 0) s m args below meth c H locs 0 0 (MQ below (QP G n h' (some (.int rv))) args s 0 0 (Ab G)) (F0 m 44 ls [])) {H : Heap} {locs : List Loc} {ls : Array Slot} {h : Hp} {x0 : Nat} {x1 : Int32} {x2 : Int32} {x3 : Int32} {t0 : Nat} {t1 : Int32} {t2 : Int32} {t3 : Int32} (X : XW G n h s 0 H locs) (hl : lv_has ls 4 [(0, .ref (bs G + x0)), (1, .int x1), (2, .int x2), (3, .int x3)]) (o0 : kd x0 = 12) (ot0 : kd t0 = 16) (hf : f_X12_book_96 k27 k44 h x0 x1 x2 x3 t0 t1 t2 t3 = some (rv, h')) : W p l e (rmC 2 0 0) s m args below meth c H locs 0 0 (MQ below (QP G n h' (some (.int rv))) args s 0 0 (Ab G)) (F0 m 96 ls [.int t3, .int t2, .int t1, .ref (bs G + t0)]) := by
  obtain ⟨hx, hb, hr, hml, hown, hts, hK, hlocks, hnm⟩ := id C0
  unfold f_X12_book_96 at hf
  refine lv_ior hx hb dX12_book_96 ?_
  obtain ⟨g1, hf⟩ := gd_e hf
  refine g_is hx hb hK X ot0 hN g1 (by decide) dX12_book_97 (fun H locs X => ?_)
  obtain ⟨h2, e3, hf⟩ := lt_e hf
  rw [← e3] at X
  refine lv_iinc (v := (x3 + (1 : Int32))) (lv' := [(3, .int (x3 + (1 : Int32))), (0, .ref (bs G + x0)), (1, .int x1), (2, .int x2)]) hx hb dX12_book_98 hl (k := 3) rfl rfl (by decide) rfl (fun ls hl => ?_)
  refine lv_goto (tgt := 44) hx hb dX12_book_101 (by decide) ?_
  exact ih44 X (lv_sub hl [1, 2, 3, 0] rfl) o0 hf
theorem j_X12_book_44 (C0 : Cx p s m args meth c G bX12_book RX12 4 (some .int) "book") (hN : NT ≤ n) {k27 : Hp → Nat → Int32 → Int32 → Option (Int32 × Hp)} (ih27 : ∀ {H : Heap} {locs : List Loc} {ls : Array Slot} {h : Hp} {x0 : Nat} {x1 : Int32} {x2 : Int32}, XW G n h s 0 H locs → lv_has ls 4 [(0, .ref (bs G + x0)), (1, .int x1), (2, .int x2)] → kd x0 = 12 → k27 h x0 x1 x2 = some (rv, h') → W p l e (rmC 2 0 0) s m args below meth c H locs 0 0 (MQ below (QP G n h' (some (.int rv))) args s 0 0 (Ab G)) (F0 m 27 ls [])) : ∀ (fu : Nat), ∀ {H : Heap} {locs : List Loc} {ls : Array Slot} {h : Hp} {x0 : Nat} {x1 : Int32} {x2 : Int32} {x3 : Int32}, XW G n h s 0 H locs → lv_has ls 4 [(0, .ref (bs G + x0)), (1, .int x1), (2, .int x2), (3, .int x3)] → kd x0 = 12 → f_X12_book_44 k27 fu h x0 x1 x2 x3 = some (rv, h') → W p l e (rmC 2 0 0) s m args below meth c H locs 0 0 (MQ below (QP G n h' (some (.int rv))) args s 0 0 (Ab G)) (F0 m 44 ls []) := by
  obtain ⟨hx, hb, hr, hml, hown, hts, hK, hlocks, hnm⟩ := id C0
  intro fu
  induction fu with
  | zero => intro H locs ls h x0 x1 x2 x3 X hl o0 hf; cases hf
  | succ fu ih =>
    intro H locs ls h x0 x1 x2 x3 X hl o0 hf
    rw [f_X12_book_44] at hf
    refine lv_iload_n hx hb dX12_book_44 rfl (lv_at hl 3 rfl) ?_
    refine lv_aload_n hx hb dX12_book_45 rfl (lv_at hl 0 rfl) ?_
    obtain ⟨g1, hf⟩ := gd_e hf
    refine g_R hx hb hts hown hK X o0 hN g1 fl_X12_13 (by decide) rfl (by decide) dX12_book_46 ?_
    refine lv_iconst (v := (1 : Int32)) hx hb dX12_book_49 (by decide) ?_
    obtain ⟨g2, hf⟩ := gd_e hf
    refine g_ia hx hb hK X g1 hN g2 (by decide) dX12_book_50 ?_
    refine lv_icmp_ge (tgt := 104) hx hb dX12_book_51 (by decide) (fun c51 => ?_) (fun c51 => ?_)
    · have hf := ite_t hf c51
      refine lv_iinc (v := (x2 + (1 : Int32))) (lv' := [(2, .int (x2 + (1 : Int32))), (0, .ref (bs G + x0)), (1, .int x1), (3, .int x3)]) hx hb dX12_book_104 hl (k := 2) rfl rfl (by decide) rfl (fun ls hl => ?_)
      refine lv_goto (tgt := 27) hx hb dX12_book_107 (by decide) ?_
      exact ih27 X (lv_sub hl [1, 2, 0] rfl) o0 hf
    · have hf := ite_f hf c51
      refine lv_aload_n hx hb dX12_book_54 rfl (lv_at hl 0 rfl) ?_
      obtain ⟨g3, hf⟩ := gd_e hf
      refine g_R hx hb hts hown hK X o0 hN g3 fl_X12_62 (by decide) rfl (by decide) dX12_book_55 ?_
      refine lv_iload_n hx hb dX12_book_58 rfl (lv_at hl 2 rfl) ?_
      refine lv_dup2_11 hx hb dX12_book_59 rfl rfl ?_
      obtain ⟨g4, hf⟩ := gd_e hf
      refine g_ia hx hb hK X g3 hN g4 (by decide) dX12_book_60 ?_
      refine lv_aload_n hx hb dX12_book_61 rfl (lv_at hl 0 rfl) ?_
      refine lv_aload_n hx hb dX12_book_62 rfl (lv_at hl 0 rfl) ?_
      obtain ⟨g5, hf⟩ := gd_e hf
      refine g_R hx hb hts hown hK X o0 hN g5 fl_X12_59 (by decide) rfl (by decide) dX12_book_63 ?_
      refine lv_iload_n hx hb dX12_book_66 rfl (lv_at hl 2 rfl) ?_
      obtain ⟨g6, hf⟩ := gd_e hf
      refine g_ia hx hb hK X g5 hN g6 (by decide) dX12_book_67 ?_
      refine lv_aload_n hx hb dX12_book_68 rfl (lv_at hl 0 rfl) ?_
      obtain ⟨g7, hf⟩ := gd_e hf
      refine g_R hx hb hts hown hK X o0 hN g7 fl_X12_13 (by decide) rfl (by decide) dX12_book_69 ?_
      refine lv_bipush (v := (53 : Int32)) hx hb dX12_book_72 (by decide) ?_
      refine lv_iload_n hx hb dX12_book_74 rfl (lv_at hl 3 rfl) ?_
      refine lv_iadd hx hb dX12_book_75 ?_
      obtain ⟨g8, hf⟩ := gd_e hf
      refine g_ia hx hb hK X g7 hN g8 (by decide) dX12_book_76 ?_
      refine lv_aload_n hx hb dX12_book_77 rfl (lv_at hl 0 rfl) ?_
      obtain ⟨g9, hf⟩ := gd_e hf
      refine g_R hx hb hts hown hK X o0 hN g9 fl_X12_13 (by decide) rfl (by decide) dX12_book_78 ?_
      refine lv_iconst (v := (2 : Int32)) hx hb dX12_book_81 (by decide) ?_
      obtain ⟨g10, hf⟩ := gd_e hf
      refine g_ia hx hb hK X g9 hN g10 (by decide) dX12_book_82 ?_
      obtain ⟨r11, h12, q13, hf⟩ := bd_e hf
      refine c_V0 (As := [.int (h.1 (h.2 x0 26) x2.toNatClampNeg), .int (h.1 (h.2 x0 1) ((53 : Int32) + x3).toNatClampNeg), .int (h.1 (h.2 x0 1) (2 : Int32).toNatClampNeg)]) (rest := [.int (h.1 (h.2 x0 28) x2.toNatClampNeg), .int x2, .ref (bs G + (h.2 x0 28))]) (st1 := [.int r11, .int (h.1 (h.2 x0 28) x2.toNatClampNeg), .int x2, .ref (bs G + (h.2 x0 28))]) hx hb hml hown hts hK X (k_X12_waysOf l G n hN q13) o0 hN lc_X12_waysOf lv_X12_239 (ci := 12) rfl rfl (by decide) rfl hl.1 (Nat.le_of_ble_eq_true rfl) dX12_book_83 rfl (fun H locs X => ?_)
      refine lv_if_le (tgt := 95) hx hb dX12_book_86 (by decide) (fun c86 => ?_) (fun c86 => ?_)
      · have hf := ite_t hf c86
        refine lv_iconst (v := (0 : Int32)) hx hb dX12_book_95 (by decide) ?_
        exact j_X12_book_96 C0 hN @ih27 @ih X (lv_sub hl [0, 1, 2, 3] rfl) o0 g3 hf
      · have hf := ite_f hf c86
        refine lv_iconst (v := (1 : Int32)) hx hb dX12_book_89 (by decide) ?_
        refine lv_iload_n hx hb dX12_book_90 rfl (lv_at hl 3 rfl) ?_
        refine lv_ishl hx hb dX12_book_91 ?_
        refine lv_goto (tgt := 96) hx hb dX12_book_92 (by decide) ?_
        exact j_X12_book_96 C0 hN @ih27 @ih X (lv_sub hl [0, 1, 2, 3] rfl) o0 g3 hf
theorem j_X12_book_27 (C0 : Cx p s m args meth c G bX12_book RX12 4 (some .int) "book") (hN : NT ≤ n) : ∀ (fu : Nat), ∀ {H : Heap} {locs : List Loc} {ls : Array Slot} {h : Hp} {x0 : Nat} {x1 : Int32} {x2 : Int32}, XW G n h s 0 H locs → lv_has ls 4 [(0, .ref (bs G + x0)), (1, .int x1), (2, .int x2)] → kd x0 = 12 → f_X12_book_27 fu h x0 x1 x2 = some (rv, h') → W p l e (rmC 2 0 0) s m args below meth c H locs 0 0 (MQ below (QP G n h' (some (.int rv))) args s 0 0 (Ab G)) (F0 m 27 ls []) := by
  obtain ⟨hx, hb, hr, hml, hown, hts, hK, hlocks, hnm⟩ := id C0
  intro fu
  induction fu with
  | zero => intro H locs ls h x0 x1 x2 X hl o0 hf; cases hf
  | succ fu ih =>
    intro H locs ls h x0 x1 x2 X hl o0 hf
    rw [f_X12_book_27] at hf
    refine lv_iload_n hx hb dX12_book_27 rfl (lv_at hl 2 rfl) ?_
    refine lv_aload_n hx hb dX12_book_28 rfl (lv_at hl 0 rfl) ?_
    refine g_I hx hb hts hown hK X o0 hN fl_X12_116 (by decide) rfl dX12_book_29 ?_
    refine lv_icmp_ge (tgt := 110) hx hb dX12_book_32 (by decide) (fun c32 => ?_) (fun c32 => ?_)
    · have hf := ite_t hf c32
      refine lv_aload_n hx hb dX12_book_110 rfl (lv_at hl 0 rfl) ?_
      refine lv_bipush (v := (-4 : Int32)) hx hb dX12_book_111 (by decide) ?_
      refine lv_iconst (v := (0 : Int32)) hx hb dX12_book_113 (by decide) ?_
      obtain ⟨r1, h2, q3, hf⟩ := bd_e hf
      refine c_V0 (As := [.int (-4 : Int32), .int (0 : Int32)]) (rest := []) (st1 := [.int r1]) hx hb hml hown hts hK X (k_X12_readingsBy l G n hN q3) o0 hN lc_X12_readingsBy lv_X12_242 (ci := 12) rfl rfl (by decide) rfl hl.1 (Nat.le_of_ble_eq_true rfl) dX12_book_114 rfl (fun H locs X => ?_)
      refine lv_istore_n (lv' := [(2, .int r1), (0, .ref (bs G + x0)), (1, .int x1)]) hx hb dX12_book_117 rfl hl (by decide) rfl (fun ls hl => ?_)
      refine lv_iload_n hx hb dX12_book_118 rfl (lv_at hl 2 rfl) ?_
      refine lv_if_ge (tgt := 124) hx hb dX12_book_119 (by decide) (fun c119 => ?_) (fun c119 => ?_)
      · have hf := ite_t hf c119
        refine lv_iconst (v := (0 : Int32)) hx hb dX12_book_124 (by decide) ?_
        refine lv_istore_n (lv' := [(3, .int (0 : Int32)), (2, .int r1), (0, .ref (bs G + x0)), (1, .int x1)]) hx hb dX12_book_125 rfl hl (by decide) rfl (fun ls hl => ?_)
        exact j_X12_book_126 C0 hN FU X (lv_sub hl [2, 3, 1, 0] rfl) o0 hf
      · have hf := ite_f hf c119
        refine lv_iload_n hx hb dX12_book_122 rfl (lv_at hl 0 rfl) ?_
        exact r_I hx hb hr hlocks X hf dX12_book_123
    · have hf := ite_f hf c32
      refine lv_aload_n hx hb dX12_book_35 rfl (lv_at hl 0 rfl) ?_
      obtain ⟨g4, hf⟩ := gd_e hf
      refine g_R hx hb hts hown hK X o0 hN g4 fl_X12_62 (by decide) rfl (by decide) dX12_book_36 ?_
      refine lv_iload_n hx hb dX12_book_39 rfl (lv_at hl 2 rfl) ?_
      refine lv_iconst (v := (0 : Int32)) hx hb dX12_book_40 (by decide) ?_
      obtain ⟨g5, hf⟩ := gd_e hf
      refine g_is hx hb hK X g4 hN g5 (by decide) dX12_book_41 (fun H locs X => ?_)
      obtain ⟨h6, e7, hf⟩ := lt_e hf
      rw [← e7] at X
      refine lv_iconst (v := (0 : Int32)) hx hb dX12_book_42 (by decide) ?_
      refine lv_istore_n (lv' := [(3, .int (0 : Int32)), (0, .ref (bs G + x0)), (1, .int x1), (2, .int x2)]) hx hb dX12_book_43 rfl hl (by decide) rfl (fun ls hl => ?_)
      exact j_X12_book_44 C0 hN @ih FU X (lv_sub hl [1, 2, 3, 0] rfl) o0 hf
theorem k_X12_book (l : Launch) (G : GG) (n : Nat) (hN : NT ≤ n) {h h' : Hp} {x0 : Nat} {x1 : Int32} {rv : Int32} (hf : f_X12_book h x0 x1 = some (rv, h')) : CT l G n n yX12_book (.code yX12_book bX12_book 4 (some .int)) 2 0 0 [.ref (bs G + x0), .int x1] h h' (some (.int rv)) := by
  refine ct_of (maxL := 4) (ret := (some .int)) (bytes := bX12_book) (by decide) (Nat.le_of_ble_eq_true rfl) (fun p e s m below meth c C0 X ls hl => ?_)
  have hl : lv_has ls 4 [(0, .ref (bs G + x0)), (1, .int x1)] := hl
  obtain ⟨hx, hb, hr, hml, hown, hts, hK, hlocks, hnm⟩ := id C0
  unfold f_X12_book at hf
  obtain ⟨o0, hf⟩ := gd_e hf
  refine lv_aload_n hx hb dX12_book_0 rfl (lv_at hl 0 rfl) ?_
  refine lv_iconst (v := (0 : Int32)) hx hb dX12_book_1 (by decide) ?_
  refine g_PI hx hb hts hown hK X o0 hN fl_X12_1 ft_12_0 (by decide) rfl dX12_book_2 (fun H locs X => ?_)
  obtain ⟨h1, e2, hf⟩ := lt_e hf
  rw [← e2] at X
  refine lv_iload_n hx hb dX12_book_5 rfl (lv_at hl 1 rfl) ?_
  refine lv_i2l hx hb dX12_book_6 rfl ?_
  refine lv_ldc2 hx hb hown (hts _ cn_X12_227) dX12_book_7 ?_
  refine lv_aload_n hx hb dX12_book_10 rfl (lv_at hl 0 rfl) ?_
  refine g_I hx hb hts hown hK X o0 hN fl_X12_116 (by decide) rfl dX12_book_11 ?_
  refine lv_iconst (v := (1 : Int32)) hx hb dX12_book_14 (by decide) ?_
  refine lv_isub hx hb dX12_book_15 ?_
  refine lv_i2l hx hb dX12_book_16 rfl ?_
  obtain ⟨r3, h4, q5, hf⟩ := bd_e hf
  refine c_S0 (As := [.long x1.toInt64, .long (-1 : Int64), .long ((h1.1 x0 27) - (1 : Int32)).toInt64]) (rest := []) (st1 := [.int r3]) hx hb hml hown hts hK X (k_X12_in l G n hN q5) lc_X12_in ls_X12_75 (by decide) rfl hl.1 (Nat.le_of_ble_eq_true rfl) dX12_book_17 rfl (fun H locs X => ?_)
  refine lv_if_ne (tgt := 25) hx hb dX12_book_20 (by decide) (fun c20 => ?_) (fun c20 => ?_)
  · have hf := ite_f hf c20
    refine lv_iconst (v := (0 : Int32)) hx hb dX12_book_25 (by decide) ?_
    refine lv_istore_n (lv' := [(2, .int (0 : Int32)), (0, .ref (bs G + x0)), (1, .int x1)]) hx hb dX12_book_26 rfl hl (by decide) rfl (fun ls hl => ?_)
    exact j_X12_book_27 C0 hN FU X (lv_sub hl [1, 2, 0] rfl) o0 hf
  · have hf := ite_t hf c20
    refine lv_iconst (v := (-1 : Int32)) hx hb dX12_book_23 (by decide) ?_
    exact r_I hx hb hr hlocks X hf dX12_book_24
end
theorem dX12_twice_0 : decode bX12_twice 0 = .ok (.aload_n 0, 1) := by decide +kernel
theorem dX12_twice_1 : decode bX12_twice 1 = .ok (.iconst 0, 1) := by decide +kernel
theorem dX12_twice_2 : decode bX12_twice 2 = .ok (.putfield 1, 3) := by decide +kernel
theorem dX12_twice_5 : decode bX12_twice 5 = .ok (.iconst 1, 1) := by decide +kernel
theorem dX12_twice_6 : decode bX12_twice 6 = .ok (.istore_n 1, 1) := by decide +kernel
theorem dX12_twice_7 : decode bX12_twice 7 = .ok (.iload_n 1, 1) := by decide +kernel
theorem dX12_twice_8 : decode bX12_twice 8 = .ok (.aload_n 0, 1) := by decide +kernel
theorem dX12_twice_9 : decode bX12_twice 9 = .ok (.getfield 13, 3) := by decide +kernel
theorem dX12_twice_12 : decode bX12_twice 12 = .ok (.iconst 0, 1) := by decide +kernel
theorem dX12_twice_13 : decode bX12_twice 13 = .ok (.iaload, 1) := by decide +kernel
theorem dX12_twice_14 : decode bX12_twice 14 = .ok (.if_icmp .gt 49, 3) := by decide +kernel
theorem dX12_twice_17 : decode bX12_twice 17 = .ok (.iconst 0, 1) := by decide +kernel
theorem dX12_twice_18 : decode bX12_twice 18 = .ok (.istore_n 2, 1) := by decide +kernel
theorem dX12_twice_19 : decode bX12_twice 19 = .ok (.iconst 0, 1) := by decide +kernel
theorem dX12_twice_20 : decode bX12_twice 20 = .ok (.istore_n 3, 1) := by decide +kernel
theorem dX12_twice_21 : decode bX12_twice 21 = .ok (.iload_n 3, 1) := by decide +kernel
theorem dX12_twice_22 : decode bX12_twice 22 = .ok (.aload_n 0, 1) := by decide +kernel
theorem dX12_twice_23 : decode bX12_twice 23 = .ok (.getfield 116, 3) := by decide +kernel
theorem dX12_twice_26 : decode bX12_twice 26 = .ok (.if_icmp .ge 24, 3) := by decide +kernel
theorem dX12_twice_29 : decode bX12_twice 29 = .ok (.iload_n 2, 1) := by decide +kernel
theorem dX12_twice_30 : decode bX12_twice 30 = .ok (.aload_n 0, 1) := by decide +kernel
theorem dX12_twice_31 : decode bX12_twice 31 = .ok (.getfield 59, 3) := by decide +kernel
theorem dX12_twice_34 : decode bX12_twice 34 = .ok (.iload_n 3, 1) := by decide +kernel
theorem dX12_twice_35 : decode bX12_twice 35 = .ok (.iaload, 1) := by decide +kernel
theorem dX12_twice_36 : decode bX12_twice 36 = .ok (.iload_n 1, 1) := by decide +kernel
theorem dX12_twice_37 : decode bX12_twice 37 = .ok (.iconst 1, 1) := by decide +kernel
theorem dX12_twice_38 : decode bX12_twice 38 = .ok (.isub, 1) := by decide +kernel
theorem dX12_twice_39 : decode bX12_twice 39 = .ok (.ishr, 1) := by decide +kernel
theorem dX12_twice_40 : decode bX12_twice 40 = .ok (.iconst 1, 1) := by decide +kernel
theorem dX12_twice_41 : decode bX12_twice 41 = .ok (.iand, 1) := by decide +kernel
theorem dX12_twice_42 : decode bX12_twice 42 = .ok (.iadd, 1) := by decide +kernel
theorem dX12_twice_43 : decode bX12_twice 43 = .ok (.istore_n 2, 1) := by decide +kernel
theorem dX12_twice_44 : decode bX12_twice 44 = .ok (.iinc 3 1, 3) := by decide +kernel
theorem dX12_twice_47 : decode bX12_twice 47 = .ok (.goto (-26), 3) := by decide +kernel
theorem dX12_twice_50 : decode bX12_twice 50 = .ok (.iload_n 2, 1) := by decide +kernel
theorem dX12_twice_51 : decode bX12_twice 51 = .ok (.iconst 1, 1) := by decide +kernel
theorem dX12_twice_52 : decode bX12_twice 52 = .ok (.if_icmp .le 5, 3) := by decide +kernel
theorem dX12_twice_55 : decode bX12_twice 55 = .ok (.iload_n 1, 1) := by decide +kernel
theorem dX12_twice_56 : decode bX12_twice 56 = .ok (.ireturn, 1) := by decide +kernel
theorem dX12_twice_57 : decode bX12_twice 57 = .ok (.iinc 1 1, 3) := by decide +kernel
theorem dX12_twice_60 : decode bX12_twice 60 = .ok (.goto (-53), 3) := by decide +kernel
theorem dX12_twice_63 : decode bX12_twice 63 = .ok (.bipush (-4), 2) := by decide +kernel
theorem dX12_twice_65 : decode bX12_twice 65 = .ok (.ireturn, 1) := by decide +kernel
section
variable {p : Program} {l : Launch} {e : Env} {s : State} {m : MethodId} {args : Array Value} {below : List Frame} {meth : Method} {c : Code} {G : GG} {n : Nat} {h' : Hp} {rv : Int32}
set_option maxHeartbeats 4000000
set_option maxRecDepth 100000
theorem j_X12_twice_21 (C0 : Cx p s m args meth c G bX12_twice RX12 4 (some .int) "twice") (hN : NT ≤ n) {k7 : Hp → Nat → Int32 → Option (Int32 × Hp)} (ih7 : ∀ {H : Heap} {locs : List Loc} {ls : Array Slot} {h : Hp} {x0 : Nat} {x1 : Int32}, XW G n h s 0 H locs → lv_has ls 4 [(0, .ref (bs G + x0)), (1, .int x1)] → kd x0 = 12 → k7 h x0 x1 = some (rv, h') → W p l e (rmC 0 0 0) s m args below meth c H locs 0 0 (MQ below (QP G n h' (some (.int rv))) args s 0 0 (Ab G)) (F0 m 7 ls [])) : ∀ (fu : Nat), ∀ {H : Heap} {locs : List Loc} {ls : Array Slot} {h : Hp} {x0 : Nat} {x1 : Int32} {x2 : Int32} {x3 : Int32}, XW G n h s 0 H locs → lv_has ls 4 [(0, .ref (bs G + x0)), (1, .int x1), (2, .int x2), (3, .int x3)] → kd x0 = 12 → f_X12_twice_21 k7 fu h x0 x1 x2 x3 = some (rv, h') → W p l e (rmC 0 0 0) s m args below meth c H locs 0 0 (MQ below (QP G n h' (some (.int rv))) args s 0 0 (Ab G)) (F0 m 21 ls []) := by
  obtain ⟨hx, hb, hr, hml, hown, hts, hK, hlocks, hnm⟩ := id C0
  intro fu
  induction fu with
  | zero => intro H locs ls h x0 x1 x2 x3 X hl o0 hf; cases hf
  | succ fu ih =>
    intro H locs ls h x0 x1 x2 x3 X hl o0 hf
    rw [f_X12_twice_21] at hf
    refine lv_iload_n hx hb dX12_twice_21 rfl (lv_at hl 3 rfl) ?_
    refine lv_aload_n hx hb dX12_twice_22 rfl (lv_at hl 0 rfl) ?_
    refine g_I hx hb hts hown hK X o0 hN fl_X12_116 (by decide) rfl dX12_twice_23 ?_
    refine lv_icmp_ge (tgt := 50) hx hb dX12_twice_26 (by decide) (fun c26 => ?_) (fun c26 => ?_)
    · have hf := ite_t hf c26
      refine lv_iload_n hx hb dX12_twice_50 rfl (lv_at hl 2 rfl) ?_
      refine lv_iconst (v := (1 : Int32)) hx hb dX12_twice_51 (by decide) ?_
      refine lv_icmp_le (tgt := 57) hx hb dX12_twice_52 (by decide) (fun c52 => ?_) (fun c52 => ?_)
      · have hf := ite_t hf c52
        refine lv_iinc (v := (x1 + (1 : Int32))) (lv' := [(1, .int (x1 + (1 : Int32))), (0, .ref (bs G + x0)), (2, .int x2), (3, .int x3)]) hx hb dX12_twice_57 hl (k := 1) rfl rfl (by decide) rfl (fun ls hl => ?_)
        refine lv_goto (tgt := 7) hx hb dX12_twice_60 (by decide) ?_
        exact ih7 X (lv_sub hl [1, 0] rfl) o0 hf
      · have hf := ite_f hf c52
        refine lv_iload_n hx hb dX12_twice_55 rfl (lv_at hl 1 rfl) ?_
        exact r_I hx hb hr hlocks X hf dX12_twice_56
    · have hf := ite_f hf c26
      refine lv_iload_n hx hb dX12_twice_29 rfl (lv_at hl 2 rfl) ?_
      refine lv_aload_n hx hb dX12_twice_30 rfl (lv_at hl 0 rfl) ?_
      obtain ⟨g1, hf⟩ := gd_e hf
      refine g_R hx hb hts hown hK X o0 hN g1 fl_X12_59 (by decide) rfl (by decide) dX12_twice_31 ?_
      refine lv_iload_n hx hb dX12_twice_34 rfl (lv_at hl 3 rfl) ?_
      obtain ⟨g2, hf⟩ := gd_e hf
      refine g_ia hx hb hK X g1 hN g2 (by decide) dX12_twice_35 ?_
      refine lv_iload_n hx hb dX12_twice_36 rfl (lv_at hl 1 rfl) ?_
      refine lv_iconst (v := (1 : Int32)) hx hb dX12_twice_37 (by decide) ?_
      refine lv_isub hx hb dX12_twice_38 ?_
      refine lv_ishr hx hb dX12_twice_39 ?_
      refine lv_iconst (v := (1 : Int32)) hx hb dX12_twice_40 (by decide) ?_
      refine lv_iand hx hb dX12_twice_41 ?_
      refine lv_iadd hx hb dX12_twice_42 ?_
      refine lv_istore_n (lv' := [(2, .int (x2 + (((h.1 (h.2 x0 26) x3.toNatClampNeg) >>> ((x1 - (1 : Int32)) &&& 31)) &&& (1 : Int32)))), (0, .ref (bs G + x0)), (1, .int x1), (3, .int x3)]) hx hb dX12_twice_43 rfl hl (by decide) rfl (fun ls hl => ?_)
      refine lv_iinc (v := (x3 + (1 : Int32))) (lv' := [(3, .int (x3 + (1 : Int32))), (2, .int (x2 + (((h.1 (h.2 x0 26) x3.toNatClampNeg) >>> ((x1 - (1 : Int32)) &&& 31)) &&& (1 : Int32)))), (0, .ref (bs G + x0)), (1, .int x1)]) hx hb dX12_twice_44 hl (k := 3) rfl rfl (by decide) rfl (fun ls hl => ?_)
      refine lv_goto (tgt := 21) hx hb dX12_twice_47 (by decide) ?_
      exact ih X (lv_sub hl [2, 3, 1, 0] rfl) o0 hf
theorem j_X12_twice_7 (C0 : Cx p s m args meth c G bX12_twice RX12 4 (some .int) "twice") (hN : NT ≤ n) : ∀ (fu : Nat), ∀ {H : Heap} {locs : List Loc} {ls : Array Slot} {h : Hp} {x0 : Nat} {x1 : Int32}, XW G n h s 0 H locs → lv_has ls 4 [(0, .ref (bs G + x0)), (1, .int x1)] → kd x0 = 12 → f_X12_twice_7 fu h x0 x1 = some (rv, h') → W p l e (rmC 0 0 0) s m args below meth c H locs 0 0 (MQ below (QP G n h' (some (.int rv))) args s 0 0 (Ab G)) (F0 m 7 ls []) := by
  obtain ⟨hx, hb, hr, hml, hown, hts, hK, hlocks, hnm⟩ := id C0
  intro fu
  induction fu with
  | zero => intro H locs ls h x0 x1 X hl o0 hf; cases hf
  | succ fu ih =>
    intro H locs ls h x0 x1 X hl o0 hf
    rw [f_X12_twice_7] at hf
    refine lv_iload_n hx hb dX12_twice_7 rfl (lv_at hl 1 rfl) ?_
    refine lv_aload_n hx hb dX12_twice_8 rfl (lv_at hl 0 rfl) ?_
    obtain ⟨g1, hf⟩ := gd_e hf
    refine g_R hx hb hts hown hK X o0 hN g1 fl_X12_13 (by decide) rfl (by decide) dX12_twice_9 ?_
    refine lv_iconst (v := (0 : Int32)) hx hb dX12_twice_12 (by decide) ?_
    obtain ⟨g2, hf⟩ := gd_e hf
    refine g_ia hx hb hK X g1 hN g2 (by decide) dX12_twice_13 ?_
    refine lv_icmp_gt (tgt := 63) hx hb dX12_twice_14 (by decide) (fun c14 => ?_) (fun c14 => ?_)
    · have hf := ite_t hf c14
      refine lv_bipush (v := (-4 : Int32)) hx hb dX12_twice_63 (by decide) ?_
      exact r_I hx hb hr hlocks X hf dX12_twice_65
    · have hf := ite_f hf c14
      refine lv_iconst (v := (0 : Int32)) hx hb dX12_twice_17 (by decide) ?_
      refine lv_istore_n (lv' := [(2, .int (0 : Int32)), (0, .ref (bs G + x0)), (1, .int x1)]) hx hb dX12_twice_18 rfl hl (by decide) rfl (fun ls hl => ?_)
      refine lv_iconst (v := (0 : Int32)) hx hb dX12_twice_19 (by decide) ?_
      refine lv_istore_n (lv' := [(3, .int (0 : Int32)), (2, .int (0 : Int32)), (0, .ref (bs G + x0)), (1, .int x1)]) hx hb dX12_twice_20 rfl hl (by decide) rfl (fun ls hl => ?_)
      exact j_X12_twice_21 C0 hN @ih FU X (lv_sub hl [2, 3, 1, 0] rfl) o0 hf
theorem k_X12_twice (l : Launch) (G : GG) (n : Nat) (hN : NT ≤ n) {h h' : Hp} {x0 : Nat} {rv : Int32} (hf : f_X12_twice h x0 = some (rv, h')) : CT l G n n yX12_twice (.code yX12_twice bX12_twice 4 (some .int)) 0 0 0 [.ref (bs G + x0)] h h' (some (.int rv)) := by
  refine ct_of (maxL := 4) (ret := (some .int)) (bytes := bX12_twice) (by decide) (Nat.le_of_ble_eq_true rfl) (fun p e s m below meth c C0 X ls hl => ?_)
  have hl : lv_has ls 4 [(0, .ref (bs G + x0))] := hl
  obtain ⟨hx, hb, hr, hml, hown, hts, hK, hlocks, hnm⟩ := id C0
  unfold f_X12_twice at hf
  obtain ⟨o0, hf⟩ := gd_e hf
  refine lv_aload_n hx hb dX12_twice_0 rfl (lv_at hl 0 rfl) ?_
  refine lv_iconst (v := (0 : Int32)) hx hb dX12_twice_1 (by decide) ?_
  refine g_PI hx hb hts hown hK X o0 hN fl_X12_1 ft_12_0 (by decide) rfl dX12_twice_2 (fun H locs X => ?_)
  obtain ⟨h1, e2, hf⟩ := lt_e hf
  rw [← e2] at X
  refine lv_iconst (v := (1 : Int32)) hx hb dX12_twice_5 (by decide) ?_
  refine lv_istore_n (lv' := [(1, .int (1 : Int32)), (0, .ref (bs G + x0))]) hx hb dX12_twice_6 rfl hl (by decide) rfl (fun ls hl => ?_)
  exact j_X12_twice_7 C0 hN FU X (lv_sub hl [1, 0] rfl) o0 hf
end
theorem dX12_corner_0 : decode bX12_corner 0 = .ok (.aload_n 0, 1) := by decide +kernel
theorem dX12_corner_1 : decode bX12_corner 1 = .ok (.iconst 0, 1) := by decide +kernel
theorem dX12_corner_2 : decode bX12_corner 2 = .ok (.putfield 1, 3) := by decide +kernel
theorem dX12_corner_5 : decode bX12_corner 5 = .ok (.aload_n 0, 1) := by decide +kernel
theorem dX12_corner_6 : decode bX12_corner 6 = .ok (.iload_n 1, 1) := by decide +kernel
theorem dX12_corner_7 : decode bX12_corner 7 = .ok (.invokevirtual 138, 3) := by decide +kernel
theorem dX12_corner_10 : decode bX12_corner 10 = .ok (.ifCond .ne 13, 3) := by decide +kernel
theorem dX12_corner_13 : decode bX12_corner 13 = .ok (.iload_n 2, 1) := by decide +kernel
theorem dX12_corner_14 : decode bX12_corner 14 = .ok (.i2l, 1) := by decide +kernel
theorem dX12_corner_15 : decode bX12_corner 15 = .ok (.lconst 0, 1) := by decide +kernel
theorem dX12_corner_16 : decode bX12_corner 16 = .ok (.lconst 1, 1) := by decide +kernel
theorem dX12_corner_17 : decode bX12_corner 17 = .ok (.invokestatic 75, 3) := by decide +kernel
theorem dX12_corner_20 : decode bX12_corner 20 = .ok (.ifCond .ne 5, 3) := by decide +kernel
theorem dX12_corner_23 : decode bX12_corner 23 = .ok (.iconst (-1), 1) := by decide +kernel
theorem dX12_corner_24 : decode bX12_corner 24 = .ok (.ireturn, 1) := by decide +kernel
theorem dX12_corner_25 : decode bX12_corner 25 = .ok (.aload_n 0, 1) := by decide +kernel
theorem dX12_corner_26 : decode bX12_corner 26 = .ok (.getfield 20, 3) := by decide +kernel
theorem dX12_corner_29 : decode bX12_corner 29 = .ok (.iconst 2, 1) := by decide +kernel
theorem dX12_corner_30 : decode bX12_corner 30 = .ok (.iaload, 1) := by decide +kernel
theorem dX12_corner_31 : decode bX12_corner 31 = .ok (.iload_n 1, 1) := by decide +kernel
theorem dX12_corner_32 : decode bX12_corner 32 = .ok (.invokestatic 170, 3) := by decide +kernel
theorem dX12_corner_35 : decode bX12_corner 35 = .ok (.ifCond .eq 6, 3) := by decide +kernel
theorem dX12_corner_38 : decode bX12_corner 38 = .ok (.bipush (-2), 2) := by decide +kernel
theorem dX12_corner_40 : decode bX12_corner 40 = .ok (.ireturn, 1) := by decide +kernel
theorem dX12_corner_41 : decode bX12_corner 41 = .ok (.bipush (-4), 2) := by decide +kernel
theorem dX12_corner_43 : decode bX12_corner 43 = .ok (.istore_n 3, 1) := by decide +kernel
theorem dX12_corner_44 : decode bX12_corner 44 = .ok (.iconst (-1), 1) := by decide +kernel
theorem dX12_corner_45 : decode bX12_corner 45 = .ok (.istore 4, 2) := by decide +kernel
theorem dX12_corner_47 : decode bX12_corner 47 = .ok (.iconst 1, 1) := by decide +kernel
theorem dX12_corner_48 : decode bX12_corner 48 = .ok (.istore 5, 2) := by decide +kernel
theorem dX12_corner_50 : decode bX12_corner 50 = .ok (.iload 5, 2) := by decide +kernel
theorem dX12_corner_52 : decode bX12_corner 52 = .ok (.bipush 100, 2) := by decide +kernel
theorem dX12_corner_54 : decode bX12_corner 54 = .ok (.if_icmp .ge 95, 3) := by decide +kernel
theorem dX12_corner_57 : decode bX12_corner 57 = .ok (.aload_n 0, 1) := by decide +kernel
theorem dX12_corner_58 : decode bX12_corner 58 = .ok (.aload_n 0, 1) := by decide +kernel
theorem dX12_corner_59 : decode bX12_corner 59 = .ok (.iload_n 1, 1) := by decide +kernel
theorem dX12_corner_60 : decode bX12_corner 60 = .ok (.invokevirtual 141, 3) := by decide +kernel
theorem dX12_corner_63 : decode bX12_corner 63 = .ok (.iload 5, 2) := by decide +kernel
theorem dX12_corner_65 : decode bX12_corner 65 = .ok (.aload_n 0, 1) := by decide +kernel
theorem dX12_corner_66 : decode bX12_corner 66 = .ok (.getfield 13, 3) := by decide +kernel
theorem dX12_corner_69 : decode bX12_corner 69 = .ok (.iconst 2, 1) := by decide +kernel
theorem dX12_corner_70 : decode bX12_corner 70 = .ok (.iaload, 1) := by decide +kernel
theorem dX12_corner_71 : decode bX12_corner 71 = .ok (.invokevirtual 191, 3) := by decide +kernel
theorem dX12_corner_74 : decode bX12_corner 74 = .ok (.bipush (-4), 2) := by decide +kernel
theorem dX12_corner_76 : decode bX12_corner 76 = .ok (.if_icmp .eq 67, 3) := by decide +kernel
theorem dX12_corner_79 : decode bX12_corner 79 = .ok (.aload_n 0, 1) := by decide +kernel
theorem dX12_corner_80 : decode bX12_corner 80 = .ok (.aload_n 0, 1) := by decide +kernel
theorem dX12_corner_81 : decode bX12_corner 81 = .ok (.invokevirtual 215, 3) := by decide +kernel
theorem dX12_corner_84 : decode bX12_corner 84 = .ok (.iconst 1, 1) := by decide +kernel
theorem dX12_corner_85 : decode bX12_corner 85 = .ok (.iload_n 1, 1) := by decide +kernel
theorem dX12_corner_86 : decode bX12_corner 86 = .ok (.ishl, 1) := by decide +kernel
theorem dX12_corner_87 : decode bX12_corner 87 = .ok (.iconst (-1), 1) := by decide +kernel
theorem dX12_corner_88 : decode bX12_corner 88 = .ok (.ixor, 1) := by decide +kernel
theorem dX12_corner_89 : decode bX12_corner 89 = .ok (.iand, 1) := by decide +kernel
theorem dX12_corner_90 : decode bX12_corner 90 = .ok (.aload_n 0, 1) := by decide +kernel
theorem dX12_corner_91 : decode bX12_corner 91 = .ok (.invokevirtual 135, 3) := by decide +kernel
theorem dX12_corner_94 : decode bX12_corner 94 = .ok (.aload_n 0, 1) := by decide +kernel
theorem dX12_corner_95 : decode bX12_corner 95 = .ok (.invokevirtual 201, 3) := by decide +kernel
theorem dX12_corner_98 : decode bX12_corner 98 = .ok (.ior, 1) := by decide +kernel
theorem dX12_corner_99 : decode bX12_corner 99 = .ok (.aload_n 0, 1) := by decide +kernel
theorem dX12_corner_100 : decode bX12_corner 100 = .ok (.getfield 13, 3) := by decide +kernel
theorem dX12_corner_103 : decode bX12_corner 103 = .ok (.iconst 2, 1) := by decide +kernel
theorem dX12_corner_104 : decode bX12_corner 104 = .ok (.iaload, 1) := by decide +kernel
theorem dX12_corner_105 : decode bX12_corner 105 = .ok (.invokevirtual 218, 3) := by decide +kernel
theorem dX12_corner_108 : decode bX12_corner 108 = .ok (.invokestatic 204, 3) := by decide +kernel
theorem dX12_corner_111 : decode bX12_corner 111 = .ok (.istore 6, 2) := by decide +kernel
theorem dX12_corner_113 : decode bX12_corner 113 = .ok (.iload 6, 2) := by decide +kernel
theorem dX12_corner_115 : decode bX12_corner 115 = .ok (.iload 4, 2) := by decide +kernel
theorem dX12_corner_117 : decode bX12_corner 117 = .ok (.if_icmp .le 8, 3) := by decide +kernel
theorem dX12_corner_120 : decode bX12_corner 120 = .ok (.iload 5, 2) := by decide +kernel
theorem dX12_corner_122 : decode bX12_corner 122 = .ok (.goto 4, 3) := by decide +kernel
theorem dX12_corner_125 : decode bX12_corner 125 = .ok (.iload_n 3, 1) := by decide +kernel
theorem dX12_corner_126 : decode bX12_corner 126 = .ok (.istore_n 3, 1) := by decide +kernel
theorem dX12_corner_127 : decode bX12_corner 127 = .ok (.iload 6, 2) := by decide +kernel
theorem dX12_corner_129 : decode bX12_corner 129 = .ok (.iload 4, 2) := by decide +kernel
theorem dX12_corner_131 : decode bX12_corner 131 = .ok (.if_icmp .le 8, 3) := by decide +kernel
theorem dX12_corner_134 : decode bX12_corner 134 = .ok (.iload 6, 2) := by decide +kernel
theorem dX12_corner_136 : decode bX12_corner 136 = .ok (.goto 5, 3) := by decide +kernel
theorem dX12_corner_139 : decode bX12_corner 139 = .ok (.iload 4, 2) := by decide +kernel
theorem dX12_corner_141 : decode bX12_corner 141 = .ok (.istore 4, 2) := by decide +kernel
theorem dX12_corner_143 : decode bX12_corner 143 = .ok (.iinc 5 1, 3) := by decide +kernel
theorem dX12_corner_146 : decode bX12_corner 146 = .ok (.goto (-96), 3) := by decide +kernel
theorem dX12_corner_149 : decode bX12_corner 149 = .ok (.iload_n 3, 1) := by decide +kernel
theorem dX12_corner_150 : decode bX12_corner 150 = .ok (.bipush (-4), 2) := by decide +kernel
theorem dX12_corner_152 : decode bX12_corner 152 = .ok (.if_icmp .eq 7, 3) := by decide +kernel
theorem dX12_corner_155 : decode bX12_corner 155 = .ok (.iload_n 2, 1) := by decide +kernel
theorem dX12_corner_156 : decode bX12_corner 156 = .ok (.ifCond .ne 7, 3) := by decide +kernel
theorem dX12_corner_159 : decode bX12_corner 159 = .ok (.iload_n 3, 1) := by decide +kernel
theorem dX12_corner_160 : decode bX12_corner 160 = .ok (.goto 5, 3) := by decide +kernel
theorem dX12_corner_163 : decode bX12_corner 163 = .ok (.iload 4, 2) := by decide +kernel
theorem dX12_corner_165 : decode bX12_corner 165 = .ok (.ireturn, 1) := by decide +kernel
section
variable {p : Program} {l : Launch} {e : Env} {s : State} {m : MethodId} {args : Array Value} {below : List Frame} {meth : Method} {c : Code} {G : GG} {n : Nat} {h' : Hp} {rv : Int32}
set_option maxHeartbeats 4000000
set_option maxRecDepth 100000
theorem j_X12_corner_126 (C0 : Cx p s m args meth c G bX12_corner RX12 7 (some .int) "corner") (hN : NT ≤ n) {k50 : Hp → Nat → Int32 → Int32 → Int32 → Int32 → Int32 → Option (Int32 × Hp)} (ih50 : ∀ {H : Heap} {locs : List Loc} {ls : Array Slot} {h : Hp} {x0 : Nat} {x1 : Int32} {x2 : Int32} {x3 : Int32} {x4 : Int32} {x5 : Int32}, XW G n h s 0 H locs → lv_has ls 7 [(0, .ref (bs G + x0)), (1, .int x1), (2, .int x2), (3, .int x3), (4, .int x4), (5, .int x5)] → kd x0 = 12 → k50 h x0 x1 x2 x3 x4 x5 = some (rv, h') → W p l e (rmC 7 0 0) s m args below meth c H locs 0 0 (MQ below (QP G n h' (some (.int rv))) args s 0 0 (Ab G)) (F0 m 50 ls [])) {H : Heap} {locs : List Loc} {ls : Array Slot} {h : Hp} {x0 : Nat} {x1 : Int32} {x2 : Int32} {x4 : Int32} {x5 : Int32} {x6 : Int32} {t0 : Int32} (X : XW G n h s 0 H locs) (hl : lv_has ls 7 [(0, .ref (bs G + x0)), (1, .int x1), (2, .int x2), (4, .int x4), (5, .int x5), (6, .int x6)]) (o0 : kd x0 = 12) (hf : f_X12_corner_126 k50 h x0 x1 x2 x4 x5 x6 t0 = some (rv, h')) : W p l e (rmC 7 0 0) s m args below meth c H locs 0 0 (MQ below (QP G n h' (some (.int rv))) args s 0 0 (Ab G)) (F0 m 126 ls [.int t0]) := by
  obtain ⟨hx, hb, hr, hml, hown, hts, hK, hlocks, hnm⟩ := id C0
  unfold f_X12_corner_126 at hf
  refine lv_istore_n (lv' := [(3, .int t0), (0, .ref (bs G + x0)), (1, .int x1), (2, .int x2), (4, .int x4), (5, .int x5), (6, .int x6)]) hx hb dX12_corner_126 rfl hl (by decide) rfl (fun ls hl => ?_)
  refine lv_iload hx hb dX12_corner_127 (lv_at hl 6 rfl) ?_
  refine lv_iload hx hb dX12_corner_129 (lv_at hl 4 rfl) ?_
  refine lv_icmp_le (tgt := 139) hx hb dX12_corner_131 (by decide) (fun c131 => ?_) (fun c131 => ?_)
  · have hf := ite_t hf c131
    refine lv_iload hx hb dX12_corner_139 (lv_at hl 4 rfl) ?_
    refine lv_istore (lv' := [(4, .int x4), (3, .int t0), (0, .ref (bs G + x0)), (1, .int x1), (2, .int x2), (5, .int x5), (6, .int x6)]) hx hb dX12_corner_141 hl (by decide) rfl (fun ls hl => ?_)
    refine lv_iinc (v := (x5 + (1 : Int32))) (lv' := [(5, .int (x5 + (1 : Int32))), (4, .int x4), (3, .int t0), (0, .ref (bs G + x0)), (1, .int x1), (2, .int x2), (6, .int x6)]) hx hb dX12_corner_143 hl (k := 5) rfl rfl (by decide) rfl (fun ls hl => ?_)
    refine lv_goto (tgt := 50) hx hb dX12_corner_146 (by decide) ?_
    exact ih50 X (lv_sub hl [3, 4, 5, 2, 1, 0] rfl) o0 hf
  · have hf := ite_f hf c131
    refine lv_iload hx hb dX12_corner_134 (lv_at hl 6 rfl) ?_
    refine lv_goto (tgt := 141) hx hb dX12_corner_136 (by decide) ?_
    refine lv_istore (lv' := [(4, .int x6), (3, .int t0), (0, .ref (bs G + x0)), (1, .int x1), (2, .int x2), (5, .int x5), (6, .int x6)]) hx hb dX12_corner_141 hl (by decide) rfl (fun ls hl => ?_)
    refine lv_iinc (v := (x5 + (1 : Int32))) (lv' := [(5, .int (x5 + (1 : Int32))), (4, .int x6), (3, .int t0), (0, .ref (bs G + x0)), (1, .int x1), (2, .int x2), (6, .int x6)]) hx hb dX12_corner_143 hl (k := 5) rfl rfl (by decide) rfl (fun ls hl => ?_)
    refine lv_goto (tgt := 50) hx hb dX12_corner_146 (by decide) ?_
    exact ih50 X (lv_sub hl [3, 4, 5, 2, 1, 0] rfl) o0 hf
theorem j_X12_corner_50 (C0 : Cx p s m args meth c G bX12_corner RX12 7 (some .int) "corner") (hN : NT ≤ n) : ∀ (fu : Nat), ∀ {H : Heap} {locs : List Loc} {ls : Array Slot} {h : Hp} {x0 : Nat} {x1 : Int32} {x2 : Int32} {x3 : Int32} {x4 : Int32} {x5 : Int32}, XW G n h s 0 H locs → lv_has ls 7 [(0, .ref (bs G + x0)), (1, .int x1), (2, .int x2), (3, .int x3), (4, .int x4), (5, .int x5)] → kd x0 = 12 → f_X12_corner_50 fu h x0 x1 x2 x3 x4 x5 = some (rv, h') → W p l e (rmC 7 0 0) s m args below meth c H locs 0 0 (MQ below (QP G n h' (some (.int rv))) args s 0 0 (Ab G)) (F0 m 50 ls []) := by
  obtain ⟨hx, hb, hr, hml, hown, hts, hK, hlocks, hnm⟩ := id C0
  intro fu
  induction fu with
  | zero => intro H locs ls h x0 x1 x2 x3 x4 x5 X hl o0 hf; cases hf
  | succ fu ih =>
    intro H locs ls h x0 x1 x2 x3 x4 x5 X hl o0 hf
    rw [f_X12_corner_50] at hf
    refine lv_iload hx hb dX12_corner_50 (lv_at hl 5 rfl) ?_
    refine lv_bipush (v := (100 : Int32)) hx hb dX12_corner_52 (by decide) ?_
    refine lv_icmp_ge (tgt := 149) hx hb dX12_corner_54 (by decide) (fun c54 => ?_) (fun c54 => ?_)
    · have hf := ite_t hf c54
      refine lv_iload_n hx hb dX12_corner_149 rfl (lv_at hl 3 rfl) ?_
      refine lv_bipush (v := (-4 : Int32)) hx hb dX12_corner_150 (by decide) ?_
      refine lv_icmp_eq (tgt := 159) hx hb dX12_corner_152 (by decide) (fun c152 => ?_) (fun c152 => ?_)
      · have hf := ite_t hf c152
        refine lv_iload_n hx hb dX12_corner_159 rfl (lv_at hl 3 rfl) ?_
        refine lv_goto (tgt := 165) hx hb dX12_corner_160 (by decide) ?_
        exact r_I hx hb hr hlocks X hf dX12_corner_165
      · have hf := ite_f hf c152
        refine lv_iload_n hx hb dX12_corner_155 rfl (lv_at hl 2 rfl) ?_
        refine lv_if_ne (tgt := 163) hx hb dX12_corner_156 (by decide) (fun c156 => ?_) (fun c156 => ?_)
        · have hf := ite_f hf c156
          refine lv_iload hx hb dX12_corner_163 (lv_at hl 4 rfl) ?_
          exact r_I hx hb hr hlocks X hf dX12_corner_165
        · have hf := ite_t hf c156
          refine lv_iload_n hx hb dX12_corner_159 rfl (lv_at hl 3 rfl) ?_
          refine lv_goto (tgt := 165) hx hb dX12_corner_160 (by decide) ?_
          exact r_I hx hb hr hlocks X hf dX12_corner_165
    · have hf := ite_f hf c54
      refine lv_aload_n hx hb dX12_corner_57 rfl (lv_at hl 0 rfl) ?_
      refine lv_aload_n hx hb dX12_corner_58 rfl (lv_at hl 0 rfl) ?_
      refine lv_iload_n hx hb dX12_corner_59 rfl (lv_at hl 1 rfl) ?_
      obtain ⟨r1, h2, q3, hf⟩ := bd_e hf
      refine c_V0 (As := [.int x1]) (rest := [.ref (bs G + x0)]) (st1 := [.int r1, .ref (bs G + x0)]) hx hb hml hown hts hK X (k_X12_mayOf l G n hN q3) o0 hN lc_X12_mayOf lv_X12_141 (ci := 12) rfl rfl (by decide) rfl hl.1 (Nat.le_of_ble_eq_true rfl) dX12_corner_60 rfl (fun H locs X => ?_)
      refine lv_iload hx hb dX12_corner_63 (lv_at hl 5 rfl) ?_
      refine lv_aload_n hx hb dX12_corner_65 rfl (lv_at hl 0 rfl) ?_
      obtain ⟨g4, hf⟩ := gd_e hf
      refine g_R hx hb hts hown hK X o0 hN g4 fl_X12_13 (by decide) rfl (by decide) dX12_corner_66 ?_
      refine lv_iconst (v := (2 : Int32)) hx hb dX12_corner_69 (by decide) ?_
      obtain ⟨g5, hf⟩ := gd_e hf
      refine g_ia hx hb hK X g4 hN g5 (by decide) dX12_corner_70 ?_
      obtain ⟨r6, h7, q8, hf⟩ := bd_e hf
      refine c_V0 (As := [.int r1, .int x5, .int (h2.1 (h2.2 x0 1) (2 : Int32).toNatClampNeg)]) (rest := []) (st1 := [.int r6]) hx hb hml hown hts hK X (k_X12_bestOf l G n hN q8) o0 hN lc_X12_bestOf lv_X12_191 (ci := 12) rfl rfl (by decide) rfl hl.1 (Nat.le_of_ble_eq_true rfl) dX12_corner_71 rfl (fun H locs X => ?_)
      refine lv_bipush (v := (-4 : Int32)) hx hb dX12_corner_74 (by decide) ?_
      refine lv_icmp_eq (tgt := 143) hx hb dX12_corner_76 (by decide) (fun c76 => ?_) (fun c76 => ?_)
      · have hf := ite_t hf c76
        refine lv_iinc (v := (x5 + (1 : Int32))) (lv' := [(5, .int (x5 + (1 : Int32))), (0, .ref (bs G + x0)), (1, .int x1), (2, .int x2), (3, .int x3), (4, .int x4)]) hx hb dX12_corner_143 hl (k := 5) rfl rfl (by decide) rfl (fun ls hl => ?_)
        refine lv_goto (tgt := 50) hx hb dX12_corner_146 (by decide) ?_
        exact ih X (lv_sub hl [1, 2, 3, 4, 5, 0] rfl) o0 hf
      · have hf := ite_f hf c76
        refine lv_aload_n hx hb dX12_corner_79 rfl (lv_at hl 0 rfl) ?_
        refine lv_aload_n hx hb dX12_corner_80 rfl (lv_at hl 0 rfl) ?_
        obtain ⟨r9, h10, q11, hf⟩ := bd_e hf
        refine c_V0 (As := []) (rest := [.ref (bs G + x0)]) (st1 := [.int r9, .ref (bs G + x0)]) hx hb hml hown hts hK X (k_X12_silent l G n hN q11) o0 hN lc_X12_silent lv_X12_215 (ci := 12) rfl rfl (by decide) rfl hl.1 (Nat.le_of_ble_eq_true rfl) dX12_corner_81 rfl (fun H locs X => ?_)
        refine lv_iconst (v := (1 : Int32)) hx hb dX12_corner_84 (by decide) ?_
        refine lv_iload_n hx hb dX12_corner_85 rfl (lv_at hl 1 rfl) ?_
        refine lv_ishl hx hb dX12_corner_86 ?_
        refine lv_iconst (v := (-1 : Int32)) hx hb dX12_corner_87 (by decide) ?_
        refine lv_ixor hx hb dX12_corner_88 ?_
        refine lv_iand hx hb dX12_corner_89 ?_
        refine lv_aload_n hx hb dX12_corner_90 rfl (lv_at hl 0 rfl) ?_
        obtain ⟨r12, h13, q14, hf⟩ := bd_e hf
        refine c_V0 (As := []) (rest := [.int (r9 &&& (((1 : Int32) <<< (x1 &&& 31)) ^^^ (-1 : Int32))), .ref (bs G + x0)]) (st1 := [.int r12, .int (r9 &&& (((1 : Int32) <<< (x1 &&& 31)) ^^^ (-1 : Int32))), .ref (bs G + x0)]) hx hb hml hown hts hK X (k_X12_taken l G n hN q14) o0 hN lc_X12_taken lv_X12_135 (ci := 12) rfl rfl (by decide) rfl hl.1 (Nat.le_of_ble_eq_true rfl) dX12_corner_91 rfl (fun H locs X => ?_)
        refine lv_aload_n hx hb dX12_corner_94 rfl (lv_at hl 0 rfl) ?_
        obtain ⟨r15, h16, q17, hf⟩ := bd_e hf
        refine c_V0 (As := []) (rest := [.int r12, .int (r9 &&& (((1 : Int32) <<< (x1 &&& 31)) ^^^ (-1 : Int32))), .ref (bs G + x0)]) (st1 := [.int r15, .int r12, .int (r9 &&& (((1 : Int32) <<< (x1 &&& 31)) ^^^ (-1 : Int32))), .ref (bs G + x0)]) hx hb hml hown hts hK X (k_X12_usedSet l G n hN q17) o0 hN lc_X12_usedSet lv_X12_201 (ci := 12) rfl rfl (by decide) rfl hl.1 (Nat.le_of_ble_eq_true rfl) dX12_corner_95 rfl (fun H locs X => ?_)
        refine lv_ior hx hb dX12_corner_98 ?_
        refine lv_aload_n hx hb dX12_corner_99 rfl (lv_at hl 0 rfl) ?_
        obtain ⟨g18, hf⟩ := gd_e hf
        refine g_R hx hb hts hown hK X o0 hN g18 fl_X12_13 (by decide) rfl (by decide) dX12_corner_100 ?_
        refine lv_iconst (v := (2 : Int32)) hx hb dX12_corner_103 (by decide) ?_
        obtain ⟨g19, hf⟩ := gd_e hf
        refine g_ia hx hb hK X g18 hN g19 (by decide) dX12_corner_104 ?_
        obtain ⟨r20, h21, q22, hf⟩ := bd_e hf
        refine c_V0 (As := [.int (r9 &&& (((1 : Int32) <<< (x1 &&& 31)) ^^^ (-1 : Int32))), .int (r12 ||| r15), .int (h16.1 (h16.2 x0 1) (2 : Int32).toNatClampNeg)]) (rest := []) (st1 := [.int r20]) hx hb hml hown hts hK X (k_X12_stuckOf l G n hN q22) o0 hN lc_X12_stuckOf lv_X12_218 (ci := 12) rfl rfl (by decide) rfl hl.1 (Nat.le_of_ble_eq_true rfl) dX12_corner_105 rfl (fun H locs X => ?_)
        obtain ⟨r23, h24, q25, hf⟩ := bd_e hf
        refine c_S0 (As := [.int r20]) (rest := []) (st1 := [.int r23]) hx hb hml hown hts hK X (k_X12_bits l G n hN q25) lc_X12_bits ls_X12_204 (by decide) rfl hl.1 (Nat.le_of_ble_eq_true rfl) dX12_corner_108 rfl (fun H locs X => ?_)
        refine lv_istore (lv' := [(6, .int r23), (0, .ref (bs G + x0)), (1, .int x1), (2, .int x2), (3, .int x3), (4, .int x4), (5, .int x5)]) hx hb dX12_corner_111 hl (by decide) rfl (fun ls hl => ?_)
        refine lv_iload hx hb dX12_corner_113 (lv_at hl 0 rfl) ?_
        refine lv_iload hx hb dX12_corner_115 (lv_at hl 5 rfl) ?_
        refine lv_icmp_le (tgt := 125) hx hb dX12_corner_117 (by decide) (fun c117 => ?_) (fun c117 => ?_)
        · have hf := ite_t hf c117
          refine lv_iload_n hx hb dX12_corner_125 rfl (lv_at hl 4 rfl) ?_
          exact j_X12_corner_126 C0 hN @ih X (lv_sub hl [1, 2, 3, 5, 6, 0] rfl) o0 hf
        · have hf := ite_f hf c117
          refine lv_iload hx hb dX12_corner_120 (lv_at hl 6 rfl) ?_
          refine lv_goto (tgt := 126) hx hb dX12_corner_122 (by decide) ?_
          exact j_X12_corner_126 C0 hN @ih X (lv_sub hl [1, 2, 3, 5, 6, 0] rfl) o0 hf
theorem k_X12_corner (l : Launch) (G : GG) (n : Nat) (hN : NT ≤ n) {h h' : Hp} {x0 : Nat} {x1 : Int32} {x2 : Int32} {rv : Int32} (hf : f_X12_corner h x0 x1 x2 = some (rv, h')) : CT l G n n yX12_corner (.code yX12_corner bX12_corner 7 (some .int)) 7 0 0 [.ref (bs G + x0), .int x1, .int x2] h h' (some (.int rv)) := by
  refine ct_of (maxL := 7) (ret := (some .int)) (bytes := bX12_corner) (by decide) (Nat.le_of_ble_eq_true rfl) (fun p e s m below meth c C0 X ls hl => ?_)
  have hl : lv_has ls 7 [(0, .ref (bs G + x0)), (1, .int x1), (2, .int x2)] := hl
  obtain ⟨hx, hb, hr, hml, hown, hts, hK, hlocks, hnm⟩ := id C0
  unfold f_X12_corner at hf
  obtain ⟨o0, hf⟩ := gd_e hf
  refine lv_aload_n hx hb dX12_corner_0 rfl (lv_at hl 0 rfl) ?_
  refine lv_iconst (v := (0 : Int32)) hx hb dX12_corner_1 (by decide) ?_
  refine g_PI hx hb hts hown hK X o0 hN fl_X12_1 ft_12_0 (by decide) rfl dX12_corner_2 (fun H locs X => ?_)
  obtain ⟨h1, e2, hf⟩ := lt_e hf
  rw [← e2] at X
  refine lv_aload_n hx hb dX12_corner_5 rfl (lv_at hl 0 rfl) ?_
  refine lv_iload_n hx hb dX12_corner_6 rfl (lv_at hl 1 rfl) ?_
  obtain ⟨r3, h4, q5, hf⟩ := bd_e hf
  refine c_V0 (As := [.int x1]) (rest := []) (st1 := [.int r3]) hx hb hml hown hts hK X (k_X12_noOne l G n hN q5) o0 hN lc_X12_noOne lv_X12_138 (ci := 12) rfl rfl (by decide) rfl hl.1 (Nat.le_of_ble_eq_true rfl) dX12_corner_7 rfl (fun H locs X => ?_)
  refine lv_if_ne (tgt := 23) hx hb dX12_corner_10 (by decide) (fun c10 => ?_) (fun c10 => ?_)
  · have hf := ite_f hf c10
    refine lv_iconst (v := (-1 : Int32)) hx hb dX12_corner_23 (by decide) ?_
    exact r_I hx hb hr hlocks X hf dX12_corner_24
  · have hf := ite_t hf c10
    refine lv_iload_n hx hb dX12_corner_13 rfl (lv_at hl 2 rfl) ?_
    refine lv_i2l hx hb dX12_corner_14 rfl ?_
    refine lv_lconst (v := 0) hx hb dX12_corner_15 (by decide) ?_
    refine lv_lconst (v := 1) hx hb dX12_corner_16 (by decide) ?_
    obtain ⟨r6, h7, q8, hf⟩ := bd_e hf
    refine c_S0 (As := [.long x2.toInt64, .long (0 : Int64), .long (1 : Int64)]) (rest := []) (st1 := [.int r6]) hx hb hml hown hts hK X (k_X12_in l G n hN q8) lc_X12_in ls_X12_75 (by decide) rfl hl.1 (Nat.le_of_ble_eq_true rfl) dX12_corner_17 rfl (fun H locs X => ?_)
    refine lv_if_ne (tgt := 25) hx hb dX12_corner_20 (by decide) (fun c20 => ?_) (fun c20 => ?_)
    · have hf := ite_f hf c20
      refine lv_aload_n hx hb dX12_corner_25 rfl (lv_at hl 0 rfl) ?_
      obtain ⟨g9, hf⟩ := gd_e hf
      refine g_R hx hb hts hown hK X o0 hN g9 fl_X12_20 (by decide) rfl (by decide) dX12_corner_26 ?_
      refine lv_iconst (v := (2 : Int32)) hx hb dX12_corner_29 (by decide) ?_
      obtain ⟨g10, hf⟩ := gd_e hf
      refine g_ia hx hb hK X g9 hN g10 (by decide) dX12_corner_30 ?_
      refine lv_iload_n hx hb dX12_corner_31 rfl (lv_at hl 1 rfl) ?_
      obtain ⟨r11, h12, q13, hf⟩ := bd_e hf
      refine c_S0 (As := [.int (h7.1 (h7.2 x0 3) (2 : Int32).toNatClampNeg), .int x1]) (rest := []) (st1 := [.int r11]) hx hb hml hown hts hK X (k_X12_has l G n hN q13) lc_X12_has ls_X12_170 (by decide) rfl hl.1 (Nat.le_of_ble_eq_true rfl) dX12_corner_32 rfl (fun H locs X => ?_)
      refine lv_if_eq (tgt := 41) hx hb dX12_corner_35 (by decide) (fun c35 => ?_) (fun c35 => ?_)
      · have hf := ite_t hf c35
        refine lv_bipush (v := (-4 : Int32)) hx hb dX12_corner_41 (by decide) ?_
        refine lv_istore_n (lv' := [(3, .int (-4 : Int32)), (0, .ref (bs G + x0)), (1, .int x1), (2, .int x2)]) hx hb dX12_corner_43 rfl hl (by decide) rfl (fun ls hl => ?_)
        refine lv_iconst (v := (-1 : Int32)) hx hb dX12_corner_44 (by decide) ?_
        refine lv_istore (lv' := [(4, .int (-1 : Int32)), (3, .int (-4 : Int32)), (0, .ref (bs G + x0)), (1, .int x1), (2, .int x2)]) hx hb dX12_corner_45 hl (by decide) rfl (fun ls hl => ?_)
        refine lv_iconst (v := (1 : Int32)) hx hb dX12_corner_47 (by decide) ?_
        refine lv_istore (lv' := [(5, .int (1 : Int32)), (4, .int (-1 : Int32)), (3, .int (-4 : Int32)), (0, .ref (bs G + x0)), (1, .int x1), (2, .int x2)]) hx hb dX12_corner_48 hl (by decide) rfl (fun ls hl => ?_)
        exact j_X12_corner_50 C0 hN FU X (lv_sub hl [3, 4, 5, 2, 1, 0] rfl) o0 hf
      · have hf := ite_f hf c35
        refine lv_bipush (v := (-2 : Int32)) hx hb dX12_corner_38 (by decide) ?_
        exact r_I hx hb hr hlocks X hf dX12_corner_40
    · have hf := ite_t hf c20
      refine lv_iconst (v := (-1 : Int32)) hx hb dX12_corner_23 (by decide) ?_
      exact r_I hx hb hr hlocks X hf dX12_corner_24
end
theorem dX12_year_0 : decode bX12_year 0 = .ok (.aload_n 0, 1) := by decide +kernel
theorem dX12_year_1 : decode bX12_year 1 = .ok (.iconst 0, 1) := by decide +kernel
theorem dX12_year_2 : decode bX12_year 2 = .ok (.putfield 1, 3) := by decide +kernel
theorem dX12_year_5 : decode bX12_year 5 = .ok (.iload_n 1, 1) := by decide +kernel
theorem dX12_year_6 : decode bX12_year 6 = .ok (.i2l, 1) := by decide +kernel
theorem dX12_year_7 : decode bX12_year 7 = .ok (.lconst 0, 1) := by decide +kernel
theorem dX12_year_8 : decode bX12_year 8 = .ok (.ldc2_w 245, 3) := by decide +kernel
theorem dX12_year_11 : decode bX12_year 11 = .ok (.invokestatic 75, 3) := by decide +kernel
theorem dX12_year_14 : decode bX12_year 14 = .ok (.ifCond .eq 25, 3) := by decide +kernel
theorem dX12_year_17 : decode bX12_year 17 = .ok (.iload_n 2, 1) := by decide +kernel
theorem dX12_year_18 : decode bX12_year 18 = .ok (.i2l, 1) := by decide +kernel
theorem dX12_year_19 : decode bX12_year 19 = .ok (.lconst 1, 1) := by decide +kernel
theorem dX12_year_20 : decode bX12_year 20 = .ok (.ldc2_w 247, 3) := by decide +kernel
theorem dX12_year_23 : decode bX12_year 23 = .ok (.invokestatic 75, 3) := by decide +kernel
theorem dX12_year_26 : decode bX12_year 26 = .ok (.ifCond .eq 13, 3) := by decide +kernel
theorem dX12_year_29 : decode bX12_year 29 = .ok (.iload_n 3, 1) := by decide +kernel
theorem dX12_year_30 : decode bX12_year 30 = .ok (.i2l, 1) := by decide +kernel
theorem dX12_year_31 : decode bX12_year 31 = .ok (.lconst 0, 1) := by decide +kernel
theorem dX12_year_32 : decode bX12_year 32 = .ok (.lconst 1, 1) := by decide +kernel
theorem dX12_year_33 : decode bX12_year 33 = .ok (.invokestatic 75, 3) := by decide +kernel
theorem dX12_year_36 : decode bX12_year 36 = .ok (.ifCond .ne 5, 3) := by decide +kernel
theorem dX12_year_39 : decode bX12_year 39 = .ok (.iconst (-1), 1) := by decide +kernel
theorem dX12_year_40 : decode bX12_year 40 = .ok (.ireturn, 1) := by decide +kernel
theorem dX12_year_41 : decode bX12_year 41 = .ok (.iconst 0, 1) := by decide +kernel
theorem dX12_year_42 : decode bX12_year 42 = .ok (.istore 4, 2) := by decide +kernel
theorem dX12_year_44 : decode bX12_year 44 = .ok (.iconst 0, 1) := by decide +kernel
theorem dX12_year_45 : decode bX12_year 45 = .ok (.istore 5, 2) := by decide +kernel
theorem dX12_year_47 : decode bX12_year 47 = .ok (.iconst 0, 1) := by decide +kernel
theorem dX12_year_48 : decode bX12_year 48 = .ok (.istore 6, 2) := by decide +kernel
theorem dX12_year_50 : decode bX12_year 50 = .ok (.iload 6, 2) := by decide +kernel
theorem dX12_year_52 : decode bX12_year 52 = .ok (.iload_n 2, 1) := by decide +kernel
theorem dX12_year_53 : decode bX12_year 53 = .ok (.if_icmp .ge 246, 3) := by decide +kernel
theorem dX12_year_56 : decode bX12_year 56 = .ok (.iconst 0, 1) := by decide +kernel
theorem dX12_year_57 : decode bX12_year 57 = .ok (.istore 7, 2) := by decide +kernel
theorem dX12_year_59 : decode bX12_year 59 = .ok (.iconst 0, 1) := by decide +kernel
theorem dX12_year_60 : decode bX12_year 60 = .ok (.istore 8, 2) := by decide +kernel
theorem dX12_year_62 : decode bX12_year 62 = .ok (.iconst 0, 1) := by decide +kernel
theorem dX12_year_63 : decode bX12_year 63 = .ok (.istore 9, 2) := by decide +kernel
theorem dX12_year_65 : decode bX12_year 65 = .ok (.iload 9, 2) := by decide +kernel
theorem dX12_year_67 : decode bX12_year 67 = .ok (.aload_n 0, 1) := by decide +kernel
theorem dX12_year_68 : decode bX12_year 68 = .ok (.getfield 13, 3) := by decide +kernel
theorem dX12_year_71 : decode bX12_year 71 = .ok (.iconst 1, 1) := by decide +kernel
theorem dX12_year_72 : decode bX12_year 72 = .ok (.iaload, 1) := by decide +kernel
theorem dX12_year_73 : decode bX12_year 73 = .ok (.if_icmp .ge 185, 3) := by decide +kernel
theorem dX12_year_76 : decode bX12_year 76 = .ok (.ldc2_w 249, 3) := by decide +kernel
theorem dX12_year_79 : decode bX12_year 79 = .ok (.iload_n 1, 1) := by decide +kernel
theorem dX12_year_80 : decode bX12_year 80 = .ok (.i2l, 1) := by decide +kernel
theorem dX12_year_81 : decode bX12_year 81 = .ok (.lmul, 1) := by decide +kernel
theorem dX12_year_82 : decode bX12_year 82 = .ok (.ldc2_w 251, 3) := by decide +kernel
theorem dX12_year_85 : decode bX12_year 85 = .ok (.iload 6, 2) := by decide +kernel
theorem dX12_year_87 : decode bX12_year 87 = .ok (.i2l, 1) := by decide +kernel
theorem dX12_year_88 : decode bX12_year 88 = .ok (.lmul, 1) := by decide +kernel
theorem dX12_year_89 : decode bX12_year 89 = .ok (.ladd, 1) := by decide +kernel
theorem dX12_year_90 : decode bX12_year 90 = .ok (.ldc2_w 253, 3) := by decide +kernel
theorem dX12_year_93 : decode bX12_year 93 = .ok (.iload 9, 2) := by decide +kernel
theorem dX12_year_95 : decode bX12_year 95 = .ok (.i2l, 1) := by decide +kernel
theorem dX12_year_96 : decode bX12_year 96 = .ok (.lmul, 1) := by decide +kernel
theorem dX12_year_97 : decode bX12_year 97 = .ok (.ladd, 1) := by decide +kernel
theorem dX12_year_98 : decode bX12_year 98 = .ok (.lconst 1, 1) := by decide +kernel
theorem dX12_year_99 : decode bX12_year 99 = .ok (.ladd, 1) := by decide +kernel
theorem dX12_year_100 : decode bX12_year 100 = .ok (.lstore 10, 2) := by decide +kernel
theorem dX12_year_102 : decode bX12_year 102 = .ok (.lload 10, 2) := by decide +kernel
theorem dX12_year_104 : decode bX12_year 104 = .ok (.lload 10, 2) := by decide +kernel
theorem dX12_year_106 : decode bX12_year 106 = .ok (.lmul, 1) := by decide +kernel
theorem dX12_year_107 : decode bX12_year 107 = .ok (.ldc2_w 255, 3) := by decide +kernel
theorem dX12_year_110 : decode bX12_year 110 = .ok (.lrem, 1) := by decide +kernel
theorem dX12_year_111 : decode bX12_year 111 = .ok (.ldc2_w 207, 3) := by decide +kernel
theorem dX12_year_114 : decode bX12_year 114 = .ok (.lrem, 1) := by decide +kernel
theorem dX12_year_115 : decode bX12_year 115 = .ok (.l2i, 1) := by decide +kernel
theorem dX12_year_116 : decode bX12_year 116 = .ok (.iconst 1, 1) := by decide +kernel
theorem dX12_year_117 : decode bX12_year 117 = .ok (.iadd, 1) := by decide +kernel
theorem dX12_year_118 : decode bX12_year 118 = .ok (.istore 12, 2) := by decide +kernel
theorem dX12_year_120 : decode bX12_year 120 = .ok (.iconst 0, 1) := by decide +kernel
theorem dX12_year_121 : decode bX12_year 121 = .ok (.istore 13, 2) := by decide +kernel
theorem dX12_year_123 : decode bX12_year 123 = .ok (.iconst 1, 1) := by decide +kernel
theorem dX12_year_124 : decode bX12_year 124 = .ok (.istore 14, 2) := by decide +kernel
theorem dX12_year_126 : decode bX12_year 126 = .ok (.iload 14, 2) := by decide +kernel
theorem dX12_year_128 : decode bX12_year 128 = .ok (.aload_n 0, 1) := by decide +kernel
theorem dX12_year_129 : decode bX12_year 129 = .ok (.getfield 13, 3) := by decide +kernel
theorem dX12_year_132 : decode bX12_year 132 = .ok (.iconst 0, 1) := by decide +kernel
theorem dX12_year_133 : decode bX12_year 133 = .ok (.iaload, 1) := by decide +kernel
theorem dX12_year_134 : decode bX12_year 134 = .ok (.if_icmp .gt 54, 3) := by decide +kernel
theorem dX12_year_137 : decode bX12_year 137 = .ok (.iload 13, 2) := by decide +kernel
theorem dX12_year_139 : decode bX12_year 139 = .ok (.aload_n 0, 1) := by decide +kernel
theorem dX12_year_140 : decode bX12_year 140 = .ok (.getfield 13, 3) := by decide +kernel
theorem dX12_year_143 : decode bX12_year 143 = .ok (.bipush 28, 2) := by decide +kernel
theorem dX12_year_145 : decode bX12_year 145 = .ok (.iload 14, 2) := by decide +kernel
theorem dX12_year_147 : decode bX12_year 147 = .ok (.iadd, 1) := by decide +kernel
theorem dX12_year_148 : decode bX12_year 148 = .ok (.iaload, 1) := by decide +kernel
theorem dX12_year_149 : decode bX12_year 149 = .ok (.bipush (-4), 2) := by decide +kernel
theorem dX12_year_151 : decode bX12_year 151 = .ok (.if_icmp .eq 18, 3) := by decide +kernel
theorem dX12_year_154 : decode bX12_year 154 = .ok (.aload_n 0, 1) := by decide +kernel
theorem dX12_year_155 : decode bX12_year 155 = .ok (.getfield 13, 3) := by decide +kernel
theorem dX12_year_158 : decode bX12_year 158 = .ok (.bipush 28, 2) := by decide +kernel
theorem dX12_year_160 : decode bX12_year 160 = .ok (.iload 14, 2) := by decide +kernel
theorem dX12_year_162 : decode bX12_year 162 = .ok (.iadd, 1) := by decide +kernel
theorem dX12_year_163 : decode bX12_year 163 = .ok (.iaload, 1) := by decide +kernel
theorem dX12_year_164 : decode bX12_year 164 = .ok (.iload 9, 2) := by decide +kernel
theorem dX12_year_166 : decode bX12_year 166 = .ok (.if_icmp .ne 12, 3) := by decide +kernel
theorem dX12_year_169 : decode bX12_year 169 = .ok (.iconst 1, 1) := by decide +kernel
theorem dX12_year_170 : decode bX12_year 170 = .ok (.iload 14, 2) := by decide +kernel
theorem dX12_year_172 : decode bX12_year 172 = .ok (.iconst 1, 1) := by decide +kernel
theorem dX12_year_173 : decode bX12_year 173 = .ok (.isub, 1) := by decide +kernel
theorem dX12_year_174 : decode bX12_year 174 = .ok (.ishl, 1) := by decide +kernel
theorem dX12_year_175 : decode bX12_year 175 = .ok (.goto 4, 3) := by decide +kernel
theorem dX12_year_178 : decode bX12_year 178 = .ok (.iconst 0, 1) := by decide +kernel
theorem dX12_year_179 : decode bX12_year 179 = .ok (.ior, 1) := by decide +kernel
theorem dX12_year_180 : decode bX12_year 180 = .ok (.istore 13, 2) := by decide +kernel
theorem dX12_year_182 : decode bX12_year 182 = .ok (.iinc 14 1, 3) := by decide +kernel
theorem dX12_year_185 : decode bX12_year 185 = .ok (.goto (-59), 3) := by decide +kernel
theorem dX12_year_188 : decode bX12_year 188 = .ok (.aload_n 0, 1) := by decide +kernel
theorem dX12_year_189 : decode bX12_year 189 = .ok (.iload 13, 2) := by decide +kernel
theorem dX12_year_191 : decode bX12_year 191 = .ok (.iload 7, 2) := by decide +kernel
theorem dX12_year_193 : decode bX12_year 193 = .ok (.iconst (-1), 1) := by decide +kernel
theorem dX12_year_194 : decode bX12_year 194 = .ok (.ixor, 1) := by decide +kernel
theorem dX12_year_195 : decode bX12_year 195 = .ok (.iand, 1) := by decide +kernel
theorem dX12_year_196 : decode bX12_year 196 = .ok (.iload 12, 2) := by decide +kernel
theorem dX12_year_198 : decode bX12_year 198 = .ok (.aload_n 0, 1) := by decide +kernel
theorem dX12_year_199 : decode bX12_year 199 = .ok (.getfield 13, 3) := by decide +kernel
theorem dX12_year_202 : decode bX12_year 202 = .ok (.iconst 2, 1) := by decide +kernel
theorem dX12_year_203 : decode bX12_year 203 = .ok (.iaload, 1) := by decide +kernel
theorem dX12_year_204 : decode bX12_year 204 = .ok (.invokevirtual 191, 3) := by decide +kernel
theorem dX12_year_207 : decode bX12_year 207 = .ok (.bipush (-4), 2) := by decide +kernel
theorem dX12_year_209 : decode bX12_year 209 = .ok (.if_icmp .eq 7, 3) := by decide +kernel
theorem dX12_year_212 : decode bX12_year 212 = .ok (.iconst 1, 1) := by decide +kernel
theorem dX12_year_213 : decode bX12_year 213 = .ok (.goto 4, 3) := by decide +kernel
theorem dX12_year_216 : decode bX12_year 216 = .ok (.iconst 0, 1) := by decide +kernel
theorem dX12_year_217 : decode bX12_year 217 = .ok (.istore 14, 2) := by decide +kernel
theorem dX12_year_219 : decode bX12_year 219 = .ok (.iload 7, 2) := by decide +kernel
theorem dX12_year_221 : decode bX12_year 221 = .ok (.iload 14, 2) := by decide +kernel
theorem dX12_year_223 : decode bX12_year 223 = .ok (.ifCond .eq 10, 3) := by decide +kernel
theorem dX12_year_226 : decode bX12_year 226 = .ok (.aload_n 0, 1) := by decide +kernel
theorem dX12_year_227 : decode bX12_year 227 = .ok (.invokevirtual 201, 3) := by decide +kernel
theorem dX12_year_230 : decode bX12_year 230 = .ok (.goto 4, 3) := by decide +kernel
theorem dX12_year_233 : decode bX12_year 233 = .ok (.iconst 0, 1) := by decide +kernel
theorem dX12_year_234 : decode bX12_year 234 = .ok (.ior, 1) := by decide +kernel
theorem dX12_year_235 : decode bX12_year 235 = .ok (.istore 7, 2) := by decide +kernel
theorem dX12_year_237 : decode bX12_year 237 = .ok (.iload 8, 2) := by decide +kernel
theorem dX12_year_239 : decode bX12_year 239 = .ok (.iload 14, 2) := by decide +kernel
theorem dX12_year_241 : decode bX12_year 241 = .ok (.ifCond .eq 7, 3) := by decide +kernel
theorem dX12_year_244 : decode bX12_year 244 = .ok (.iconst 1, 1) := by decide +kernel
theorem dX12_year_245 : decode bX12_year 245 = .ok (.goto 4, 3) := by decide +kernel
theorem dX12_year_248 : decode bX12_year 248 = .ok (.iconst 0, 1) := by decide +kernel
theorem dX12_year_249 : decode bX12_year 249 = .ok (.iadd, 1) := by decide +kernel
theorem dX12_year_250 : decode bX12_year 250 = .ok (.istore 8, 2) := by decide +kernel
theorem dX12_year_252 : decode bX12_year 252 = .ok (.iinc 9 1, 3) := by decide +kernel
theorem dX12_year_255 : decode bX12_year 255 = .ok (.goto (-190), 3) := by decide +kernel
theorem dX12_year_258 : decode bX12_year 258 = .ok (.iload 4, 2) := by decide +kernel
theorem dX12_year_260 : decode bX12_year 260 = .ok (.aload_n 0, 1) := by decide +kernel
theorem dX12_year_261 : decode bX12_year 261 = .ok (.getfield 13, 3) := by decide +kernel
theorem dX12_year_264 : decode bX12_year 264 = .ok (.iconst 1, 1) := by decide +kernel
theorem dX12_year_265 : decode bX12_year 265 = .ok (.iaload, 1) := by decide +kernel
theorem dX12_year_266 : decode bX12_year 266 = .ok (.iload 8, 2) := by decide +kernel
theorem dX12_year_268 : decode bX12_year 268 = .ok (.isub, 1) := by decide +kernel
theorem dX12_year_269 : decode bX12_year 269 = .ok (.iadd, 1) := by decide +kernel
theorem dX12_year_270 : decode bX12_year 270 = .ok (.istore 4, 2) := by decide +kernel
theorem dX12_year_272 : decode bX12_year 272 = .ok (.iload 5, 2) := by decide +kernel
theorem dX12_year_274 : decode bX12_year 274 = .ok (.iload 8, 2) := by decide +kernel
theorem dX12_year_276 : decode bX12_year 276 = .ok (.aload_n 0, 1) := by decide +kernel
theorem dX12_year_277 : decode bX12_year 277 = .ok (.getfield 13, 3) := by decide +kernel
theorem dX12_year_280 : decode bX12_year 280 = .ok (.iconst 1, 1) := by decide +kernel
theorem dX12_year_281 : decode bX12_year 281 = .ok (.iaload, 1) := by decide +kernel
theorem dX12_year_282 : decode bX12_year 282 = .ok (.if_icmp .ne 7, 3) := by decide +kernel
theorem dX12_year_285 : decode bX12_year 285 = .ok (.iconst 1, 1) := by decide +kernel
theorem dX12_year_286 : decode bX12_year 286 = .ok (.goto 4, 3) := by decide +kernel
theorem dX12_year_289 : decode bX12_year 289 = .ok (.iconst 0, 1) := by decide +kernel
theorem dX12_year_290 : decode bX12_year 290 = .ok (.iadd, 1) := by decide +kernel
theorem dX12_year_291 : decode bX12_year 291 = .ok (.istore 5, 2) := by decide +kernel
theorem dX12_year_293 : decode bX12_year 293 = .ok (.iinc 6 1, 3) := by decide +kernel
theorem dX12_year_296 : decode bX12_year 296 = .ok (.goto (-246), 3) := by decide +kernel
theorem dX12_year_299 : decode bX12_year 299 = .ok (.iload_n 3, 1) := by decide +kernel
theorem dX12_year_300 : decode bX12_year 300 = .ok (.ifCond .ne 8, 3) := by decide +kernel
theorem dX12_year_303 : decode bX12_year 303 = .ok (.iload 4, 2) := by decide +kernel
theorem dX12_year_305 : decode bX12_year 305 = .ok (.goto 5, 3) := by decide +kernel
theorem dX12_year_308 : decode bX12_year 308 = .ok (.iload 5, 2) := by decide +kernel
theorem dX12_year_310 : decode bX12_year 310 = .ok (.ireturn, 1) := by decide +kernel
section
variable {p : Program} {l : Launch} {e : Env} {s : State} {m : MethodId} {args : Array Value} {below : List Frame} {meth : Method} {c : Code} {G : GG} {n : Nat} {h' : Hp} {rv : Int32}
set_option maxHeartbeats 4000000
set_option maxRecDepth 100000
theorem j_X12_year_234 (C0 : Cx p s m args meth c G bX12_year RX12 15 (some .int) "year") (hN : NT ≤ n) {k50 : Hp → Nat → Int32 → Int32 → Int32 → Int32 → Int32 → Int32 → Option (Int32 × Hp)} {k65 : Hp → Nat → Int32 → Int32 → Int32 → Int32 → Int32 → Int32 → Int32 → Int32 → Int32 → Option (Int32 × Hp)} (ih50 : ∀ {H : Heap} {locs : List Loc} {ls : Array Slot} {h : Hp} {x0 : Nat} {x1 : Int32} {x2 : Int32} {x3 : Int32} {x4 : Int32} {x5 : Int32} {x6 : Int32}, XW G n h s 0 H locs → lv_has ls 15 [(0, .ref (bs G + x0)), (1, .int x1), (2, .int x2), (3, .int x3), (4, .int x4), (5, .int x5), (6, .int x6)] → kd x0 = 12 → k50 h x0 x1 x2 x3 x4 x5 x6 = some (rv, h') → W p l e (rmC 5 0 0) s m args below meth c H locs 0 0 (MQ below (QP G n h' (some (.int rv))) args s 0 0 (Ab G)) (F0 m 50 ls [])) (ih65 : ∀ {H : Heap} {locs : List Loc} {ls : Array Slot} {h : Hp} {x0 : Nat} {x1 : Int32} {x2 : Int32} {x3 : Int32} {x4 : Int32} {x5 : Int32} {x6 : Int32} {x7 : Int32} {x8 : Int32} {x9 : Int32}, XW G n h s 0 H locs → lv_has ls 15 [(0, .ref (bs G + x0)), (1, .int x1), (2, .int x2), (3, .int x3), (4, .int x4), (5, .int x5), (6, .int x6), (7, .int x7), (8, .int x8), (9, .int x9)] → kd x0 = 12 → k65 h x0 x1 x2 x3 x4 x5 x6 x7 x8 x9 = some (rv, h') → W p l e (rmC 5 0 0) s m args below meth c H locs 0 0 (MQ below (QP G n h' (some (.int rv))) args s 0 0 (Ab G)) (F0 m 65 ls [])) {H : Heap} {locs : List Loc} {ls : Array Slot} {h : Hp} {x0 : Nat} {x1 : Int32} {x2 : Int32} {x3 : Int32} {x4 : Int32} {x5 : Int32} {x6 : Int32} {x8 : Int32} {x9 : Int32} {x14 : Int32} {t0 : Int32} {t1 : Int32} (X : XW G n h s 0 H locs) (hl : lv_has ls 15 [(0, .ref (bs G + x0)), (1, .int x1), (2, .int x2), (3, .int x3), (4, .int x4), (5, .int x5), (6, .int x6), (8, .int x8), (9, .int x9), (14, .int x14)]) (o0 : kd x0 = 12) (hf : f_X12_year_234 k50 k65 h x0 x1 x2 x3 x4 x5 x6 x8 x9 x14 t0 t1 = some (rv, h')) : W p l e (rmC 5 0 0) s m args below meth c H locs 0 0 (MQ below (QP G n h' (some (.int rv))) args s 0 0 (Ab G)) (F0 m 234 ls [.int t1, .int t0]) := by
  obtain ⟨hx, hb, hr, hml, hown, hts, hK, hlocks, hnm⟩ := id C0
  unfold f_X12_year_234 at hf
  refine lv_ior hx hb dX12_year_234 ?_
  refine lv_istore (lv' := [(7, .int (t0 ||| t1)), (0, .ref (bs G + x0)), (1, .int x1), (2, .int x2), (3, .int x3), (4, .int x4), (5, .int x5), (6, .int x6), (8, .int x8), (9, .int x9), (14, .int x14)]) hx hb dX12_year_235 hl (by decide) rfl (fun ls hl => ?_)
  refine lv_iload hx hb dX12_year_237 (lv_at hl 8 rfl) ?_
  refine lv_iload hx hb dX12_year_239 (lv_at hl 10 rfl) ?_
  refine lv_if_eq (tgt := 248) hx hb dX12_year_241 (by decide) (fun c241 => ?_) (fun c241 => ?_)
  · have hf := ite_t hf c241
    refine lv_iconst (v := (0 : Int32)) hx hb dX12_year_248 (by decide) ?_
    refine lv_iadd hx hb dX12_year_249 ?_
    refine lv_istore (lv' := [(8, .int (x8 + (0 : Int32))), (7, .int (t0 ||| t1)), (0, .ref (bs G + x0)), (1, .int x1), (2, .int x2), (3, .int x3), (4, .int x4), (5, .int x5), (6, .int x6), (9, .int x9), (14, .int x14)]) hx hb dX12_year_250 hl (by decide) rfl (fun ls hl => ?_)
    refine lv_iinc (v := (x9 + (1 : Int32))) (lv' := [(9, .int (x9 + (1 : Int32))), (8, .int (x8 + (0 : Int32))), (7, .int (t0 ||| t1)), (0, .ref (bs G + x0)), (1, .int x1), (2, .int x2), (3, .int x3), (4, .int x4), (5, .int x5), (6, .int x6), (14, .int x14)]) hx hb dX12_year_252 hl (k := 9) rfl rfl (by decide) rfl (fun ls hl => ?_)
    refine lv_goto (tgt := 65) hx hb dX12_year_255 (by decide) ?_
    exact ih65 X (lv_sub hl [3, 4, 5, 6, 7, 8, 9, 2, 1, 0] rfl) o0 hf
  · have hf := ite_f hf c241
    refine lv_iconst (v := (1 : Int32)) hx hb dX12_year_244 (by decide) ?_
    refine lv_goto (tgt := 249) hx hb dX12_year_245 (by decide) ?_
    refine lv_iadd hx hb dX12_year_249 ?_
    refine lv_istore (lv' := [(8, .int (x8 + (1 : Int32))), (7, .int (t0 ||| t1)), (0, .ref (bs G + x0)), (1, .int x1), (2, .int x2), (3, .int x3), (4, .int x4), (5, .int x5), (6, .int x6), (9, .int x9), (14, .int x14)]) hx hb dX12_year_250 hl (by decide) rfl (fun ls hl => ?_)
    refine lv_iinc (v := (x9 + (1 : Int32))) (lv' := [(9, .int (x9 + (1 : Int32))), (8, .int (x8 + (1 : Int32))), (7, .int (t0 ||| t1)), (0, .ref (bs G + x0)), (1, .int x1), (2, .int x2), (3, .int x3), (4, .int x4), (5, .int x5), (6, .int x6), (14, .int x14)]) hx hb dX12_year_252 hl (k := 9) rfl rfl (by decide) rfl (fun ls hl => ?_)
    refine lv_goto (tgt := 65) hx hb dX12_year_255 (by decide) ?_
    exact ih65 X (lv_sub hl [3, 4, 5, 6, 7, 8, 9, 2, 1, 0] rfl) o0 hf
theorem j_X12_year_217 (C0 : Cx p s m args meth c G bX12_year RX12 15 (some .int) "year") (hN : NT ≤ n) {k50 : Hp → Nat → Int32 → Int32 → Int32 → Int32 → Int32 → Int32 → Option (Int32 × Hp)} {k65 : Hp → Nat → Int32 → Int32 → Int32 → Int32 → Int32 → Int32 → Int32 → Int32 → Int32 → Option (Int32 × Hp)} (ih50 : ∀ {H : Heap} {locs : List Loc} {ls : Array Slot} {h : Hp} {x0 : Nat} {x1 : Int32} {x2 : Int32} {x3 : Int32} {x4 : Int32} {x5 : Int32} {x6 : Int32}, XW G n h s 0 H locs → lv_has ls 15 [(0, .ref (bs G + x0)), (1, .int x1), (2, .int x2), (3, .int x3), (4, .int x4), (5, .int x5), (6, .int x6)] → kd x0 = 12 → k50 h x0 x1 x2 x3 x4 x5 x6 = some (rv, h') → W p l e (rmC 5 0 0) s m args below meth c H locs 0 0 (MQ below (QP G n h' (some (.int rv))) args s 0 0 (Ab G)) (F0 m 50 ls [])) (ih65 : ∀ {H : Heap} {locs : List Loc} {ls : Array Slot} {h : Hp} {x0 : Nat} {x1 : Int32} {x2 : Int32} {x3 : Int32} {x4 : Int32} {x5 : Int32} {x6 : Int32} {x7 : Int32} {x8 : Int32} {x9 : Int32}, XW G n h s 0 H locs → lv_has ls 15 [(0, .ref (bs G + x0)), (1, .int x1), (2, .int x2), (3, .int x3), (4, .int x4), (5, .int x5), (6, .int x6), (7, .int x7), (8, .int x8), (9, .int x9)] → kd x0 = 12 → k65 h x0 x1 x2 x3 x4 x5 x6 x7 x8 x9 = some (rv, h') → W p l e (rmC 5 0 0) s m args below meth c H locs 0 0 (MQ below (QP G n h' (some (.int rv))) args s 0 0 (Ab G)) (F0 m 65 ls [])) {H : Heap} {locs : List Loc} {ls : Array Slot} {h : Hp} {x0 : Nat} {x1 : Int32} {x2 : Int32} {x3 : Int32} {x4 : Int32} {x5 : Int32} {x6 : Int32} {x7 : Int32} {x8 : Int32} {x9 : Int32} {t0 : Int32} (X : XW G n h s 0 H locs) (hl : lv_has ls 15 [(0, .ref (bs G + x0)), (1, .int x1), (2, .int x2), (3, .int x3), (4, .int x4), (5, .int x5), (6, .int x6), (7, .int x7), (8, .int x8), (9, .int x9)]) (o0 : kd x0 = 12) (hf : f_X12_year_217 k50 k65 h x0 x1 x2 x3 x4 x5 x6 x7 x8 x9 t0 = some (rv, h')) : W p l e (rmC 5 0 0) s m args below meth c H locs 0 0 (MQ below (QP G n h' (some (.int rv))) args s 0 0 (Ab G)) (F0 m 217 ls [.int t0]) := by
  obtain ⟨hx, hb, hr, hml, hown, hts, hK, hlocks, hnm⟩ := id C0
  unfold f_X12_year_217 at hf
  refine lv_istore (lv' := [(14, .int t0), (0, .ref (bs G + x0)), (1, .int x1), (2, .int x2), (3, .int x3), (4, .int x4), (5, .int x5), (6, .int x6), (7, .int x7), (8, .int x8), (9, .int x9)]) hx hb dX12_year_217 hl (by decide) rfl (fun ls hl => ?_)
  refine lv_iload hx hb dX12_year_219 (lv_at hl 8 rfl) ?_
  refine lv_iload hx hb dX12_year_221 (lv_at hl 0 rfl) ?_
  refine lv_if_eq (tgt := 233) hx hb dX12_year_223 (by decide) (fun c223 => ?_) (fun c223 => ?_)
  · have hf := ite_t hf c223
    refine lv_iconst (v := (0 : Int32)) hx hb dX12_year_233 (by decide) ?_
    exact j_X12_year_234 C0 hN @ih50 @ih65 X (lv_sub hl [1, 2, 3, 4, 5, 6, 7, 9, 10, 0] rfl) o0 hf
  · have hf := ite_f hf c223
    refine lv_aload_n hx hb dX12_year_226 rfl (lv_at hl 1 rfl) ?_
    obtain ⟨r1, h2, q3, hf⟩ := bd_e hf
    refine c_V0 (As := []) (rest := [.int x7]) (st1 := [.int r1, .int x7]) hx hb hml hown hts hK X (k_X12_usedSet l G n hN q3) o0 hN lc_X12_usedSet lv_X12_201 (ci := 12) rfl rfl (by decide) rfl hl.1 (Nat.le_of_ble_eq_true rfl) dX12_year_227 rfl (fun H locs X => ?_)
    refine lv_goto (tgt := 234) hx hb dX12_year_230 (by decide) ?_
    exact j_X12_year_234 C0 hN @ih50 @ih65 X (lv_sub hl [1, 2, 3, 4, 5, 6, 7, 9, 10, 0] rfl) o0 hf
theorem j_X12_year_169 (C0 : Cx p s m args meth c G bX12_year RX12 15 (some .int) "year") (hN : NT ≤ n) {k50 : Hp → Nat → Int32 → Int32 → Int32 → Int32 → Int32 → Int32 → Option (Int32 × Hp)} {k65 : Hp → Nat → Int32 → Int32 → Int32 → Int32 → Int32 → Int32 → Int32 → Int32 → Int32 → Option (Int32 × Hp)} {k126 : Hp → Nat → Int32 → Int32 → Int32 → Int32 → Int32 → Int32 → Int32 → Int32 → Int32 → Int32 → Int32 → Int32 → Option (Int32 × Hp)} (ih50 : ∀ {H : Heap} {locs : List Loc} {ls : Array Slot} {h : Hp} {x0 : Nat} {x1 : Int32} {x2 : Int32} {x3 : Int32} {x4 : Int32} {x5 : Int32} {x6 : Int32}, XW G n h s 0 H locs → lv_has ls 15 [(0, .ref (bs G + x0)), (1, .int x1), (2, .int x2), (3, .int x3), (4, .int x4), (5, .int x5), (6, .int x6)] → kd x0 = 12 → k50 h x0 x1 x2 x3 x4 x5 x6 = some (rv, h') → W p l e (rmC 5 0 0) s m args below meth c H locs 0 0 (MQ below (QP G n h' (some (.int rv))) args s 0 0 (Ab G)) (F0 m 50 ls [])) (ih65 : ∀ {H : Heap} {locs : List Loc} {ls : Array Slot} {h : Hp} {x0 : Nat} {x1 : Int32} {x2 : Int32} {x3 : Int32} {x4 : Int32} {x5 : Int32} {x6 : Int32} {x7 : Int32} {x8 : Int32} {x9 : Int32}, XW G n h s 0 H locs → lv_has ls 15 [(0, .ref (bs G + x0)), (1, .int x1), (2, .int x2), (3, .int x3), (4, .int x4), (5, .int x5), (6, .int x6), (7, .int x7), (8, .int x8), (9, .int x9)] → kd x0 = 12 → k65 h x0 x1 x2 x3 x4 x5 x6 x7 x8 x9 = some (rv, h') → W p l e (rmC 5 0 0) s m args below meth c H locs 0 0 (MQ below (QP G n h' (some (.int rv))) args s 0 0 (Ab G)) (F0 m 65 ls [])) (ih126 : ∀ {H : Heap} {locs : List Loc} {ls : Array Slot} {h : Hp} {x0 : Nat} {x1 : Int32} {x2 : Int32} {x3 : Int32} {x4 : Int32} {x5 : Int32} {x6 : Int32} {x7 : Int32} {x8 : Int32} {x9 : Int32} {x12 : Int32} {x13 : Int32} {x14 : Int32}, XW G n h s 0 H locs → lv_has ls 15 [(0, .ref (bs G + x0)), (1, .int x1), (2, .int x2), (3, .int x3), (4, .int x4), (5, .int x5), (6, .int x6), (7, .int x7), (8, .int x8), (9, .int x9), (12, .int x12), (13, .int x13), (14, .int x14)] → kd x0 = 12 → k126 h x0 x1 x2 x3 x4 x5 x6 x7 x8 x9 x12 x13 x14 = some (rv, h') → W p l e (rmC 5 0 0) s m args below meth c H locs 0 0 (MQ below (QP G n h' (some (.int rv))) args s 0 0 (Ab G)) (F0 m 126 ls [])) {H : Heap} {locs : List Loc} {ls : Array Slot} {h : Hp} {x0 : Nat} {x1 : Int32} {x2 : Int32} {x3 : Int32} {x4 : Int32} {x5 : Int32} {x6 : Int32} {x7 : Int32} {x8 : Int32} {x9 : Int32} {x12 : Int32} {x14 : Int32} {t0 : Int32} (X : XW G n h s 0 H locs) (hl : lv_has ls 15 [(0, .ref (bs G + x0)), (1, .int x1), (2, .int x2), (3, .int x3), (4, .int x4), (5, .int x5), (6, .int x6), (7, .int x7), (8, .int x8), (9, .int x9), (12, .int x12), (14, .int x14)]) (o0 : kd x0 = 12) (hf : f_X12_year_169 k50 k65 k126 h x0 x1 x2 x3 x4 x5 x6 x7 x8 x9 x12 x14 t0 = some (rv, h')) : W p l e (rmC 5 0 0) s m args below meth c H locs 0 0 (MQ below (QP G n h' (some (.int rv))) args s 0 0 (Ab G)) (F0 m 169 ls [.int t0]) := by
  obtain ⟨hx, hb, hr, hml, hown, hts, hK, hlocks, hnm⟩ := id C0
  unfold f_X12_year_169 at hf
  refine lv_iconst (v := (1 : Int32)) hx hb dX12_year_169 (by decide) ?_
  refine lv_iload hx hb dX12_year_170 (lv_at hl 11 rfl) ?_
  refine lv_iconst (v := (1 : Int32)) hx hb dX12_year_172 (by decide) ?_
  refine lv_isub hx hb dX12_year_173 ?_
  refine lv_ishl hx hb dX12_year_174 ?_
  refine lv_goto (tgt := 179) hx hb dX12_year_175 (by decide) ?_
  refine lv_ior hx hb dX12_year_179 ?_
  refine lv_istore (lv' := [(13, .int (t0 ||| ((1 : Int32) <<< ((x14 - (1 : Int32)) &&& 31)))), (0, .ref (bs G + x0)), (1, .int x1), (2, .int x2), (3, .int x3), (4, .int x4), (5, .int x5), (6, .int x6), (7, .int x7), (8, .int x8), (9, .int x9), (12, .int x12), (14, .int x14)]) hx hb dX12_year_180 hl (by decide) rfl (fun ls hl => ?_)
  refine lv_iinc (v := (x14 + (1 : Int32))) (lv' := [(14, .int (x14 + (1 : Int32))), (13, .int (t0 ||| ((1 : Int32) <<< ((x14 - (1 : Int32)) &&& 31)))), (0, .ref (bs G + x0)), (1, .int x1), (2, .int x2), (3, .int x3), (4, .int x4), (5, .int x5), (6, .int x6), (7, .int x7), (8, .int x8), (9, .int x9), (12, .int x12)]) hx hb dX12_year_182 hl (k := 12) rfl rfl (by decide) rfl (fun ls hl => ?_)
  refine lv_goto (tgt := 126) hx hb dX12_year_185 (by decide) ?_
  exact ih126 X (lv_sub hl [2, 3, 4, 5, 6, 7, 8, 9, 10, 11, 12, 1, 0] rfl) o0 hf
theorem j_X12_year_126 (C0 : Cx p s m args meth c G bX12_year RX12 15 (some .int) "year") (hN : NT ≤ n) {k50 : Hp → Nat → Int32 → Int32 → Int32 → Int32 → Int32 → Int32 → Option (Int32 × Hp)} {k65 : Hp → Nat → Int32 → Int32 → Int32 → Int32 → Int32 → Int32 → Int32 → Int32 → Int32 → Option (Int32 × Hp)} (ih50 : ∀ {H : Heap} {locs : List Loc} {ls : Array Slot} {h : Hp} {x0 : Nat} {x1 : Int32} {x2 : Int32} {x3 : Int32} {x4 : Int32} {x5 : Int32} {x6 : Int32}, XW G n h s 0 H locs → lv_has ls 15 [(0, .ref (bs G + x0)), (1, .int x1), (2, .int x2), (3, .int x3), (4, .int x4), (5, .int x5), (6, .int x6)] → kd x0 = 12 → k50 h x0 x1 x2 x3 x4 x5 x6 = some (rv, h') → W p l e (rmC 5 0 0) s m args below meth c H locs 0 0 (MQ below (QP G n h' (some (.int rv))) args s 0 0 (Ab G)) (F0 m 50 ls [])) (ih65 : ∀ {H : Heap} {locs : List Loc} {ls : Array Slot} {h : Hp} {x0 : Nat} {x1 : Int32} {x2 : Int32} {x3 : Int32} {x4 : Int32} {x5 : Int32} {x6 : Int32} {x7 : Int32} {x8 : Int32} {x9 : Int32}, XW G n h s 0 H locs → lv_has ls 15 [(0, .ref (bs G + x0)), (1, .int x1), (2, .int x2), (3, .int x3), (4, .int x4), (5, .int x5), (6, .int x6), (7, .int x7), (8, .int x8), (9, .int x9)] → kd x0 = 12 → k65 h x0 x1 x2 x3 x4 x5 x6 x7 x8 x9 = some (rv, h') → W p l e (rmC 5 0 0) s m args below meth c H locs 0 0 (MQ below (QP G n h' (some (.int rv))) args s 0 0 (Ab G)) (F0 m 65 ls [])) : ∀ (fu : Nat), ∀ {H : Heap} {locs : List Loc} {ls : Array Slot} {h : Hp} {x0 : Nat} {x1 : Int32} {x2 : Int32} {x3 : Int32} {x4 : Int32} {x5 : Int32} {x6 : Int32} {x7 : Int32} {x8 : Int32} {x9 : Int32} {x12 : Int32} {x13 : Int32} {x14 : Int32}, XW G n h s 0 H locs → lv_has ls 15 [(0, .ref (bs G + x0)), (1, .int x1), (2, .int x2), (3, .int x3), (4, .int x4), (5, .int x5), (6, .int x6), (7, .int x7), (8, .int x8), (9, .int x9), (12, .int x12), (13, .int x13), (14, .int x14)] → kd x0 = 12 → f_X12_year_126 k50 k65 fu h x0 x1 x2 x3 x4 x5 x6 x7 x8 x9 x12 x13 x14 = some (rv, h') → W p l e (rmC 5 0 0) s m args below meth c H locs 0 0 (MQ below (QP G n h' (some (.int rv))) args s 0 0 (Ab G)) (F0 m 126 ls []) := by
  obtain ⟨hx, hb, hr, hml, hown, hts, hK, hlocks, hnm⟩ := id C0
  intro fu
  induction fu with
  | zero => intro H locs ls h x0 x1 x2 x3 x4 x5 x6 x7 x8 x9 x12 x13 x14 X hl o0 hf; cases hf
  | succ fu ih =>
    intro H locs ls h x0 x1 x2 x3 x4 x5 x6 x7 x8 x9 x12 x13 x14 X hl o0 hf
    rw [f_X12_year_126] at hf
    refine lv_iload hx hb dX12_year_126 (lv_at hl 12 rfl) ?_
    refine lv_aload_n hx hb dX12_year_128 rfl (lv_at hl 0 rfl) ?_
    obtain ⟨g1, hf⟩ := gd_e hf
    refine g_R hx hb hts hown hK X o0 hN g1 fl_X12_13 (by decide) rfl (by decide) dX12_year_129 ?_
    refine lv_iconst (v := (0 : Int32)) hx hb dX12_year_132 (by decide) ?_
    obtain ⟨g2, hf⟩ := gd_e hf
    refine g_ia hx hb hK X g1 hN g2 (by decide) dX12_year_133 ?_
    refine lv_icmp_gt (tgt := 188) hx hb dX12_year_134 (by decide) (fun c134 => ?_) (fun c134 => ?_)
    · have hf := ite_t hf c134
      refine lv_aload_n hx hb dX12_year_188 rfl (lv_at hl 0 rfl) ?_
      refine lv_iload hx hb dX12_year_189 (lv_at hl 11 rfl) ?_
      refine lv_iload hx hb dX12_year_191 (lv_at hl 7 rfl) ?_
      refine lv_iconst (v := (-1 : Int32)) hx hb dX12_year_193 (by decide) ?_
      refine lv_ixor hx hb dX12_year_194 ?_
      refine lv_iand hx hb dX12_year_195 ?_
      refine lv_iload hx hb dX12_year_196 (lv_at hl 10 rfl) ?_
      refine lv_aload_n hx hb dX12_year_198 rfl (lv_at hl 0 rfl) ?_
      obtain ⟨g3, hf⟩ := gd_e hf
      refine g_R hx hb hts hown hK X o0 hN g3 fl_X12_13 (by decide) rfl (by decide) dX12_year_199 ?_
      refine lv_iconst (v := (2 : Int32)) hx hb dX12_year_202 (by decide) ?_
      obtain ⟨g4, hf⟩ := gd_e hf
      refine g_ia hx hb hK X g3 hN g4 (by decide) dX12_year_203 ?_
      obtain ⟨r5, h6, q7, hf⟩ := bd_e hf
      refine c_V0 (As := [.int (x13 &&& (x7 ^^^ (-1 : Int32))), .int x12, .int (h.1 (h.2 x0 1) (2 : Int32).toNatClampNeg)]) (rest := []) (st1 := [.int r5]) hx hb hml hown hts hK X (k_X12_bestOf l G n hN q7) o0 hN lc_X12_bestOf lv_X12_191 (ci := 12) rfl rfl (by decide) rfl hl.1 (Nat.le_of_ble_eq_true rfl) dX12_year_204 rfl (fun H locs X => ?_)
      refine lv_bipush (v := (-4 : Int32)) hx hb dX12_year_207 (by decide) ?_
      refine lv_icmp_eq (tgt := 216) hx hb dX12_year_209 (by decide) (fun c209 => ?_) (fun c209 => ?_)
      · have hf := ite_t hf c209
        refine lv_iconst (v := (0 : Int32)) hx hb dX12_year_216 (by decide) ?_
        exact j_X12_year_217 C0 hN @ih50 @ih65 X (lv_sub hl [0, 1, 2, 3, 4, 5, 6, 7, 8, 9] rfl) o0 hf
      · have hf := ite_f hf c209
        refine lv_iconst (v := (1 : Int32)) hx hb dX12_year_212 (by decide) ?_
        refine lv_goto (tgt := 217) hx hb dX12_year_213 (by decide) ?_
        exact j_X12_year_217 C0 hN @ih50 @ih65 X (lv_sub hl [0, 1, 2, 3, 4, 5, 6, 7, 8, 9] rfl) o0 hf
    · have hf := ite_f hf c134
      refine lv_iload hx hb dX12_year_137 (lv_at hl 11 rfl) ?_
      refine lv_aload_n hx hb dX12_year_139 rfl (lv_at hl 0 rfl) ?_
      obtain ⟨g8, hf⟩ := gd_e hf
      refine g_R hx hb hts hown hK X o0 hN g8 fl_X12_13 (by decide) rfl (by decide) dX12_year_140 ?_
      refine lv_bipush (v := (28 : Int32)) hx hb dX12_year_143 (by decide) ?_
      refine lv_iload hx hb dX12_year_145 (lv_at hl 12 rfl) ?_
      refine lv_iadd hx hb dX12_year_147 ?_
      obtain ⟨g9, hf⟩ := gd_e hf
      refine g_ia hx hb hK X g8 hN g9 (by decide) dX12_year_148 ?_
      refine lv_bipush (v := (-4 : Int32)) hx hb dX12_year_149 (by decide) ?_
      refine lv_icmp_eq (tgt := 169) hx hb dX12_year_151 (by decide) (fun c151 => ?_) (fun c151 => ?_)
      · have hf := ite_t hf c151
        exact j_X12_year_169 C0 hN @ih50 @ih65 @ih X (lv_sub hl [0, 1, 2, 3, 4, 5, 6, 7, 8, 9, 10, 12] rfl) o0 hf
      · have hf := ite_f hf c151
        refine lv_aload_n hx hb dX12_year_154 rfl (lv_at hl 0 rfl) ?_
        obtain ⟨g10, hf⟩ := gd_e hf
        refine g_R hx hb hts hown hK X o0 hN g10 fl_X12_13 (by decide) rfl (by decide) dX12_year_155 ?_
        refine lv_bipush (v := (28 : Int32)) hx hb dX12_year_158 (by decide) ?_
        refine lv_iload hx hb dX12_year_160 (lv_at hl 12 rfl) ?_
        refine lv_iadd hx hb dX12_year_162 ?_
        obtain ⟨g11, hf⟩ := gd_e hf
        refine g_ia hx hb hK X g10 hN g11 (by decide) dX12_year_163 ?_
        refine lv_iload hx hb dX12_year_164 (lv_at hl 9 rfl) ?_
        refine lv_icmp_ne (tgt := 178) hx hb dX12_year_166 (by decide) (fun c166 => ?_) (fun c166 => ?_)
        · have hf := ite_f hf c166
          refine lv_iconst (v := (0 : Int32)) hx hb dX12_year_178 (by decide) ?_
          refine lv_ior hx hb dX12_year_179 ?_
          refine lv_istore (lv' := [(13, .int (x13 ||| (0 : Int32))), (0, .ref (bs G + x0)), (1, .int x1), (2, .int x2), (3, .int x3), (4, .int x4), (5, .int x5), (6, .int x6), (7, .int x7), (8, .int x8), (9, .int x9), (12, .int x12), (14, .int x14)]) hx hb dX12_year_180 hl (by decide) rfl (fun ls hl => ?_)
          refine lv_iinc (v := (x14 + (1 : Int32))) (lv' := [(14, .int (x14 + (1 : Int32))), (13, .int (x13 ||| (0 : Int32))), (0, .ref (bs G + x0)), (1, .int x1), (2, .int x2), (3, .int x3), (4, .int x4), (5, .int x5), (6, .int x6), (7, .int x7), (8, .int x8), (9, .int x9), (12, .int x12)]) hx hb dX12_year_182 hl (k := 12) rfl rfl (by decide) rfl (fun ls hl => ?_)
          refine lv_goto (tgt := 126) hx hb dX12_year_185 (by decide) ?_
          exact ih X (lv_sub hl [2, 3, 4, 5, 6, 7, 8, 9, 10, 11, 12, 1, 0] rfl) o0 hf
        · have hf := ite_t hf c166
          exact j_X12_year_169 C0 hN @ih50 @ih65 @ih X (lv_sub hl [0, 1, 2, 3, 4, 5, 6, 7, 8, 9, 10, 12] rfl) o0 hf
theorem j_X12_year_65 (C0 : Cx p s m args meth c G bX12_year RX12 15 (some .int) "year") (hN : NT ≤ n) {k50 : Hp → Nat → Int32 → Int32 → Int32 → Int32 → Int32 → Int32 → Option (Int32 × Hp)} (ih50 : ∀ {H : Heap} {locs : List Loc} {ls : Array Slot} {h : Hp} {x0 : Nat} {x1 : Int32} {x2 : Int32} {x3 : Int32} {x4 : Int32} {x5 : Int32} {x6 : Int32}, XW G n h s 0 H locs → lv_has ls 15 [(0, .ref (bs G + x0)), (1, .int x1), (2, .int x2), (3, .int x3), (4, .int x4), (5, .int x5), (6, .int x6)] → kd x0 = 12 → k50 h x0 x1 x2 x3 x4 x5 x6 = some (rv, h') → W p l e (rmC 5 0 0) s m args below meth c H locs 0 0 (MQ below (QP G n h' (some (.int rv))) args s 0 0 (Ab G)) (F0 m 50 ls [])) : ∀ (fu : Nat), ∀ {H : Heap} {locs : List Loc} {ls : Array Slot} {h : Hp} {x0 : Nat} {x1 : Int32} {x2 : Int32} {x3 : Int32} {x4 : Int32} {x5 : Int32} {x6 : Int32} {x7 : Int32} {x8 : Int32} {x9 : Int32}, XW G n h s 0 H locs → lv_has ls 15 [(0, .ref (bs G + x0)), (1, .int x1), (2, .int x2), (3, .int x3), (4, .int x4), (5, .int x5), (6, .int x6), (7, .int x7), (8, .int x8), (9, .int x9)] → kd x0 = 12 → f_X12_year_65 k50 fu h x0 x1 x2 x3 x4 x5 x6 x7 x8 x9 = some (rv, h') → W p l e (rmC 5 0 0) s m args below meth c H locs 0 0 (MQ below (QP G n h' (some (.int rv))) args s 0 0 (Ab G)) (F0 m 65 ls []) := by
  obtain ⟨hx, hb, hr, hml, hown, hts, hK, hlocks, hnm⟩ := id C0
  intro fu
  induction fu with
  | zero => intro H locs ls h x0 x1 x2 x3 x4 x5 x6 x7 x8 x9 X hl o0 hf; cases hf
  | succ fu ih =>
    intro H locs ls h x0 x1 x2 x3 x4 x5 x6 x7 x8 x9 X hl o0 hf
    rw [f_X12_year_65] at hf
    refine lv_iload hx hb dX12_year_65 (lv_at hl 9 rfl) ?_
    refine lv_aload_n hx hb dX12_year_67 rfl (lv_at hl 0 rfl) ?_
    obtain ⟨g1, hf⟩ := gd_e hf
    refine g_R hx hb hts hown hK X o0 hN g1 fl_X12_13 (by decide) rfl (by decide) dX12_year_68 ?_
    refine lv_iconst (v := (1 : Int32)) hx hb dX12_year_71 (by decide) ?_
    obtain ⟨g2, hf⟩ := gd_e hf
    refine g_ia hx hb hK X g1 hN g2 (by decide) dX12_year_72 ?_
    refine lv_icmp_ge (tgt := 258) hx hb dX12_year_73 (by decide) (fun c73 => ?_) (fun c73 => ?_)
    · have hf := ite_t hf c73
      refine lv_iload hx hb dX12_year_258 (lv_at hl 4 rfl) ?_
      refine lv_aload_n hx hb dX12_year_260 rfl (lv_at hl 0 rfl) ?_
      obtain ⟨g3, hf⟩ := gd_e hf
      refine g_R hx hb hts hown hK X o0 hN g3 fl_X12_13 (by decide) rfl (by decide) dX12_year_261 ?_
      refine lv_iconst (v := (1 : Int32)) hx hb dX12_year_264 (by decide) ?_
      obtain ⟨g4, hf⟩ := gd_e hf
      refine g_ia hx hb hK X g3 hN g4 (by decide) dX12_year_265 ?_
      refine lv_iload hx hb dX12_year_266 (lv_at hl 8 rfl) ?_
      refine lv_isub hx hb dX12_year_268 ?_
      refine lv_iadd hx hb dX12_year_269 ?_
      refine lv_istore (lv' := [(4, .int (x4 + ((h.1 (h.2 x0 1) (1 : Int32).toNatClampNeg) - x8))), (0, .ref (bs G + x0)), (1, .int x1), (2, .int x2), (3, .int x3), (5, .int x5), (6, .int x6), (7, .int x7), (8, .int x8), (9, .int x9)]) hx hb dX12_year_270 hl (by decide) rfl (fun ls hl => ?_)
      refine lv_iload hx hb dX12_year_272 (lv_at hl 5 rfl) ?_
      refine lv_iload hx hb dX12_year_274 (lv_at hl 8 rfl) ?_
      refine lv_aload_n hx hb dX12_year_276 rfl (lv_at hl 1 rfl) ?_
      obtain ⟨g5, hf⟩ := gd_e hf
      refine g_R hx hb hts hown hK X o0 hN g5 fl_X12_13 (by decide) rfl (by decide) dX12_year_277 ?_
      refine lv_iconst (v := (1 : Int32)) hx hb dX12_year_280 (by decide) ?_
      obtain ⟨g6, hf⟩ := gd_e hf
      refine g_ia hx hb hK X g5 hN g6 (by decide) dX12_year_281 ?_
      refine lv_icmp_ne (tgt := 289) hx hb dX12_year_282 (by decide) (fun c282 => ?_) (fun c282 => ?_)
      · have hf := ite_f hf c282
        refine lv_iconst (v := (0 : Int32)) hx hb dX12_year_289 (by decide) ?_
        refine lv_iadd hx hb dX12_year_290 ?_
        refine lv_istore (lv' := [(5, .int (x5 + (0 : Int32))), (4, .int (x4 + ((h.1 (h.2 x0 1) (1 : Int32).toNatClampNeg) - x8))), (0, .ref (bs G + x0)), (1, .int x1), (2, .int x2), (3, .int x3), (6, .int x6), (7, .int x7), (8, .int x8), (9, .int x9)]) hx hb dX12_year_291 hl (by decide) rfl (fun ls hl => ?_)
        refine lv_iinc (v := (x6 + (1 : Int32))) (lv' := [(6, .int (x6 + (1 : Int32))), (5, .int (x5 + (0 : Int32))), (4, .int (x4 + ((h.1 (h.2 x0 1) (1 : Int32).toNatClampNeg) - x8))), (0, .ref (bs G + x0)), (1, .int x1), (2, .int x2), (3, .int x3), (7, .int x7), (8, .int x8), (9, .int x9)]) hx hb dX12_year_293 hl (k := 6) rfl rfl (by decide) rfl (fun ls hl => ?_)
        refine lv_goto (tgt := 50) hx hb dX12_year_296 (by decide) ?_
        exact ih50 X (lv_sub hl [3, 4, 5, 6, 2, 1, 0] rfl) o0 hf
      · have hf := ite_t hf c282
        refine lv_iconst (v := (1 : Int32)) hx hb dX12_year_285 (by decide) ?_
        refine lv_goto (tgt := 290) hx hb dX12_year_286 (by decide) ?_
        refine lv_iadd hx hb dX12_year_290 ?_
        refine lv_istore (lv' := [(5, .int (x5 + (1 : Int32))), (4, .int (x4 + ((h.1 (h.2 x0 1) (1 : Int32).toNatClampNeg) - x8))), (0, .ref (bs G + x0)), (1, .int x1), (2, .int x2), (3, .int x3), (6, .int x6), (7, .int x7), (8, .int x8), (9, .int x9)]) hx hb dX12_year_291 hl (by decide) rfl (fun ls hl => ?_)
        refine lv_iinc (v := (x6 + (1 : Int32))) (lv' := [(6, .int (x6 + (1 : Int32))), (5, .int (x5 + (1 : Int32))), (4, .int (x4 + ((h.1 (h.2 x0 1) (1 : Int32).toNatClampNeg) - x8))), (0, .ref (bs G + x0)), (1, .int x1), (2, .int x2), (3, .int x3), (7, .int x7), (8, .int x8), (9, .int x9)]) hx hb dX12_year_293 hl (k := 6) rfl rfl (by decide) rfl (fun ls hl => ?_)
        refine lv_goto (tgt := 50) hx hb dX12_year_296 (by decide) ?_
        exact ih50 X (lv_sub hl [3, 4, 5, 6, 2, 1, 0] rfl) o0 hf
    · have hf := ite_f hf c73
      refine lv_ldc2 hx hb hown (hts _ cn_X12_249) dX12_year_76 ?_
      refine lv_iload_n hx hb dX12_year_79 rfl (lv_at hl 1 rfl) ?_
      refine lv_i2l hx hb dX12_year_80 rfl ?_
      refine lv_lmul hx hb dX12_year_81 ?_
      refine lv_ldc2 hx hb hown (hts _ cn_X12_251) dX12_year_82 ?_
      refine lv_iload hx hb dX12_year_85 (lv_at hl 6 rfl) ?_
      refine lv_i2l hx hb dX12_year_87 rfl ?_
      refine lv_lmul hx hb dX12_year_88 ?_
      refine lv_ladd hx hb dX12_year_89 ?_
      refine lv_ldc2 hx hb hown (hts _ cn_X12_253) dX12_year_90 ?_
      refine lv_iload hx hb dX12_year_93 (lv_at hl 9 rfl) ?_
      refine lv_i2l hx hb dX12_year_95 rfl ?_
      refine lv_lmul hx hb dX12_year_96 ?_
      refine lv_ladd hx hb dX12_year_97 ?_
      refine lv_lconst (v := 1) hx hb dX12_year_98 (by decide) ?_
      refine lv_ladd hx hb dX12_year_99 ?_
      refine lv_lstore (lv' := [(10, .long (((((7919 : Int64) * x1.toInt64) + ((6151 : Int64) * x6.toInt64)) + ((101 : Int64) * x9.toInt64)) + (1 : Int64))), (0, .ref (bs G + x0)), (1, .int x1), (2, .int x2), (3, .int x3), (4, .int x4), (5, .int x5), (6, .int x6), (7, .int x7), (8, .int x8), (9, .int x9)]) hx hb dX12_year_100 hl (by decide) rfl (fun ls hl => ?_)
      refine lv_lload hx hb dX12_year_102 (lv_at hl 0 rfl) ?_
      refine lv_lload hx hb dX12_year_104 (lv_at hl 0 rfl) ?_
      refine lv_lmul hx hb dX12_year_106 ?_
      refine lv_ldc2 hx hb hown (hts _ cn_X12_255) dX12_year_107 ?_
      refine lv_lrem hx hb dX12_year_110 (by decide) ?_
      refine lv_ldc2 hx hb hown (hts _ cn_X12_207) dX12_year_111 ?_
      refine lv_lrem hx hb dX12_year_114 (by decide) ?_
      refine lv_l2i hx hb dX12_year_115 rfl ?_
      refine lv_iconst (v := (1 : Int32)) hx hb dX12_year_116 (by decide) ?_
      refine lv_iadd hx hb dX12_year_117 ?_
      refine lv_istore (lv' := [(12, .int (((((((((7919 : Int64) * x1.toInt64) + ((6151 : Int64) * x6.toInt64)) + ((101 : Int64) * x9.toInt64)) + (1 : Int64)) * (((((7919 : Int64) * x1.toInt64) + ((6151 : Int64) * x6.toInt64)) + ((101 : Int64) * x9.toInt64)) + (1 : Int64))) - ((((((7919 : Int64) * x1.toInt64) + ((6151 : Int64) * x6.toInt64)) + ((101 : Int64) * x9.toInt64)) + (1 : Int64)) * (((((7919 : Int64) * x1.toInt64) + ((6151 : Int64) * x6.toInt64)) + ((101 : Int64) * x9.toInt64)) + (1 : Int64))) / (65521 : Int64) * (65521 : Int64)) - (((((((7919 : Int64) * x1.toInt64) + ((6151 : Int64) * x6.toInt64)) + ((101 : Int64) * x9.toInt64)) + (1 : Int64)) * (((((7919 : Int64) * x1.toInt64) + ((6151 : Int64) * x6.toInt64)) + ((101 : Int64) * x9.toInt64)) + (1 : Int64))) - ((((((7919 : Int64) * x1.toInt64) + ((6151 : Int64) * x6.toInt64)) + ((101 : Int64) * x9.toInt64)) + (1 : Int64)) * (((((7919 : Int64) * x1.toInt64) + ((6151 : Int64) * x6.toInt64)) + ((101 : Int64) * x9.toInt64)) + (1 : Int64))) / (65521 : Int64) * (65521 : Int64)) / (99 : Int64) * (99 : Int64)).toInt32 + (1 : Int32))), (10, .long (((((7919 : Int64) * x1.toInt64) + ((6151 : Int64) * x6.toInt64)) + ((101 : Int64) * x9.toInt64)) + (1 : Int64))), (0, .ref (bs G + x0)), (1, .int x1), (2, .int x2), (3, .int x3), (4, .int x4), (5, .int x5), (6, .int x6), (7, .int x7), (8, .int x8), (9, .int x9)]) hx hb dX12_year_118 hl (by decide) rfl (fun ls hl => ?_)
      refine lv_iconst (v := (0 : Int32)) hx hb dX12_year_120 (by decide) ?_
      refine lv_istore (lv' := [(13, .int (0 : Int32)), (12, .int (((((((((7919 : Int64) * x1.toInt64) + ((6151 : Int64) * x6.toInt64)) + ((101 : Int64) * x9.toInt64)) + (1 : Int64)) * (((((7919 : Int64) * x1.toInt64) + ((6151 : Int64) * x6.toInt64)) + ((101 : Int64) * x9.toInt64)) + (1 : Int64))) - ((((((7919 : Int64) * x1.toInt64) + ((6151 : Int64) * x6.toInt64)) + ((101 : Int64) * x9.toInt64)) + (1 : Int64)) * (((((7919 : Int64) * x1.toInt64) + ((6151 : Int64) * x6.toInt64)) + ((101 : Int64) * x9.toInt64)) + (1 : Int64))) / (65521 : Int64) * (65521 : Int64)) - (((((((7919 : Int64) * x1.toInt64) + ((6151 : Int64) * x6.toInt64)) + ((101 : Int64) * x9.toInt64)) + (1 : Int64)) * (((((7919 : Int64) * x1.toInt64) + ((6151 : Int64) * x6.toInt64)) + ((101 : Int64) * x9.toInt64)) + (1 : Int64))) - ((((((7919 : Int64) * x1.toInt64) + ((6151 : Int64) * x6.toInt64)) + ((101 : Int64) * x9.toInt64)) + (1 : Int64)) * (((((7919 : Int64) * x1.toInt64) + ((6151 : Int64) * x6.toInt64)) + ((101 : Int64) * x9.toInt64)) + (1 : Int64))) / (65521 : Int64) * (65521 : Int64)) / (99 : Int64) * (99 : Int64)).toInt32 + (1 : Int32))), (10, .long (((((7919 : Int64) * x1.toInt64) + ((6151 : Int64) * x6.toInt64)) + ((101 : Int64) * x9.toInt64)) + (1 : Int64))), (0, .ref (bs G + x0)), (1, .int x1), (2, .int x2), (3, .int x3), (4, .int x4), (5, .int x5), (6, .int x6), (7, .int x7), (8, .int x8), (9, .int x9)]) hx hb dX12_year_121 hl (by decide) rfl (fun ls hl => ?_)
      refine lv_iconst (v := (1 : Int32)) hx hb dX12_year_123 (by decide) ?_
      refine lv_istore (lv' := [(14, .int (1 : Int32)), (13, .int (0 : Int32)), (12, .int (((((((((7919 : Int64) * x1.toInt64) + ((6151 : Int64) * x6.toInt64)) + ((101 : Int64) * x9.toInt64)) + (1 : Int64)) * (((((7919 : Int64) * x1.toInt64) + ((6151 : Int64) * x6.toInt64)) + ((101 : Int64) * x9.toInt64)) + (1 : Int64))) - ((((((7919 : Int64) * x1.toInt64) + ((6151 : Int64) * x6.toInt64)) + ((101 : Int64) * x9.toInt64)) + (1 : Int64)) * (((((7919 : Int64) * x1.toInt64) + ((6151 : Int64) * x6.toInt64)) + ((101 : Int64) * x9.toInt64)) + (1 : Int64))) / (65521 : Int64) * (65521 : Int64)) - (((((((7919 : Int64) * x1.toInt64) + ((6151 : Int64) * x6.toInt64)) + ((101 : Int64) * x9.toInt64)) + (1 : Int64)) * (((((7919 : Int64) * x1.toInt64) + ((6151 : Int64) * x6.toInt64)) + ((101 : Int64) * x9.toInt64)) + (1 : Int64))) - ((((((7919 : Int64) * x1.toInt64) + ((6151 : Int64) * x6.toInt64)) + ((101 : Int64) * x9.toInt64)) + (1 : Int64)) * (((((7919 : Int64) * x1.toInt64) + ((6151 : Int64) * x6.toInt64)) + ((101 : Int64) * x9.toInt64)) + (1 : Int64))) / (65521 : Int64) * (65521 : Int64)) / (99 : Int64) * (99 : Int64)).toInt32 + (1 : Int32))), (10, .long (((((7919 : Int64) * x1.toInt64) + ((6151 : Int64) * x6.toInt64)) + ((101 : Int64) * x9.toInt64)) + (1 : Int64))), (0, .ref (bs G + x0)), (1, .int x1), (2, .int x2), (3, .int x3), (4, .int x4), (5, .int x5), (6, .int x6), (7, .int x7), (8, .int x8), (9, .int x9)]) hx hb dX12_year_124 hl (by decide) rfl (fun ls hl => ?_)
      exact j_X12_year_126 C0 hN @ih50 @ih FU X (lv_sub hl [4, 5, 6, 7, 8, 9, 10, 11, 12, 13, 2, 1, 0] rfl) o0 hf
theorem j_X12_year_50 (C0 : Cx p s m args meth c G bX12_year RX12 15 (some .int) "year") (hN : NT ≤ n) : ∀ (fu : Nat), ∀ {H : Heap} {locs : List Loc} {ls : Array Slot} {h : Hp} {x0 : Nat} {x1 : Int32} {x2 : Int32} {x3 : Int32} {x4 : Int32} {x5 : Int32} {x6 : Int32}, XW G n h s 0 H locs → lv_has ls 15 [(0, .ref (bs G + x0)), (1, .int x1), (2, .int x2), (3, .int x3), (4, .int x4), (5, .int x5), (6, .int x6)] → kd x0 = 12 → f_X12_year_50 fu h x0 x1 x2 x3 x4 x5 x6 = some (rv, h') → W p l e (rmC 5 0 0) s m args below meth c H locs 0 0 (MQ below (QP G n h' (some (.int rv))) args s 0 0 (Ab G)) (F0 m 50 ls []) := by
  obtain ⟨hx, hb, hr, hml, hown, hts, hK, hlocks, hnm⟩ := id C0
  intro fu
  induction fu with
  | zero => intro H locs ls h x0 x1 x2 x3 x4 x5 x6 X hl o0 hf; cases hf
  | succ fu ih =>
    intro H locs ls h x0 x1 x2 x3 x4 x5 x6 X hl o0 hf
    rw [f_X12_year_50] at hf
    refine lv_iload hx hb dX12_year_50 (lv_at hl 6 rfl) ?_
    refine lv_iload_n hx hb dX12_year_52 rfl (lv_at hl 2 rfl) ?_
    refine lv_icmp_ge (tgt := 299) hx hb dX12_year_53 (by decide) (fun c53 => ?_) (fun c53 => ?_)
    · have hf := ite_t hf c53
      refine lv_iload_n hx hb dX12_year_299 rfl (lv_at hl 3 rfl) ?_
      refine lv_if_ne (tgt := 308) hx hb dX12_year_300 (by decide) (fun c300 => ?_) (fun c300 => ?_)
      · have hf := ite_f hf c300
        refine lv_iload hx hb dX12_year_308 (lv_at hl 5 rfl) ?_
        exact r_I hx hb hr hlocks X hf dX12_year_310
      · have hf := ite_t hf c300
        refine lv_iload hx hb dX12_year_303 (lv_at hl 4 rfl) ?_
        refine lv_goto (tgt := 310) hx hb dX12_year_305 (by decide) ?_
        exact r_I hx hb hr hlocks X hf dX12_year_310
    · have hf := ite_f hf c53
      refine lv_iconst (v := (0 : Int32)) hx hb dX12_year_56 (by decide) ?_
      refine lv_istore (lv' := [(7, .int (0 : Int32)), (0, .ref (bs G + x0)), (1, .int x1), (2, .int x2), (3, .int x3), (4, .int x4), (5, .int x5), (6, .int x6)]) hx hb dX12_year_57 hl (by decide) rfl (fun ls hl => ?_)
      refine lv_iconst (v := (0 : Int32)) hx hb dX12_year_59 (by decide) ?_
      refine lv_istore (lv' := [(8, .int (0 : Int32)), (7, .int (0 : Int32)), (0, .ref (bs G + x0)), (1, .int x1), (2, .int x2), (3, .int x3), (4, .int x4), (5, .int x5), (6, .int x6)]) hx hb dX12_year_60 hl (by decide) rfl (fun ls hl => ?_)
      refine lv_iconst (v := (0 : Int32)) hx hb dX12_year_62 (by decide) ?_
      refine lv_istore (lv' := [(9, .int (0 : Int32)), (8, .int (0 : Int32)), (7, .int (0 : Int32)), (0, .ref (bs G + x0)), (1, .int x1), (2, .int x2), (3, .int x3), (4, .int x4), (5, .int x5), (6, .int x6)]) hx hb dX12_year_63 hl (by decide) rfl (fun ls hl => ?_)
      exact j_X12_year_65 C0 hN @ih FU X (lv_sub hl [3, 4, 5, 6, 7, 8, 9, 2, 1, 0] rfl) o0 hf
theorem k_X12_year (l : Launch) (G : GG) (n : Nat) (hN : NT ≤ n) {h h' : Hp} {x0 : Nat} {x1 : Int32} {x2 : Int32} {x3 : Int32} {rv : Int32} (hf : f_X12_year h x0 x1 x2 x3 = some (rv, h')) : CT l G n n yX12_year (.code yX12_year bX12_year 15 (some .int)) 5 0 0 [.ref (bs G + x0), .int x1, .int x2, .int x3] h h' (some (.int rv)) := by
  refine ct_of (maxL := 15) (ret := (some .int)) (bytes := bX12_year) (by decide) (Nat.le_of_ble_eq_true rfl) (fun p e s m below meth c C0 X ls hl => ?_)
  have hl : lv_has ls 15 [(0, .ref (bs G + x0)), (1, .int x1), (2, .int x2), (3, .int x3)] := hl
  obtain ⟨hx, hb, hr, hml, hown, hts, hK, hlocks, hnm⟩ := id C0
  unfold f_X12_year at hf
  obtain ⟨o0, hf⟩ := gd_e hf
  refine lv_aload_n hx hb dX12_year_0 rfl (lv_at hl 0 rfl) ?_
  refine lv_iconst (v := (0 : Int32)) hx hb dX12_year_1 (by decide) ?_
  refine g_PI hx hb hts hown hK X o0 hN fl_X12_1 ft_12_0 (by decide) rfl dX12_year_2 (fun H locs X => ?_)
  obtain ⟨h1, e2, hf⟩ := lt_e hf
  rw [← e2] at X
  refine lv_iload_n hx hb dX12_year_5 rfl (lv_at hl 1 rfl) ?_
  refine lv_i2l hx hb dX12_year_6 rfl ?_
  refine lv_lconst (v := 0) hx hb dX12_year_7 (by decide) ?_
  refine lv_ldc2 hx hb hown (hts _ cn_X12_245) dX12_year_8 ?_
  obtain ⟨r3, h4, q5, hf⟩ := bd_e hf
  refine c_S0 (As := [.long x1.toInt64, .long (0 : Int64), .long (9999 : Int64)]) (rest := []) (st1 := [.int r3]) hx hb hml hown hts hK X (k_X12_in l G n hN q5) lc_X12_in ls_X12_75 (by decide) rfl hl.1 (Nat.le_of_ble_eq_true rfl) dX12_year_11 rfl (fun H locs X => ?_)
  refine lv_if_eq (tgt := 39) hx hb dX12_year_14 (by decide) (fun c14 => ?_) (fun c14 => ?_)
  · have hf := ite_t hf c14
    refine lv_iconst (v := (-1 : Int32)) hx hb dX12_year_39 (by decide) ?_
    exact r_I hx hb hr hlocks X hf dX12_year_40
  · have hf := ite_f hf c14
    refine lv_iload_n hx hb dX12_year_17 rfl (lv_at hl 2 rfl) ?_
    refine lv_i2l hx hb dX12_year_18 rfl ?_
    refine lv_lconst (v := 1) hx hb dX12_year_19 (by decide) ?_
    refine lv_ldc2 hx hb hown (hts _ cn_X12_247) dX12_year_20 ?_
    obtain ⟨r6, h7, q8, hf⟩ := bd_e hf
    refine c_S0 (As := [.long x2.toInt64, .long (1 : Int64), .long (30 : Int64)]) (rest := []) (st1 := [.int r6]) hx hb hml hown hts hK X (k_X12_in l G n hN q8) lc_X12_in ls_X12_75 (by decide) rfl hl.1 (Nat.le_of_ble_eq_true rfl) dX12_year_23 rfl (fun H locs X => ?_)
    refine lv_if_eq (tgt := 39) hx hb dX12_year_26 (by decide) (fun c26 => ?_) (fun c26 => ?_)
    · have hf := ite_t hf c26
      refine lv_iconst (v := (-1 : Int32)) hx hb dX12_year_39 (by decide) ?_
      exact r_I hx hb hr hlocks X hf dX12_year_40
    · have hf := ite_f hf c26
      refine lv_iload_n hx hb dX12_year_29 rfl (lv_at hl 3 rfl) ?_
      refine lv_i2l hx hb dX12_year_30 rfl ?_
      refine lv_lconst (v := 0) hx hb dX12_year_31 (by decide) ?_
      refine lv_lconst (v := 1) hx hb dX12_year_32 (by decide) ?_
      obtain ⟨r9, h10, q11, hf⟩ := bd_e hf
      refine c_S0 (As := [.long x3.toInt64, .long (0 : Int64), .long (1 : Int64)]) (rest := []) (st1 := [.int r9]) hx hb hml hown hts hK X (k_X12_in l G n hN q11) lc_X12_in ls_X12_75 (by decide) rfl hl.1 (Nat.le_of_ble_eq_true rfl) dX12_year_33 rfl (fun H locs X => ?_)
      refine lv_if_ne (tgt := 41) hx hb dX12_year_36 (by decide) (fun c36 => ?_) (fun c36 => ?_)
      · have hf := ite_f hf c36
        refine lv_iconst (v := (0 : Int32)) hx hb dX12_year_41 (by decide) ?_
        refine lv_istore (lv' := [(4, .int (0 : Int32)), (0, .ref (bs G + x0)), (1, .int x1), (2, .int x2), (3, .int x3)]) hx hb dX12_year_42 hl (by decide) rfl (fun ls hl => ?_)
        refine lv_iconst (v := (0 : Int32)) hx hb dX12_year_44 (by decide) ?_
        refine lv_istore (lv' := [(5, .int (0 : Int32)), (4, .int (0 : Int32)), (0, .ref (bs G + x0)), (1, .int x1), (2, .int x2), (3, .int x3)]) hx hb dX12_year_45 hl (by decide) rfl (fun ls hl => ?_)
        refine lv_iconst (v := (0 : Int32)) hx hb dX12_year_47 (by decide) ?_
        refine lv_istore (lv' := [(6, .int (0 : Int32)), (5, .int (0 : Int32)), (4, .int (0 : Int32)), (0, .ref (bs G + x0)), (1, .int x1), (2, .int x2), (3, .int x3)]) hx hb dX12_year_48 hl (by decide) rfl (fun ls hl => ?_)
        exact j_X12_year_50 C0 hN FU X (lv_sub hl [3, 4, 5, 6, 2, 1, 0] rfl) o0 hf
      · have hf := ite_t hf c36
        refine lv_iconst (v := (-1 : Int32)) hx hb dX12_year_39 (by decide) ?_
        exact r_I hx hb hr hlocks X hf dX12_year_40
end
theorem dX12_keep_0 : decode bX12_keep 0 = .ok (.aload_n 0, 1) := by decide +kernel
theorem dX12_keep_1 : decode bX12_keep 1 = .ok (.iconst 0, 1) := by decide +kernel
theorem dX12_keep_2 : decode bX12_keep 2 = .ok (.putfield 1, 3) := by decide +kernel
theorem dX12_keep_5 : decode bX12_keep 5 = .ok (.aload_n 0, 1) := by decide +kernel
theorem dX12_keep_6 : decode bX12_keep 6 = .ok (.getfield 122, 3) := by decide +kernel
theorem dX12_keep_9 : decode bX12_keep 9 = .ok (.iconst 2, 1) := by decide +kernel
theorem dX12_keep_10 : decode bX12_keep 10 = .ok (.if_icmp .ne 6, 3) := by decide +kernel
theorem dX12_keep_13 : decode bX12_keep 13 = .ok (.bipush (-3), 2) := by decide +kernel
theorem dX12_keep_15 : decode bX12_keep 15 = .ok (.ireturn, 1) := by decide +kernel
theorem dX12_keep_16 : decode bX12_keep 16 = .ok (.iconst 0, 1) := by decide +kernel
theorem dX12_keep_17 : decode bX12_keep 17 = .ok (.istore_n 1, 1) := by decide +kernel
theorem dX12_keep_18 : decode bX12_keep 18 = .ok (.iload_n 1, 1) := by decide +kernel
theorem dX12_keep_19 : decode bX12_keep 19 = .ok (.bipush 51, 2) := by decide +kernel
theorem dX12_keep_21 : decode bX12_keep 21 = .ok (.if_icmp .ge 29, 3) := by decide +kernel
theorem dX12_keep_24 : decode bX12_keep 24 = .ok (.aload_n 0, 1) := by decide +kernel
theorem dX12_keep_25 : decode bX12_keep 25 = .ok (.getfield 26, 3) := by decide +kernel
theorem dX12_keep_28 : decode bX12_keep 28 = .ok (.bipush 51, 2) := by decide +kernel
theorem dX12_keep_30 : decode bX12_keep 30 = .ok (.aload_n 0, 1) := by decide +kernel
theorem dX12_keep_31 : decode bX12_keep 31 = .ok (.getfield 122, 3) := by decide +kernel
theorem dX12_keep_34 : decode bX12_keep 34 = .ok (.imul, 1) := by decide +kernel
theorem dX12_keep_35 : decode bX12_keep 35 = .ok (.iload_n 1, 1) := by decide +kernel
theorem dX12_keep_36 : decode bX12_keep 36 = .ok (.iadd, 1) := by decide +kernel
theorem dX12_keep_37 : decode bX12_keep 37 = .ok (.aload_n 0, 1) := by decide +kernel
theorem dX12_keep_38 : decode bX12_keep 38 = .ok (.getfield 20, 3) := by decide +kernel
theorem dX12_keep_41 : decode bX12_keep 41 = .ok (.iload_n 1, 1) := by decide +kernel
theorem dX12_keep_42 : decode bX12_keep 42 = .ok (.iaload, 1) := by decide +kernel
theorem dX12_keep_43 : decode bX12_keep 43 = .ok (.iastore, 1) := by decide +kernel
theorem dX12_keep_44 : decode bX12_keep 44 = .ok (.iinc 1 1, 3) := by decide +kernel
theorem dX12_keep_47 : decode bX12_keep 47 = .ok (.goto (-29), 3) := by decide +kernel
theorem dX12_keep_50 : decode bX12_keep 50 = .ok (.aload_n 0, 1) := by decide +kernel
theorem dX12_keep_51 : decode bX12_keep 51 = .ok (.dup, 1) := by decide +kernel
theorem dX12_keep_52 : decode bX12_keep 52 = .ok (.getfield 122, 3) := by decide +kernel
theorem dX12_keep_55 : decode bX12_keep 55 = .ok (.iconst 1, 1) := by decide +kernel
theorem dX12_keep_56 : decode bX12_keep 56 = .ok (.iadd, 1) := by decide +kernel
theorem dX12_keep_57 : decode bX12_keep 57 = .ok (.putfield 122, 3) := by decide +kernel
theorem dX12_keep_60 : decode bX12_keep 60 = .ok (.aload_n 0, 1) := by decide +kernel
theorem dX12_keep_61 : decode bX12_keep 61 = .ok (.getfield 122, 3) := by decide +kernel
theorem dX12_keep_64 : decode bX12_keep 64 = .ok (.ireturn, 1) := by decide +kernel
section
variable {p : Program} {l : Launch} {e : Env} {s : State} {m : MethodId} {args : Array Value} {below : List Frame} {meth : Method} {c : Code} {G : GG} {n : Nat} {h' : Hp} {rv : Int32}
set_option maxHeartbeats 4000000
set_option maxRecDepth 100000
theorem j_X12_keep_18 (C0 : Cx p s m args meth c G bX12_keep RX12 2 (some .int) "keep") (hN : NT ≤ n) : ∀ (fu : Nat), ∀ {H : Heap} {locs : List Loc} {ls : Array Slot} {h : Hp} {x0 : Nat} {x1 : Int32}, XW G n h s 0 H locs → lv_has ls 2 [(0, .ref (bs G + x0)), (1, .int x1)] → kd x0 = 12 → f_X12_keep_18 fu h x0 x1 = some (rv, h') → W p l e (rmC 0 0 0) s m args below meth c H locs 0 0 (MQ below (QP G n h' (some (.int rv))) args s 0 0 (Ab G)) (F0 m 18 ls []) := by
  obtain ⟨hx, hb, hr, hml, hown, hts, hK, hlocks, hnm⟩ := id C0
  intro fu
  induction fu with
  | zero => intro H locs ls h x0 x1 X hl o0 hf; cases hf
  | succ fu ih =>
    intro H locs ls h x0 x1 X hl o0 hf
    rw [f_X12_keep_18] at hf
    refine lv_iload_n hx hb dX12_keep_18 rfl (lv_at hl 1 rfl) ?_
    refine lv_bipush (v := (51 : Int32)) hx hb dX12_keep_19 (by decide) ?_
    refine lv_icmp_ge (tgt := 50) hx hb dX12_keep_21 (by decide) (fun c21 => ?_) (fun c21 => ?_)
    · have hf := ite_t hf c21
      refine lv_aload_n hx hb dX12_keep_50 rfl (lv_at hl 0 rfl) ?_
      refine lv_dup hx hb dX12_keep_51 rfl ?_
      refine g_I hx hb hts hown hK X o0 hN fl_X12_122 (by decide) rfl dX12_keep_52 ?_
      refine lv_iconst (v := (1 : Int32)) hx hb dX12_keep_55 (by decide) ?_
      refine lv_iadd hx hb dX12_keep_56 ?_
      refine g_PI hx hb hts hown hK X o0 hN fl_X12_122 ft_12_7 (by decide) rfl dX12_keep_57 (fun H locs X => ?_)
      obtain ⟨h1, e2, hf⟩ := lt_e hf
      rw [← e2] at X
      refine lv_aload_n hx hb dX12_keep_60 rfl (lv_at hl 0 rfl) ?_
      refine g_I hx hb hts hown hK X o0 hN fl_X12_122 (by decide) rfl dX12_keep_61 ?_
      exact r_I hx hb hr hlocks X hf dX12_keep_64
    · have hf := ite_f hf c21
      refine lv_aload_n hx hb dX12_keep_24 rfl (lv_at hl 0 rfl) ?_
      obtain ⟨g3, hf⟩ := gd_e hf
      refine g_R hx hb hts hown hK X o0 hN g3 fl_X12_26 (by decide) rfl (by decide) dX12_keep_25 ?_
      refine lv_bipush (v := (51 : Int32)) hx hb dX12_keep_28 (by decide) ?_
      refine lv_aload_n hx hb dX12_keep_30 rfl (lv_at hl 0 rfl) ?_
      refine g_I hx hb hts hown hK X o0 hN fl_X12_122 (by decide) rfl dX12_keep_31 ?_
      refine lv_imul hx hb dX12_keep_34 ?_
      refine lv_iload_n hx hb dX12_keep_35 rfl (lv_at hl 1 rfl) ?_
      refine lv_iadd hx hb dX12_keep_36 ?_
      refine lv_aload_n hx hb dX12_keep_37 rfl (lv_at hl 0 rfl) ?_
      obtain ⟨g4, hf⟩ := gd_e hf
      refine g_R hx hb hts hown hK X o0 hN g4 fl_X12_20 (by decide) rfl (by decide) dX12_keep_38 ?_
      refine lv_iload_n hx hb dX12_keep_41 rfl (lv_at hl 1 rfl) ?_
      obtain ⟨g5, hf⟩ := gd_e hf
      refine g_ia hx hb hK X g4 hN g5 (by decide) dX12_keep_42 ?_
      obtain ⟨g6, hf⟩ := gd_e hf
      refine g_is hx hb hK X g3 hN g6 (by decide) dX12_keep_43 (fun H locs X => ?_)
      obtain ⟨h7, e8, hf⟩ := lt_e hf
      rw [← e8] at X
      refine lv_iinc (v := (x1 + (1 : Int32))) (lv' := [(1, .int (x1 + (1 : Int32))), (0, .ref (bs G + x0))]) hx hb dX12_keep_44 hl (k := 1) rfl rfl (by decide) rfl (fun ls hl => ?_)
      refine lv_goto (tgt := 18) hx hb dX12_keep_47 (by decide) ?_
      exact ih X (lv_sub hl [1, 0] rfl) o0 hf
theorem k_X12_keep (l : Launch) (G : GG) (n : Nat) (hN : NT ≤ n) {h h' : Hp} {x0 : Nat} {rv : Int32} (hf : f_X12_keep h x0 = some (rv, h')) : CT l G n n yX12_keep (.code yX12_keep bX12_keep 2 (some .int)) 0 0 0 [.ref (bs G + x0)] h h' (some (.int rv)) := by
  refine ct_of (maxL := 2) (ret := (some .int)) (bytes := bX12_keep) (by decide) (Nat.le_of_ble_eq_true rfl) (fun p e s m below meth c C0 X ls hl => ?_)
  have hl : lv_has ls 2 [(0, .ref (bs G + x0))] := hl
  obtain ⟨hx, hb, hr, hml, hown, hts, hK, hlocks, hnm⟩ := id C0
  unfold f_X12_keep at hf
  obtain ⟨o0, hf⟩ := gd_e hf
  refine lv_aload_n hx hb dX12_keep_0 rfl (lv_at hl 0 rfl) ?_
  refine lv_iconst (v := (0 : Int32)) hx hb dX12_keep_1 (by decide) ?_
  refine g_PI hx hb hts hown hK X o0 hN fl_X12_1 ft_12_0 (by decide) rfl dX12_keep_2 (fun H locs X => ?_)
  obtain ⟨h1, e2, hf⟩ := lt_e hf
  rw [← e2] at X
  refine lv_aload_n hx hb dX12_keep_5 rfl (lv_at hl 0 rfl) ?_
  refine g_I hx hb hts hown hK X o0 hN fl_X12_122 (by decide) rfl dX12_keep_6 ?_
  refine lv_iconst (v := (2 : Int32)) hx hb dX12_keep_9 (by decide) ?_
  refine lv_icmp_ne (tgt := 16) hx hb dX12_keep_10 (by decide) (fun c10 => ?_) (fun c10 => ?_)
  · have hf := ite_f hf c10
    refine lv_iconst (v := (0 : Int32)) hx hb dX12_keep_16 (by decide) ?_
    refine lv_istore_n (lv' := [(1, .int (0 : Int32)), (0, .ref (bs G + x0))]) hx hb dX12_keep_17 rfl hl (by decide) rfl (fun ls hl => ?_)
    exact j_X12_keep_18 C0 hN FU X (lv_sub hl [1, 0] rfl) o0 hf
  · have hf := ite_t hf c10
    refine lv_bipush (v := (-3 : Int32)) hx hb dX12_keep_13 (by decide) ?_
    exact r_I hx hb hr hlocks X hf dX12_keep_15
end
