theorem dX7_spread_0 : decode bX7_spread 0 = .ok (.aload_n 0, 1) := by decide +kernel
theorem dX7_spread_1 : decode bX7_spread 1 = .ok (.getfield 18, 3) := by decide +kernel
theorem dX7_spread_4 : decode bX7_spread 4 = .ok (.iload_n 1, 1) := by decide +kernel
theorem dX7_spread_5 : decode bX7_spread 5 = .ok (.iaload, 1) := by decide +kernel
theorem dX7_spread_6 : decode bX7_spread 6 = .ok (.aload_n 0, 1) := by decide +kernel
theorem dX7_spread_7 : decode bX7_spread 7 = .ok (.getfield 18, 3) := by decide +kernel
theorem dX7_spread_10 : decode bX7_spread 10 = .ok (.iload_n 1, 1) := by decide +kernel
theorem dX7_spread_11 : decode bX7_spread 11 = .ok (.iconst 1, 1) := by decide +kernel
theorem dX7_spread_12 : decode bX7_spread 12 = .ok (.iadd, 1) := by decide +kernel
theorem dX7_spread_13 : decode bX7_spread 13 = .ok (.iaload, 1) := by decide +kernel
theorem dX7_spread_14 : decode bX7_spread 14 = .ok (.iload_n 2, 1) := by decide +kernel
theorem dX7_spread_15 : decode bX7_spread 15 = .ok (.iadd, 1) := by decide +kernel
theorem dX7_spread_16 : decode bX7_spread 16 = .ok (.invokestatic 98, 3) := by decide +kernel
theorem dX7_spread_19 : decode bX7_spread 19 = .ok (.istore 4, 2) := by decide +kernel
theorem dX7_spread_21 : decode bX7_spread 21 = .ok (.iload_n 1, 1) := by decide +kernel
theorem dX7_spread_22 : decode bX7_spread 22 = .ok (.sipush 601, 3) := by decide +kernel
theorem dX7_spread_25 : decode bX7_spread 25 = .ok (.imul, 1) := by decide +kernel
theorem dX7_spread_26 : decode bX7_spread 26 = .ok (.sipush 300, 3) := by decide +kernel
theorem dX7_spread_29 : decode bX7_spread 29 = .ok (.iadd, 1) := by decide +kernel
theorem dX7_spread_30 : decode bX7_spread 30 = .ok (.istore 5, 2) := by decide +kernel
theorem dX7_spread_32 : decode bX7_spread 32 = .ok (.iload 5, 2) := by decide +kernel
theorem dX7_spread_34 : decode bX7_spread 34 = .ok (.sipush 601, 3) := by decide +kernel
theorem dX7_spread_37 : decode bX7_spread 37 = .ok (.iadd, 1) := by decide +kernel
theorem dX7_spread_38 : decode bX7_spread 38 = .ok (.iload_n 2, 1) := by decide +kernel
theorem dX7_spread_39 : decode bX7_spread 39 = .ok (.isub, 1) := by decide +kernel
theorem dX7_spread_40 : decode bX7_spread 40 = .ok (.istore 6, 2) := by decide +kernel
theorem dX7_spread_42 : decode bX7_spread 42 = .ok (.aload_n 0, 1) := by decide +kernel
theorem dX7_spread_43 : decode bX7_spread 43 = .ok (.getfield 15, 3) := by decide +kernel
theorem dX7_spread_46 : decode bX7_spread 46 = .ok (.iload_n 1, 1) := by decide +kernel
theorem dX7_spread_47 : decode bX7_spread 47 = .ok (.iaload, 1) := by decide +kernel
theorem dX7_spread_48 : decode bX7_spread 48 = .ok (.aload_n 0, 1) := by decide +kernel
theorem dX7_spread_49 : decode bX7_spread 49 = .ok (.getfield 15, 3) := by decide +kernel
theorem dX7_spread_52 : decode bX7_spread 52 = .ok (.iload_n 1, 1) := by decide +kernel
theorem dX7_spread_53 : decode bX7_spread 53 = .ok (.iconst 1, 1) := by decide +kernel
theorem dX7_spread_54 : decode bX7_spread 54 = .ok (.iadd, 1) := by decide +kernel
theorem dX7_spread_55 : decode bX7_spread 55 = .ok (.iaload, 1) := by decide +kernel
theorem dX7_spread_56 : decode bX7_spread 56 = .ok (.iload_n 2, 1) := by decide +kernel
theorem dX7_spread_57 : decode bX7_spread 57 = .ok (.iadd, 1) := by decide +kernel
theorem dX7_spread_58 : decode bX7_spread 58 = .ok (.invokestatic 93, 3) := by decide +kernel
theorem dX7_spread_61 : decode bX7_spread 61 = .ok (.istore 7, 2) := by decide +kernel
theorem dX7_spread_63 : decode bX7_spread 63 = .ok (.iload 7, 2) := by decide +kernel
theorem dX7_spread_65 : decode bX7_spread 65 = .ok (.iload 4, 2) := by decide +kernel
theorem dX7_spread_67 : decode bX7_spread 67 = .ok (.if_icmp .gt 50, 3) := by decide +kernel
theorem dX7_spread_70 : decode bX7_spread 70 = .ok (.aload_n 0, 1) := by decide +kernel
theorem dX7_spread_71 : decode bX7_spread 71 = .ok (.getfield 11, 3) := by decide +kernel
theorem dX7_spread_74 : decode bX7_spread 74 = .ok (.iload 6, 2) := by decide +kernel
theorem dX7_spread_76 : decode bX7_spread 76 = .ok (.iload 7, 2) := by decide +kernel
theorem dX7_spread_78 : decode bX7_spread 78 = .ok (.iadd, 1) := by decide +kernel
theorem dX7_spread_79 : decode bX7_spread 79 = .ok (.iaload, 1) := by decide +kernel
theorem dX7_spread_80 : decode bX7_spread 80 = .ok (.iload_n 3, 1) := by decide +kernel
theorem dX7_spread_81 : decode bX7_spread 81 = .ok (.iadd, 1) := by decide +kernel
theorem dX7_spread_82 : decode bX7_spread 82 = .ok (.istore 8, 2) := by decide +kernel
theorem dX7_spread_84 : decode bX7_spread 84 = .ok (.iload 8, 2) := by decide +kernel
theorem dX7_spread_86 : decode bX7_spread 86 = .ok (.aload_n 0, 1) := by decide +kernel
theorem dX7_spread_87 : decode bX7_spread 87 = .ok (.getfield 11, 3) := by decide +kernel
theorem dX7_spread_90 : decode bX7_spread 90 = .ok (.iload 5, 2) := by decide +kernel
theorem dX7_spread_92 : decode bX7_spread 92 = .ok (.iload 7, 2) := by decide +kernel
theorem dX7_spread_94 : decode bX7_spread 94 = .ok (.iadd, 1) := by decide +kernel
theorem dX7_spread_95 : decode bX7_spread 95 = .ok (.iaload, 1) := by decide +kernel
theorem dX7_spread_96 : decode bX7_spread 96 = .ok (.if_icmp .ge 15, 3) := by decide +kernel
theorem dX7_spread_99 : decode bX7_spread 99 = .ok (.aload_n 0, 1) := by decide +kernel
theorem dX7_spread_100 : decode bX7_spread 100 = .ok (.getfield 11, 3) := by decide +kernel
theorem dX7_spread_103 : decode bX7_spread 103 = .ok (.iload 5, 2) := by decide +kernel
theorem dX7_spread_105 : decode bX7_spread 105 = .ok (.iload 7, 2) := by decide +kernel
theorem dX7_spread_107 : decode bX7_spread 107 = .ok (.iadd, 1) := by decide +kernel
theorem dX7_spread_108 : decode bX7_spread 108 = .ok (.iload 8, 2) := by decide +kernel
theorem dX7_spread_110 : decode bX7_spread 110 = .ok (.iastore, 1) := by decide +kernel
theorem dX7_spread_111 : decode bX7_spread 111 = .ok (.iinc 7 1, 3) := by decide +kernel
theorem dX7_spread_114 : decode bX7_spread 114 = .ok (.goto (-51), 3) := by decide +kernel
theorem dX7_spread_117 : decode bX7_spread 117 = .ok (.return_, 1) := by decide +kernel
section
variable {p : Program} {l : Launch} {e : Env} {s : State} {m : MethodId} {args : Array Value} {below : List Frame} {meth : Method} {c : Code} {G : GG} {n : Nat} {h' : Hp} {rv : Unit}
set_option maxHeartbeats 4000000
set_option maxRecDepth 100000
theorem j_X7_spread_63 (C0 : Cx p s m args meth c G bX7_spread RX7 9 none "spread") (hN : NX ≤ n) : ∀ (fu : Nat), ∀ {H : Heap} {locs : List Loc} {ls : Array Slot} {h : Hp} {x0 : Nat} {x3 : Int32} {x4 : Int32} {x5 : Int32} {x6 : Int32} {x7 : Int32}, XW G n h s 0 H locs → lv_has ls 9 [(0, .ref (bs G + x0)), (3, .int x3), (4, .int x4), (5, .int x5), (6, .int x6), (7, .int x7)] → kd x0 = 7 → f_X7_spread_63 fu h x0 x3 x4 x5 x6 x7 = some (rv, h') → W p l e (rmC 1 0 0) s m args below meth c H locs 0 0 (MQ below (QP G n h' none) args s 0 0 (Ab G)) (F0 m 63 ls []) := by
  obtain ⟨hx, hb, hr, hml, hown, hts, hK, hlocks, hnm⟩ := id C0
  intro fu
  induction fu with
  | zero => intro H locs ls h x0 x3 x4 x5 x6 x7 X hl o0 hf; cases hf
  | succ fu ih =>
    intro H locs ls h x0 x3 x4 x5 x6 x7 X hl o0 hf
    rw [f_X7_spread_63] at hf
    refine lv_iload hx hb dX7_spread_63 (lv_at hl 5 rfl) ?_
    refine lv_iload hx hb dX7_spread_65 (lv_at hl 2 rfl) ?_
    refine lv_icmp_gt (tgt := 117) hx hb dX7_spread_67 (by decide) (fun c67 => ?_) (fun c67 => ?_)
    · have hf := ite_t hf c67
      exact r_V hx hb hr hlocks X hf dX7_spread_117
    · have hf := ite_f hf c67
      refine lv_aload_n hx hb dX7_spread_70 rfl (lv_at hl 0 rfl) ?_
      obtain ⟨g1, hf⟩ := gd_e hf
      refine g_R hx hb hts hown hK X o0 hN g1 fl_X7_11 (by decide) rfl (by decide) dX7_spread_71 ?_
      refine lv_iload hx hb dX7_spread_74 (lv_at hl 4 rfl) ?_
      refine lv_iload hx hb dX7_spread_76 (lv_at hl 5 rfl) ?_
      refine lv_iadd hx hb dX7_spread_78 ?_
      obtain ⟨g2, hf⟩ := gd_e hf
      refine g_ia hx hb hK X g1 hN g2 (by decide) dX7_spread_79 ?_
      refine lv_iload_n hx hb dX7_spread_80 rfl (lv_at hl 1 rfl) ?_
      refine lv_iadd hx hb dX7_spread_81 ?_
      refine lv_istore (lv' := [(8, .int ((h.1 (h.2 x0 4) (x6 + x7).toNatClampNeg) + x3)), (0, .ref (bs G + x0)), (3, .int x3), (4, .int x4), (5, .int x5), (6, .int x6), (7, .int x7)]) hx hb dX7_spread_82 hl (by decide) rfl (fun ls hl => ?_)
      refine lv_iload hx hb dX7_spread_84 (lv_at hl 0 rfl) ?_
      refine lv_aload_n hx hb dX7_spread_86 rfl (lv_at hl 1 rfl) ?_
      obtain ⟨g3, hf⟩ := gd_e hf
      refine g_R hx hb hts hown hK X o0 hN g3 fl_X7_11 (by decide) rfl (by decide) dX7_spread_87 ?_
      refine lv_iload hx hb dX7_spread_90 (lv_at hl 4 rfl) ?_
      refine lv_iload hx hb dX7_spread_92 (lv_at hl 6 rfl) ?_
      refine lv_iadd hx hb dX7_spread_94 ?_
      obtain ⟨g4, hf⟩ := gd_e hf
      refine g_ia hx hb hK X g3 hN g4 (by decide) dX7_spread_95 ?_
      refine lv_icmp_ge (tgt := 111) hx hb dX7_spread_96 (by decide) (fun c96 => ?_) (fun c96 => ?_)
      · have hf := ite_t hf c96
        refine lv_iinc (v := (x7 + (1 : Int32))) (lv' := [(7, .int (x7 + (1 : Int32))), (8, .int ((h.1 (h.2 x0 4) (x6 + x7).toNatClampNeg) + x3)), (0, .ref (bs G + x0)), (3, .int x3), (4, .int x4), (5, .int x5), (6, .int x6)]) hx hb dX7_spread_111 hl (k := 6) rfl rfl (by decide) rfl (fun ls hl => ?_)
        refine lv_goto (tgt := 63) hx hb dX7_spread_114 (by decide) ?_
        exact ih X (lv_sub hl [2, 3, 4, 5, 6, 0] rfl) o0 hf
      · have hf := ite_f hf c96
        refine lv_aload_n hx hb dX7_spread_99 rfl (lv_at hl 1 rfl) ?_
        obtain ⟨g5, hf⟩ := gd_e hf
        refine g_R hx hb hts hown hK X o0 hN g5 fl_X7_11 (by decide) rfl (by decide) dX7_spread_100 ?_
        refine lv_iload hx hb dX7_spread_103 (lv_at hl 4 rfl) ?_
        refine lv_iload hx hb dX7_spread_105 (lv_at hl 6 rfl) ?_
        refine lv_iadd hx hb dX7_spread_107 ?_
        refine lv_iload hx hb dX7_spread_108 (lv_at hl 0 rfl) ?_
        obtain ⟨g6, hf⟩ := gd_e hf
        refine g_is hx hb hK X g5 hN g6 (by decide) dX7_spread_110 (fun H locs X => ?_)
        obtain ⟨h7, e8, hf⟩ := lt_e hf
        rw [← e8] at X
        refine lv_iinc (v := (x7 + (1 : Int32))) (lv' := [(7, .int (x7 + (1 : Int32))), (8, .int ((h.1 (h.2 x0 4) (x6 + x7).toNatClampNeg) + x3)), (0, .ref (bs G + x0)), (3, .int x3), (4, .int x4), (5, .int x5), (6, .int x6)]) hx hb dX7_spread_111 hl (k := 6) rfl rfl (by decide) rfl (fun ls hl => ?_)
        refine lv_goto (tgt := 63) hx hb dX7_spread_114 (by decide) ?_
        exact ih X (lv_sub hl [2, 3, 4, 5, 6, 0] rfl) o0 hf
theorem k_X7_spread (l : Launch) (G : GG) (n : Nat) (hN : NX ≤ n) {h h' : Hp} {x0 : Nat} {x1 : Int32} {x2 : Int32} {x3 : Int32} {rv : Unit} (hf : f_X7_spread h x0 x1 x2 x3 = some (rv, h')) : CT l G n n yX7_spread (.code yX7_spread bX7_spread 9 none) 1 0 0 [.ref (bs G + x0), .int x1, .int x2, .int x3] h h' none := by
  refine ct_of (maxL := 9) (ret := none) (bytes := bX7_spread) (by decide) (Nat.le_of_ble_eq_true rfl) (fun p e s m below meth c C0 X ls hl => ?_)
  have hl : lv_has ls 9 [(0, .ref (bs G + x0)), (1, .int x1), (2, .int x2), (3, .int x3)] := hl
  obtain ⟨hx, hb, hr, hml, hown, hts, hK, hlocks, hnm⟩ := id C0
  unfold f_X7_spread at hf
  obtain ⟨o0, hf⟩ := gd_e hf
  refine lv_aload_n hx hb dX7_spread_0 rfl (lv_at hl 0 rfl) ?_
  obtain ⟨g1, hf⟩ := gd_e hf
  refine g_R hx hb hts hown hK X o0 hN g1 fl_X7_18 (by decide) rfl (by decide) dX7_spread_1 ?_
  refine lv_iload_n hx hb dX7_spread_4 rfl (lv_at hl 1 rfl) ?_
  obtain ⟨g2, hf⟩ := gd_e hf
  refine g_ia hx hb hK X g1 hN g2 (by decide) dX7_spread_5 ?_
  refine lv_aload_n hx hb dX7_spread_6 rfl (lv_at hl 0 rfl) ?_
  obtain ⟨g3, hf⟩ := gd_e hf
  refine g_R hx hb hts hown hK X o0 hN g3 fl_X7_18 (by decide) rfl (by decide) dX7_spread_7 ?_
  refine lv_iload_n hx hb dX7_spread_10 rfl (lv_at hl 1 rfl) ?_
  refine lv_iconst (v := (1 : Int32)) hx hb dX7_spread_11 (by decide) ?_
  refine lv_iadd hx hb dX7_spread_12 ?_
  obtain ⟨g4, hf⟩ := gd_e hf
  refine g_ia hx hb hK X g3 hN g4 (by decide) dX7_spread_13 ?_
  refine lv_iload_n hx hb dX7_spread_14 rfl (lv_at hl 2 rfl) ?_
  refine lv_iadd hx hb dX7_spread_15 ?_
  refine g_mmin hx hb (hml.trans hl.1.symm) hown hts lm_X7_98 (by decide) (Nat.le_of_ble_eq_true rfl) dX7_spread_16 ?_
  refine lv_istore (lv' := [(4, .int (if ((h.1 (h.2 x0 6) (x1 + (1 : Int32)).toNatClampNeg) + x2) < (h.1 (h.2 x0 6) x1.toNatClampNeg) then ((h.1 (h.2 x0 6) (x1 + (1 : Int32)).toNatClampNeg) + x2) else (h.1 (h.2 x0 6) x1.toNatClampNeg))), (0, .ref (bs G + x0)), (1, .int x1), (2, .int x2), (3, .int x3)]) hx hb dX7_spread_19 hl (by decide) rfl (fun ls hl => ?_)
  refine lv_iload_n hx hb dX7_spread_21 rfl (lv_at hl 2 rfl) ?_
  refine lv_sipush (v := (601 : Int32)) hx hb dX7_spread_22 (by decide) ?_
  refine lv_imul hx hb dX7_spread_25 ?_
  refine lv_sipush (v := (300 : Int32)) hx hb dX7_spread_26 (by decide) ?_
  refine lv_iadd hx hb dX7_spread_29 ?_
  refine lv_istore (lv' := [(5, .int ((x1 * (601 : Int32)) + (300 : Int32))), (4, .int (if ((h.1 (h.2 x0 6) (x1 + (1 : Int32)).toNatClampNeg) + x2) < (h.1 (h.2 x0 6) x1.toNatClampNeg) then ((h.1 (h.2 x0 6) (x1 + (1 : Int32)).toNatClampNeg) + x2) else (h.1 (h.2 x0 6) x1.toNatClampNeg))), (0, .ref (bs G + x0)), (1, .int x1), (2, .int x2), (3, .int x3)]) hx hb dX7_spread_30 hl (by decide) rfl (fun ls hl => ?_)
  refine lv_iload hx hb dX7_spread_32 (lv_at hl 0 rfl) ?_
  refine lv_sipush (v := (601 : Int32)) hx hb dX7_spread_34 (by decide) ?_
  refine lv_iadd hx hb dX7_spread_37 ?_
  refine lv_iload_n hx hb dX7_spread_38 rfl (lv_at hl 4 rfl) ?_
  refine lv_isub hx hb dX7_spread_39 ?_
  refine lv_istore (lv' := [(6, .int ((((x1 * (601 : Int32)) + (300 : Int32)) + (601 : Int32)) - x2)), (5, .int ((x1 * (601 : Int32)) + (300 : Int32))), (4, .int (if ((h.1 (h.2 x0 6) (x1 + (1 : Int32)).toNatClampNeg) + x2) < (h.1 (h.2 x0 6) x1.toNatClampNeg) then ((h.1 (h.2 x0 6) (x1 + (1 : Int32)).toNatClampNeg) + x2) else (h.1 (h.2 x0 6) x1.toNatClampNeg))), (0, .ref (bs G + x0)), (1, .int x1), (2, .int x2), (3, .int x3)]) hx hb dX7_spread_40 hl (by decide) rfl (fun ls hl => ?_)
  refine lv_aload_n hx hb dX7_spread_42 rfl (lv_at hl 3 rfl) ?_
  obtain ⟨g5, hf⟩ := gd_e hf
  refine g_R hx hb hts hown hK X o0 hN g5 fl_X7_15 (by decide) rfl (by decide) dX7_spread_43 ?_
  refine lv_iload_n hx hb dX7_spread_46 rfl (lv_at hl 4 rfl) ?_
  obtain ⟨g6, hf⟩ := gd_e hf
  refine g_ia hx hb hK X g5 hN g6 (by decide) dX7_spread_47 ?_
  refine lv_aload_n hx hb dX7_spread_48 rfl (lv_at hl 3 rfl) ?_
  obtain ⟨g7, hf⟩ := gd_e hf
  refine g_R hx hb hts hown hK X o0 hN g7 fl_X7_15 (by decide) rfl (by decide) dX7_spread_49 ?_
  refine lv_iload_n hx hb dX7_spread_52 rfl (lv_at hl 4 rfl) ?_
  refine lv_iconst (v := (1 : Int32)) hx hb dX7_spread_53 (by decide) ?_
  refine lv_iadd hx hb dX7_spread_54 ?_
  obtain ⟨g8, hf⟩ := gd_e hf
  refine g_ia hx hb hK X g7 hN g8 (by decide) dX7_spread_55 ?_
  refine lv_iload_n hx hb dX7_spread_56 rfl (lv_at hl 5 rfl) ?_
  refine lv_iadd hx hb dX7_spread_57 ?_
  refine g_mmax hx hb (hml.trans hl.1.symm) hown hts lm_X7_93 (by decide) (Nat.le_of_ble_eq_true rfl) dX7_spread_58 ?_
  refine lv_istore (lv' := [(7, .int (if (h.1 (h.2 x0 5) x1.toNatClampNeg) < ((h.1 (h.2 x0 5) (x1 + (1 : Int32)).toNatClampNeg) + x2) then ((h.1 (h.2 x0 5) (x1 + (1 : Int32)).toNatClampNeg) + x2) else (h.1 (h.2 x0 5) x1.toNatClampNeg))), (6, .int ((((x1 * (601 : Int32)) + (300 : Int32)) + (601 : Int32)) - x2)), (5, .int ((x1 * (601 : Int32)) + (300 : Int32))), (4, .int (if ((h.1 (h.2 x0 6) (x1 + (1 : Int32)).toNatClampNeg) + x2) < (h.1 (h.2 x0 6) x1.toNatClampNeg) then ((h.1 (h.2 x0 6) (x1 + (1 : Int32)).toNatClampNeg) + x2) else (h.1 (h.2 x0 6) x1.toNatClampNeg))), (0, .ref (bs G + x0)), (1, .int x1), (2, .int x2), (3, .int x3)]) hx hb dX7_spread_61 hl (by decide) rfl (fun ls hl => ?_)
  exact j_X7_spread_63 C0 hN FU X (lv_sub hl [4, 7, 3, 2, 1, 0] rfl) o0 hf
end
theorem dX7_weight_0 : decode bX7_weight 0 = .ok (.sipush 1000, 3) := by decide +kernel
theorem dX7_weight_3 : decode bX7_weight 3 = .ok (.aload_n 0, 1) := by decide +kernel
theorem dX7_weight_4 : decode bX7_weight 4 = .ok (.getfield 24, 3) := by decide +kernel
theorem dX7_weight_7 : decode bX7_weight 7 = .ok (.iload_n 2, 1) := by decide +kernel
theorem dX7_weight_8 : decode bX7_weight 8 = .ok (.bipush 25, 2) := by decide +kernel
theorem dX7_weight_10 : decode bX7_weight 10 = .ok (.imul, 1) := by decide +kernel
theorem dX7_weight_11 : decode bX7_weight 11 = .ok (.iload_n 1, 1) := by decide +kernel
theorem dX7_weight_12 : decode bX7_weight 12 = .ok (.iadd, 1) := by decide +kernel
theorem dX7_weight_13 : decode bX7_weight 13 = .ok (.iaload, 1) := by decide +kernel
theorem dX7_weight_14 : decode bX7_weight 14 = .ok (.iadd, 1) := by decide +kernel
theorem dX7_weight_15 : decode bX7_weight 15 = .ok (.ireturn, 1) := by decide +kernel
section
variable {p : Program} {l : Launch} {e : Env} {s : State} {m : MethodId} {args : Array Value} {below : List Frame} {meth : Method} {c : Code} {G : GG} {n : Nat} {h' : Hp} {rv : Int32}
set_option maxHeartbeats 4000000
set_option maxRecDepth 100000
theorem k_X7_weight (l : Launch) (G : GG) (n : Nat) (hN : NX ≤ n) {h h' : Hp} {x0 : Nat} {x1 : Int32} {x2 : Int32} {rv : Int32} (hf : f_X7_weight h x0 x1 x2 = some (rv, h')) : CT l G n n yX7_weight (.code yX7_weight bX7_weight 3 (some .int)) 0 0 0 [.ref (bs G + x0), .int x1, .int x2] h h' (some (.int rv)) := by
  refine ct_of (maxL := 3) (ret := (some .int)) (bytes := bX7_weight) (by decide) (Nat.le_of_ble_eq_true rfl) (fun p e s m below meth c C0 X ls hl => ?_)
  have hl : lv_has ls 3 [(0, .ref (bs G + x0)), (1, .int x1), (2, .int x2)] := hl
  obtain ⟨hx, hb, hr, hml, hown, hts, hK, hlocks, hnm⟩ := id C0
  unfold f_X7_weight at hf
  obtain ⟨o0, hf⟩ := gd_e hf
  refine lv_sipush (v := (1000 : Int32)) hx hb dX7_weight_0 (by decide) ?_
  refine lv_aload_n hx hb dX7_weight_3 rfl (lv_at hl 0 rfl) ?_
  obtain ⟨g1, hf⟩ := gd_e hf
  refine g_R hx hb hts hown hK X o0 hN g1 fl_X7_24 (by decide) rfl (by decide) dX7_weight_4 ?_
  refine lv_iload_n hx hb dX7_weight_7 rfl (lv_at hl 2 rfl) ?_
  refine lv_bipush (v := (25 : Int32)) hx hb dX7_weight_8 (by decide) ?_
  refine lv_imul hx hb dX7_weight_10 ?_
  refine lv_iload_n hx hb dX7_weight_11 rfl (lv_at hl 1 rfl) ?_
  refine lv_iadd hx hb dX7_weight_12 ?_
  obtain ⟨g2, hf⟩ := gd_e hf
  refine g_ia hx hb hK X g1 hN g2 (by decide) dX7_weight_13 ?_
  refine lv_iadd hx hb dX7_weight_14 ?_
  exact r_I hx hb hr hlocks X hf dX7_weight_15
end
theorem dX7_build_0 : decode bX7_build 0 = .ok (.iload_n 2, 1) := by decide +kernel
theorem dX7_build_1 : decode bX7_build 1 = .ok (.aload_n 0, 1) := by decide +kernel
theorem dX7_build_2 : decode bX7_build 2 = .ok (.getfield 27, 3) := by decide +kernel
theorem dX7_build_5 : decode bX7_build 5 = .ok (.if_icmp .ne 12, 3) := by decide +kernel
theorem dX7_build_8 : decode bX7_build 8 = .ok (.iload_n 1, 1) := by decide +kernel
theorem dX7_build_9 : decode bX7_build 9 = .ok (.aload_n 0, 1) := by decide +kernel
theorem dX7_build_10 : decode bX7_build 10 = .ok (.getfield 37, 3) := by decide +kernel
theorem dX7_build_13 : decode bX7_build 13 = .ok (.if_icmp .ne 4, 3) := by decide +kernel
theorem dX7_build_16 : decode bX7_build 16 = .ok (.return_, 1) := by decide +kernel
theorem dX7_build_17 : decode bX7_build 17 = .ok (.aload_n 0, 1) := by decide +kernel
theorem dX7_build_18 : decode bX7_build 18 = .ok (.iload_n 2, 1) := by decide +kernel
theorem dX7_build_19 : decode bX7_build 19 = .ok (.putfield 27, 3) := by decide +kernel
theorem dX7_build_22 : decode bX7_build 22 = .ok (.aload_n 0, 1) := by decide +kernel
theorem dX7_build_23 : decode bX7_build 23 = .ok (.iload_n 1, 1) := by decide +kernel
theorem dX7_build_24 : decode bX7_build 24 = .ok (.putfield 37, 3) := by decide +kernel
theorem dX7_build_27 : decode bX7_build 27 = .ok (.aload_n 0, 1) := by decide +kernel
theorem dX7_build_28 : decode bX7_build 28 = .ok (.invokevirtual 40, 3) := by decide +kernel
theorem dX7_build_31 : decode bX7_build 31 = .ok (.aload_n 0, 1) := by decide +kernel
theorem dX7_build_32 : decode bX7_build 32 = .ok (.invokevirtual 43, 3) := by decide +kernel
theorem dX7_build_35 : decode bX7_build 35 = .ok (.aload_n 0, 1) := by decide +kernel
theorem dX7_build_36 : decode bX7_build 36 = .ok (.getfield 11, 3) := by decide +kernel
theorem dX7_build_39 : decode bX7_build 39 = .ok (.aload_n 0, 1) := by decide +kernel
theorem dX7_build_40 : decode bX7_build 40 = .ok (.getfield 46, 3) := by decide +kernel
theorem dX7_build_43 : decode bX7_build 43 = .ok (.sipush 601, 3) := by decide +kernel
theorem dX7_build_46 : decode bX7_build 46 = .ok (.imul, 1) := by decide +kernel
theorem dX7_build_47 : decode bX7_build 47 = .ok (.sipush 300, 3) := by decide +kernel
theorem dX7_build_50 : decode bX7_build 50 = .ok (.iadd, 1) := by decide +kernel
theorem dX7_build_51 : decode bX7_build 51 = .ok (.iconst 0, 1) := by decide +kernel
theorem dX7_build_52 : decode bX7_build 52 = .ok (.iastore, 1) := by decide +kernel
theorem dX7_build_53 : decode bX7_build 53 = .ok (.aload_n 0, 1) := by decide +kernel
theorem dX7_build_54 : decode bX7_build 54 = .ok (.getfield 46, 3) := by decide +kernel
theorem dX7_build_57 : decode bX7_build 57 = .ok (.iconst 1, 1) := by decide +kernel
theorem dX7_build_58 : decode bX7_build 58 = .ok (.isub, 1) := by decide +kernel
theorem dX7_build_59 : decode bX7_build 59 = .ok (.istore_n 3, 1) := by decide +kernel
theorem dX7_build_60 : decode bX7_build 60 = .ok (.iload_n 3, 1) := by decide +kernel
theorem dX7_build_61 : decode bX7_build 61 = .ok (.ifCond .lt 116, 3) := by decide +kernel
theorem dX7_build_64 : decode bX7_build 64 = .ok (.aload_n 0, 1) := by decide +kernel
theorem dX7_build_65 : decode bX7_build 65 = .ok (.getfield 15, 3) := by decide +kernel
theorem dX7_build_68 : decode bX7_build 68 = .ok (.iload_n 3, 1) := by decide +kernel
theorem dX7_build_69 : decode bX7_build 69 = .ok (.iaload, 1) := by decide +kernel
theorem dX7_build_70 : decode bX7_build 70 = .ok (.istore 4, 2) := by decide +kernel
theorem dX7_build_72 : decode bX7_build 72 = .ok (.iload 4, 2) := by decide +kernel
theorem dX7_build_74 : decode bX7_build 74 = .ok (.aload_n 0, 1) := by decide +kernel
theorem dX7_build_75 : decode bX7_build 75 = .ok (.getfield 18, 3) := by decide +kernel
theorem dX7_build_78 : decode bX7_build 78 = .ok (.iload_n 3, 1) := by decide +kernel
theorem dX7_build_79 : decode bX7_build 79 = .ok (.iaload, 1) := by decide +kernel
theorem dX7_build_80 : decode bX7_build 80 = .ok (.if_icmp .gt 28, 3) := by decide +kernel
theorem dX7_build_83 : decode bX7_build 83 = .ok (.aload_n 0, 1) := by decide +kernel
theorem dX7_build_84 : decode bX7_build 84 = .ok (.getfield 11, 3) := by decide +kernel
theorem dX7_build_87 : decode bX7_build 87 = .ok (.iload_n 3, 1) := by decide +kernel
theorem dX7_build_88 : decode bX7_build 88 = .ok (.sipush 601, 3) := by decide +kernel
theorem dX7_build_91 : decode bX7_build 91 = .ok (.imul, 1) := by decide +kernel
theorem dX7_build_92 : decode bX7_build 92 = .ok (.sipush 300, 3) := by decide +kernel
theorem dX7_build_95 : decode bX7_build 95 = .ok (.iadd, 1) := by decide +kernel
theorem dX7_build_96 : decode bX7_build 96 = .ok (.iload 4, 2) := by decide +kernel
theorem dX7_build_98 : decode bX7_build 98 = .ok (.iadd, 1) := by decide +kernel
theorem dX7_build_99 : decode bX7_build 99 = .ok (.ldc 49, 2) := by decide +kernel
theorem dX7_build_101 : decode bX7_build 101 = .ok (.iastore, 1) := by decide +kernel
theorem dX7_build_102 : decode bX7_build 102 = .ok (.iinc 4 1, 3) := by decide +kernel
theorem dX7_build_105 : decode bX7_build 105 = .ok (.goto (-33), 3) := by decide +kernel
theorem dX7_build_108 : decode bX7_build 108 = .ok (.aload_n 0, 1) := by decide +kernel
theorem dX7_build_109 : decode bX7_build 109 = .ok (.iload_n 3, 1) := by decide +kernel
theorem dX7_build_110 : decode bX7_build 110 = .ok (.iconst 0, 1) := by decide +kernel
theorem dX7_build_111 : decode bX7_build 111 = .ok (.iconst 0, 1) := by decide +kernel
theorem dX7_build_112 : decode bX7_build 112 = .ok (.invokevirtual 50, 3) := by decide +kernel
theorem dX7_build_115 : decode bX7_build 115 = .ok (.aload_n 0, 1) := by decide +kernel
theorem dX7_build_116 : decode bX7_build 116 = .ok (.getfield 21, 3) := by decide +kernel
theorem dX7_build_119 : decode bX7_build 119 = .ok (.iload_n 3, 1) := by decide +kernel
theorem dX7_build_120 : decode bX7_build 120 = .ok (.iaload, 1) := by decide +kernel
theorem dX7_build_121 : decode bX7_build 121 = .ok (.istore 4, 2) := by decide +kernel
theorem dX7_build_123 : decode bX7_build 123 = .ok (.iconst 1, 1) := by decide +kernel
theorem dX7_build_124 : decode bX7_build 124 = .ok (.istore 5, 2) := by decide +kernel
theorem dX7_build_126 : decode bX7_build 126 = .ok (.iload 5, 2) := by decide +kernel
theorem dX7_build_128 : decode bX7_build 128 = .ok (.iload_n 2, 1) := by decide +kernel
theorem dX7_build_129 : decode bX7_build 129 = .ok (.invokestatic 54, 3) := by decide +kernel
theorem dX7_build_132 : decode bX7_build 132 = .ok (.if_icmp .gt 39, 3) := by decide +kernel
theorem dX7_build_135 : decode bX7_build 135 = .ok (.iload 4, 2) := by decide +kernel
theorem dX7_build_137 : decode bX7_build 137 = .ok (.iload 5, 2) := by decide +kernel
theorem dX7_build_139 : decode bX7_build 139 = .ok (.invokestatic 58, 3) := by decide +kernel
theorem dX7_build_142 : decode bX7_build 142 = .ok (.ifCond .eq 23, 3) := by decide +kernel
theorem dX7_build_145 : decode bX7_build 145 = .ok (.aload_n 0, 1) := by decide +kernel
theorem dX7_build_146 : decode bX7_build 146 = .ok (.iload_n 3, 1) := by decide +kernel
theorem dX7_build_147 : decode bX7_build 147 = .ok (.iload 4, 2) := by decide +kernel
theorem dX7_build_149 : decode bX7_build 149 = .ok (.iload 5, 2) := by decide +kernel
theorem dX7_build_151 : decode bX7_build 151 = .ok (.invokestatic 62, 3) := by decide +kernel
theorem dX7_build_154 : decode bX7_build 154 = .ok (.aload_n 0, 1) := by decide +kernel
theorem dX7_build_155 : decode bX7_build 155 = .ok (.iload 4, 2) := by decide +kernel
theorem dX7_build_157 : decode bX7_build 157 = .ok (.iload 5, 2) := by decide +kernel
theorem dX7_build_159 : decode bX7_build 159 = .ok (.invokevirtual 65, 3) := by decide +kernel
theorem dX7_build_162 : decode bX7_build 162 = .ok (.invokevirtual 50, 3) := by decide +kernel
theorem dX7_build_165 : decode bX7_build 165 = .ok (.iinc 5 1, 3) := by decide +kernel
theorem dX7_build_168 : decode bX7_build 168 = .ok (.goto (-42), 3) := by decide +kernel
theorem dX7_build_171 : decode bX7_build 171 = .ok (.iinc 3 (-1), 3) := by decide +kernel
theorem dX7_build_174 : decode bX7_build 174 = .ok (.goto (-114), 3) := by decide +kernel
theorem dX7_build_177 : decode bX7_build 177 = .ok (.return_, 1) := by decide +kernel
section
variable {p : Program} {l : Launch} {e : Env} {s : State} {m : MethodId} {args : Array Value} {below : List Frame} {meth : Method} {c : Code} {G : GG} {n : Nat} {h' : Hp} {rv : Unit}
set_option maxHeartbeats 4000000
set_option maxRecDepth 100000
theorem j_X7_build_126 (C0 : Cx p s m args meth c G bX7_build RX7 6 none "build") (hN : NX ≤ n) {k60 : Hp → Nat → Int32 → Int32 → Option (Unit × Hp)} (ih60 : ∀ {H : Heap} {locs : List Loc} {ls : Array Slot} {h : Hp} {x0 : Nat} {x2 : Int32} {x3 : Int32}, XW G n h s 0 H locs → lv_has ls 6 [(0, .ref (bs G + x0)), (2, .int x2), (3, .int x3)] → kd x0 = 7 → k60 h x0 x2 x3 = some (rv, h') → W p l e (rmC 2 0 0) s m args below meth c H locs 0 0 (MQ below (QP G n h' none) args s 0 0 (Ab G)) (F0 m 60 ls [])) : ∀ (fu : Nat), ∀ {H : Heap} {locs : List Loc} {ls : Array Slot} {h : Hp} {x0 : Nat} {x2 : Int32} {x3 : Int32} {x4 : Int32} {x5 : Int32}, XW G n h s 0 H locs → lv_has ls 6 [(0, .ref (bs G + x0)), (2, .int x2), (3, .int x3), (4, .int x4), (5, .int x5)] → kd x0 = 7 → f_X7_build_126 k60 fu h x0 x2 x3 x4 x5 = some (rv, h') → W p l e (rmC 2 0 0) s m args below meth c H locs 0 0 (MQ below (QP G n h' none) args s 0 0 (Ab G)) (F0 m 126 ls []) := by
  obtain ⟨hx, hb, hr, hml, hown, hts, hK, hlocks, hnm⟩ := id C0
  intro fu
  induction fu with
  | zero => intro H locs ls h x0 x2 x3 x4 x5 X hl o0 hf; cases hf
  | succ fu ih =>
    intro H locs ls h x0 x2 x3 x4 x5 X hl o0 hf
    rw [f_X7_build_126] at hf
    refine lv_iload hx hb dX7_build_126 (lv_at hl 4 rfl) ?_
    refine lv_iload_n hx hb dX7_build_128 rfl (lv_at hl 1 rfl) ?_
    obtain ⟨r1, h2, q3, hf⟩ := bd_e hf
    refine c_SN0 (As := [.int x2]) (rest := [.int x5]) (st1 := [.int r1, .int x5]) hx hb hml hown hts hK X (k_X11_lastUse l G n hN q3) lc_X11_lastUse ls_X7_54 (by decide) rfl hl.1 (Nat.le_of_ble_eq_true rfl) dX7_build_129 rfl (fun H locs X => ?_)
    refine lv_icmp_gt (tgt := 171) hx hb dX7_build_132 (by decide) (fun c132 => ?_) (fun c132 => ?_)
    · have hf := ite_t hf c132
      refine lv_iinc (v := (x3 + (-1 : Int32))) (lv' := [(3, .int (x3 + (-1 : Int32))), (0, .ref (bs G + x0)), (2, .int x2), (4, .int x4), (5, .int x5)]) hx hb dX7_build_171 hl (k := 2) rfl rfl (by decide) rfl (fun ls hl => ?_)
      refine lv_goto (tgt := 60) hx hb dX7_build_174 (by decide) ?_
      exact ih60 X (lv_sub hl [1, 2, 0] rfl) o0 hf
    · have hf := ite_f hf c132
      refine lv_iload hx hb dX7_build_135 (lv_at hl 3 rfl) ?_
      refine lv_iload hx hb dX7_build_137 (lv_at hl 4 rfl) ?_
      obtain ⟨r4, h5, q6, hf⟩ := bd_e hf
      refine c_SN0 (As := [.int x4, .int x5]) (rest := []) (st1 := [.int r4]) hx hb hml hown hts hK X (k_X11_canStand l G n hN q6) lc_X11_canStand ls_X7_58 (by decide) rfl hl.1 (Nat.le_of_ble_eq_true rfl) dX7_build_139 rfl (fun H locs X => ?_)
      refine lv_if_eq (tgt := 165) hx hb dX7_build_142 (by decide) (fun c142 => ?_) (fun c142 => ?_)
      · have hf := ite_t hf c142
        refine lv_iinc (v := (x5 + (1 : Int32))) (lv' := [(5, .int (x5 + (1 : Int32))), (0, .ref (bs G + x0)), (2, .int x2), (3, .int x3), (4, .int x4)]) hx hb dX7_build_165 hl (k := 4) rfl rfl (by decide) rfl (fun ls hl => ?_)
        refine lv_goto (tgt := 126) hx hb dX7_build_168 (by decide) ?_
        exact ih X (lv_sub hl [1, 2, 3, 4, 0] rfl) o0 hf
      · have hf := ite_f hf c142
        refine lv_aload_n hx hb dX7_build_145 rfl (lv_at hl 0 rfl) ?_
        refine lv_iload_n hx hb dX7_build_146 rfl (lv_at hl 2 rfl) ?_
        refine lv_iload hx hb dX7_build_147 (lv_at hl 3 rfl) ?_
        refine lv_iload hx hb dX7_build_149 (lv_at hl 4 rfl) ?_
        obtain ⟨r7, h8, q9, hf⟩ := bd_e hf
        refine c_SN0 (As := [.int x4, .int x5]) (rest := [.int x3, .ref (bs G + x0)]) (st1 := [.int r7, .int x3, .ref (bs G + x0)]) hx hb hml hown hts hK X (k_X11_countsAs l G n hN q9) lc_X11_countsAs ls_X7_62 (by decide) rfl hl.1 (Nat.le_of_ble_eq_true rfl) dX7_build_151 rfl (fun H locs X => ?_)
        refine lv_aload_n hx hb dX7_build_154 rfl (lv_at hl 0 rfl) ?_
        refine lv_iload hx hb dX7_build_155 (lv_at hl 3 rfl) ?_
        refine lv_iload hx hb dX7_build_157 (lv_at hl 4 rfl) ?_
        obtain ⟨r10, h11, q12, hf⟩ := bd_e hf
        refine c_V0 (As := [.int x4, .int x5]) (rest := [.int r7, .int x3, .ref (bs G + x0)]) (st1 := [.int r10, .int r7, .int x3, .ref (bs G + x0)]) hx hb hml hown hts hK X (k_X7_weight l G n hN q12) o0 hN lc_X7_weight lv_X7_65 (ci := 7) rfl rfl (by decide) rfl hl.1 (Nat.le_of_ble_eq_true rfl) dX7_build_159 rfl (fun H locs X => ?_)
        obtain ⟨r13, h14, q15, hf⟩ := bd_e hf
        refine c_V0 (As := [.int x3, .int r7, .int r10]) (rest := []) (st1 := []) hx hb hml hown hts hK X (k_X7_spread l G n hN q15) o0 hN lc_X7_spread lv_X7_50 (ci := 7) rfl rfl (by decide) rfl hl.1 (Nat.le_of_ble_eq_true rfl) dX7_build_162 rfl (fun H locs X => ?_)
        refine lv_iinc (v := (x5 + (1 : Int32))) (lv' := [(5, .int (x5 + (1 : Int32))), (0, .ref (bs G + x0)), (2, .int x2), (3, .int x3), (4, .int x4)]) hx hb dX7_build_165 hl (k := 4) rfl rfl (by decide) rfl (fun ls hl => ?_)
        refine lv_goto (tgt := 126) hx hb dX7_build_168 (by decide) ?_
        exact ih X (lv_sub hl [1, 2, 3, 4, 0] rfl) o0 hf
theorem j_X7_build_72 (C0 : Cx p s m args meth c G bX7_build RX7 6 none "build") (hN : NX ≤ n) {k60 : Hp → Nat → Int32 → Int32 → Option (Unit × Hp)} (ih60 : ∀ {H : Heap} {locs : List Loc} {ls : Array Slot} {h : Hp} {x0 : Nat} {x2 : Int32} {x3 : Int32}, XW G n h s 0 H locs → lv_has ls 6 [(0, .ref (bs G + x0)), (2, .int x2), (3, .int x3)] → kd x0 = 7 → k60 h x0 x2 x3 = some (rv, h') → W p l e (rmC 2 0 0) s m args below meth c H locs 0 0 (MQ below (QP G n h' none) args s 0 0 (Ab G)) (F0 m 60 ls [])) : ∀ (fu : Nat), ∀ {H : Heap} {locs : List Loc} {ls : Array Slot} {h : Hp} {x0 : Nat} {x2 : Int32} {x3 : Int32} {x4 : Int32}, XW G n h s 0 H locs → lv_has ls 6 [(0, .ref (bs G + x0)), (2, .int x2), (3, .int x3), (4, .int x4)] → kd x0 = 7 → f_X7_build_72 k60 fu h x0 x2 x3 x4 = some (rv, h') → W p l e (rmC 2 0 0) s m args below meth c H locs 0 0 (MQ below (QP G n h' none) args s 0 0 (Ab G)) (F0 m 72 ls []) := by
  obtain ⟨hx, hb, hr, hml, hown, hts, hK, hlocks, hnm⟩ := id C0
  intro fu
  induction fu with
  | zero => intro H locs ls h x0 x2 x3 x4 X hl o0 hf; cases hf
  | succ fu ih =>
    intro H locs ls h x0 x2 x3 x4 X hl o0 hf
    rw [f_X7_build_72] at hf
    refine lv_iload hx hb dX7_build_72 (lv_at hl 3 rfl) ?_
    refine lv_aload_n hx hb dX7_build_74 rfl (lv_at hl 0 rfl) ?_
    obtain ⟨g1, hf⟩ := gd_e hf
    refine g_R hx hb hts hown hK X o0 hN g1 fl_X7_18 (by decide) rfl (by decide) dX7_build_75 ?_
    refine lv_iload_n hx hb dX7_build_78 rfl (lv_at hl 2 rfl) ?_
    obtain ⟨g2, hf⟩ := gd_e hf
    refine g_ia hx hb hK X g1 hN g2 (by decide) dX7_build_79 ?_
    refine lv_icmp_gt (tgt := 108) hx hb dX7_build_80 (by decide) (fun c80 => ?_) (fun c80 => ?_)
    · have hf := ite_t hf c80
      refine lv_aload_n hx hb dX7_build_108 rfl (lv_at hl 0 rfl) ?_
      refine lv_iload_n hx hb dX7_build_109 rfl (lv_at hl 2 rfl) ?_
      refine lv_iconst (v := (0 : Int32)) hx hb dX7_build_110 (by decide) ?_
      refine lv_iconst (v := (0 : Int32)) hx hb dX7_build_111 (by decide) ?_
      obtain ⟨r3, h4, q5, hf⟩ := bd_e hf
      refine c_V0 (As := [.int x3, .int (0 : Int32), .int (0 : Int32)]) (rest := []) (st1 := []) hx hb hml hown hts hK X (k_X7_spread l G n hN q5) o0 hN lc_X7_spread lv_X7_50 (ci := 7) rfl rfl (by decide) rfl hl.1 (Nat.le_of_ble_eq_true rfl) dX7_build_112 rfl (fun H locs X => ?_)
      refine lv_aload_n hx hb dX7_build_115 rfl (lv_at hl 0 rfl) ?_
      obtain ⟨g6, hf⟩ := gd_e hf
      refine g_R hx hb hts hown hK X o0 hN g6 fl_X7_21 (by decide) rfl (by decide) dX7_build_116 ?_
      refine lv_iload_n hx hb dX7_build_119 rfl (lv_at hl 2 rfl) ?_
      obtain ⟨g7, hf⟩ := gd_e hf
      refine g_ia hx hb hK X g6 hN g7 (by decide) dX7_build_120 ?_
      refine lv_istore (lv' := [(4, .int (h4.1 (h4.2 x0 7) x3.toNatClampNeg)), (0, .ref (bs G + x0)), (2, .int x2), (3, .int x3)]) hx hb dX7_build_121 hl (by decide) rfl (fun ls hl => ?_)
      refine lv_iconst (v := (1 : Int32)) hx hb dX7_build_123 (by decide) ?_
      refine lv_istore (lv' := [(5, .int (1 : Int32)), (4, .int (h4.1 (h4.2 x0 7) x3.toNatClampNeg)), (0, .ref (bs G + x0)), (2, .int x2), (3, .int x3)]) hx hb dX7_build_124 hl (by decide) rfl (fun ls hl => ?_)
      exact j_X7_build_126 C0 hN @ih60 FU X (lv_sub hl [2, 3, 4, 1, 0] rfl) o0 hf
    · have hf := ite_f hf c80
      refine lv_aload_n hx hb dX7_build_83 rfl (lv_at hl 0 rfl) ?_
      obtain ⟨g8, hf⟩ := gd_e hf
      refine g_R hx hb hts hown hK X o0 hN g8 fl_X7_11 (by decide) rfl (by decide) dX7_build_84 ?_
      refine lv_iload_n hx hb dX7_build_87 rfl (lv_at hl 2 rfl) ?_
      refine lv_sipush (v := (601 : Int32)) hx hb dX7_build_88 (by decide) ?_
      refine lv_imul hx hb dX7_build_91 ?_
      refine lv_sipush (v := (300 : Int32)) hx hb dX7_build_92 (by decide) ?_
      refine lv_iadd hx hb dX7_build_95 ?_
      refine lv_iload hx hb dX7_build_96 (lv_at hl 3 rfl) ?_
      refine lv_iadd hx hb dX7_build_98 ?_
      refine lv_ldc hx hb hown (hts _ cn_X7_49) dX7_build_99 ?_
      obtain ⟨g9, hf⟩ := gd_e hf
      refine g_is hx hb hK X g8 hN g9 (by decide) dX7_build_101 (fun H locs X => ?_)
      obtain ⟨h10, e11, hf⟩ := lt_e hf
      rw [← e11] at X
      refine lv_iinc (v := (x4 + (1 : Int32))) (lv' := [(4, .int (x4 + (1 : Int32))), (0, .ref (bs G + x0)), (2, .int x2), (3, .int x3)]) hx hb dX7_build_102 hl (k := 3) rfl rfl (by decide) rfl (fun ls hl => ?_)
      refine lv_goto (tgt := 72) hx hb dX7_build_105 (by decide) ?_
      exact ih X (lv_sub hl [1, 2, 3, 0] rfl) o0 hf
theorem j_X7_build_60 (C0 : Cx p s m args meth c G bX7_build RX7 6 none "build") (hN : NX ≤ n) : ∀ (fu : Nat), ∀ {H : Heap} {locs : List Loc} {ls : Array Slot} {h : Hp} {x0 : Nat} {x2 : Int32} {x3 : Int32}, XW G n h s 0 H locs → lv_has ls 6 [(0, .ref (bs G + x0)), (2, .int x2), (3, .int x3)] → kd x0 = 7 → f_X7_build_60 fu h x0 x2 x3 = some (rv, h') → W p l e (rmC 2 0 0) s m args below meth c H locs 0 0 (MQ below (QP G n h' none) args s 0 0 (Ab G)) (F0 m 60 ls []) := by
  obtain ⟨hx, hb, hr, hml, hown, hts, hK, hlocks, hnm⟩ := id C0
  intro fu
  induction fu with
  | zero => intro H locs ls h x0 x2 x3 X hl o0 hf; cases hf
  | succ fu ih =>
    intro H locs ls h x0 x2 x3 X hl o0 hf
    rw [f_X7_build_60] at hf
    refine lv_iload_n hx hb dX7_build_60 rfl (lv_at hl 2 rfl) ?_
    refine lv_if_lt (tgt := 177) hx hb dX7_build_61 (by decide) (fun c61 => ?_) (fun c61 => ?_)
    · have hf := ite_t hf c61
      exact r_V hx hb hr hlocks X hf dX7_build_177
    · have hf := ite_f hf c61
      refine lv_aload_n hx hb dX7_build_64 rfl (lv_at hl 0 rfl) ?_
      obtain ⟨g1, hf⟩ := gd_e hf
      refine g_R hx hb hts hown hK X o0 hN g1 fl_X7_15 (by decide) rfl (by decide) dX7_build_65 ?_
      refine lv_iload_n hx hb dX7_build_68 rfl (lv_at hl 2 rfl) ?_
      obtain ⟨g2, hf⟩ := gd_e hf
      refine g_ia hx hb hK X g1 hN g2 (by decide) dX7_build_69 ?_
      refine lv_istore (lv' := [(4, .int (h.1 (h.2 x0 5) x3.toNatClampNeg)), (0, .ref (bs G + x0)), (2, .int x2), (3, .int x3)]) hx hb dX7_build_70 hl (by decide) rfl (fun ls hl => ?_)
      exact j_X7_build_72 C0 hN @ih FU X (lv_sub hl [1, 2, 3, 0] rfl) o0 hf
theorem j_X7_build_17 (C0 : Cx p s m args meth c G bX7_build RX7 6 none "build") (hN : NX ≤ n) {H : Heap} {locs : List Loc} {ls : Array Slot} {h : Hp} {x0 : Nat} {x1 : Int32} {x2 : Int32} (X : XW G n h s 0 H locs) (hl : lv_has ls 6 [(0, .ref (bs G + x0)), (1, .int x1), (2, .int x2)]) (o0 : kd x0 = 7) (hf : f_X7_build_17 h x0 x1 x2 = some (rv, h')) : W p l e (rmC 2 0 0) s m args below meth c H locs 0 0 (MQ below (QP G n h' none) args s 0 0 (Ab G)) (F0 m 17 ls []) := by
  obtain ⟨hx, hb, hr, hml, hown, hts, hK, hlocks, hnm⟩ := id C0
  unfold f_X7_build_17 at hf
  refine lv_aload_n hx hb dX7_build_17 rfl (lv_at hl 0 rfl) ?_
  refine lv_iload_n hx hb dX7_build_18 rfl (lv_at hl 2 rfl) ?_
  refine g_PI hx hb hts hown hK X o0 hN fl_X7_27 ft_7_11 (by decide) rfl dX7_build_19 (fun H locs X => ?_)
  obtain ⟨h1, e2, hf⟩ := lt_e hf
  rw [← e2] at X
  refine lv_aload_n hx hb dX7_build_22 rfl (lv_at hl 0 rfl) ?_
  refine lv_iload_n hx hb dX7_build_23 rfl (lv_at hl 1 rfl) ?_
  refine g_PI hx hb hts hown hK X o0 hN fl_X7_37 ft_7_10 (by decide) rfl dX7_build_24 (fun H locs X => ?_)
  obtain ⟨h3, e4, hf⟩ := lt_e hf
  rw [← e4] at X
  refine lv_aload_n hx hb dX7_build_27 rfl (lv_at hl 0 rfl) ?_
  obtain ⟨r5, h6, q7, hf⟩ := bd_e hf
  refine c_V0 (As := []) (rest := []) (st1 := []) hx hb hml hown hts hK X (k_X7_listNumbers l G n hN q7) o0 hN lc_X7_listNumbers lv_X7_40 (ci := 7) rfl rfl (by decide) rfl hl.1 (Nat.le_of_ble_eq_true rfl) dX7_build_28 rfl (fun H locs X => ?_)
  refine lv_aload_n hx hb dX7_build_31 rfl (lv_at hl 0 rfl) ?_
  obtain ⟨r8, h9, q10, hf⟩ := bd_e hf
  refine c_V0 (As := []) (rest := []) (st1 := []) hx hb hml hown hts hK X (k_X7_setBounds l G n hN q10) o0 hN lc_X7_setBounds lv_X7_43 (ci := 7) rfl rfl (by decide) rfl hl.1 (Nat.le_of_ble_eq_true rfl) dX7_build_32 rfl (fun H locs X => ?_)
  refine lv_aload_n hx hb dX7_build_35 rfl (lv_at hl 0 rfl) ?_
  obtain ⟨g11, hf⟩ := gd_e hf
  refine g_R hx hb hts hown hK X o0 hN g11 fl_X7_11 (by decide) rfl (by decide) dX7_build_36 ?_
  refine lv_aload_n hx hb dX7_build_39 rfl (lv_at hl 0 rfl) ?_
  refine g_I hx hb hts hown hK X o0 hN fl_X7_46 (by decide) rfl dX7_build_40 ?_
  refine lv_sipush (v := (601 : Int32)) hx hb dX7_build_43 (by decide) ?_
  refine lv_imul hx hb dX7_build_46 ?_
  refine lv_sipush (v := (300 : Int32)) hx hb dX7_build_47 (by decide) ?_
  refine lv_iadd hx hb dX7_build_50 ?_
  refine lv_iconst (v := (0 : Int32)) hx hb dX7_build_51 (by decide) ?_
  obtain ⟨g12, hf⟩ := gd_e hf
  refine g_is hx hb hK X g11 hN g12 (by decide) dX7_build_52 (fun H locs X => ?_)
  obtain ⟨h13, e14, hf⟩ := lt_e hf
  rw [← e14] at X
  refine lv_aload_n hx hb dX7_build_53 rfl (lv_at hl 0 rfl) ?_
  refine g_I hx hb hts hown hK X o0 hN fl_X7_46 (by decide) rfl dX7_build_54 ?_
  refine lv_iconst (v := (1 : Int32)) hx hb dX7_build_57 (by decide) ?_
  refine lv_isub hx hb dX7_build_58 ?_
  refine lv_istore_n (lv' := [(3, .int ((h13.1 x0 9) - (1 : Int32))), (0, .ref (bs G + x0)), (1, .int x1), (2, .int x2)]) hx hb dX7_build_59 rfl hl (by decide) rfl (fun ls hl => ?_)
  exact j_X7_build_60 C0 hN FU X (lv_sub hl [1, 3, 0] rfl) o0 hf
theorem k_X7_build (l : Launch) (G : GG) (n : Nat) (hN : NX ≤ n) {h h' : Hp} {x0 : Nat} {x1 : Int32} {x2 : Int32} {rv : Unit} (hf : f_X7_build h x0 x1 x2 = some (rv, h')) : CT l G n n yX7_build (.code yX7_build bX7_build 6 none) 2 0 0 [.ref (bs G + x0), .int x1, .int x2] h h' none := by
  refine ct_of (maxL := 6) (ret := none) (bytes := bX7_build) (by decide) (Nat.le_of_ble_eq_true rfl) (fun p e s m below meth c C0 X ls hl => ?_)
  have hl : lv_has ls 6 [(0, .ref (bs G + x0)), (1, .int x1), (2, .int x2)] := hl
  obtain ⟨hx, hb, hr, hml, hown, hts, hK, hlocks, hnm⟩ := id C0
  unfold f_X7_build at hf
  obtain ⟨o0, hf⟩ := gd_e hf
  refine lv_iload_n hx hb dX7_build_0 rfl (lv_at hl 2 rfl) ?_
  refine lv_aload_n hx hb dX7_build_1 rfl (lv_at hl 0 rfl) ?_
  refine g_I hx hb hts hown hK X o0 hN fl_X7_27 (by decide) rfl dX7_build_2 ?_
  refine lv_icmp_ne (tgt := 17) hx hb dX7_build_5 (by decide) (fun c5 => ?_) (fun c5 => ?_)
  · have hf := ite_f hf c5
    exact j_X7_build_17 C0 hN X (lv_sub hl [0, 1, 2] rfl) o0 hf
  · have hf := ite_t hf c5
    refine lv_iload_n hx hb dX7_build_8 rfl (lv_at hl 1 rfl) ?_
    refine lv_aload_n hx hb dX7_build_9 rfl (lv_at hl 0 rfl) ?_
    refine g_I hx hb hts hown hK X o0 hN fl_X7_37 (by decide) rfl dX7_build_10 ?_
    refine lv_icmp_ne (tgt := 17) hx hb dX7_build_13 (by decide) (fun c13 => ?_) (fun c13 => ?_)
    · have hf := ite_f hf c13
      exact j_X7_build_17 C0 hN X (lv_sub hl [0, 1, 2] rfl) o0 hf
    · have hf := ite_t hf c13
      exact r_V hx hb hr hlocks X hf dX7_build_16
end
theorem dX7_add_0 : decode bX7_add 0 = .ok (.iconst 1, 1) := by decide +kernel
theorem dX7_add_1 : decode bX7_add 1 = .ok (.iload_n 1, 1) := by decide +kernel
theorem dX7_add_2 : decode bX7_add 2 = .ok (.iconst 1, 1) := by decide +kernel
theorem dX7_add_3 : decode bX7_add 3 = .ok (.isub, 1) := by decide +kernel
theorem dX7_add_4 : decode bX7_add 4 = .ok (.ishl, 1) := by decide +kernel
theorem dX7_add_5 : decode bX7_add 5 = .ok (.istore_n 3, 1) := by decide +kernel
theorem dX7_add_6 : decode bX7_add 6 = .ok (.aload_n 0, 1) := by decide +kernel
theorem dX7_add_7 : decode bX7_add 7 = .ok (.dup, 1) := by decide +kernel
theorem dX7_add_8 : decode bX7_add 8 = .ok (.getfield 68, 3) := by decide +kernel
theorem dX7_add_11 : decode bX7_add 11 = .ok (.iload_n 2, 1) := by decide +kernel
theorem dX7_add_12 : decode bX7_add 12 = .ok (.iconst 1, 1) := by decide +kernel
theorem dX7_add_13 : decode bX7_add 13 = .ok (.if_icmp .ne 7, 3) := by decide +kernel
theorem dX7_add_16 : decode bX7_add 16 = .ok (.iload_n 3, 1) := by decide +kernel
theorem dX7_add_17 : decode bX7_add 17 = .ok (.goto 4, 3) := by decide +kernel
theorem dX7_add_20 : decode bX7_add 20 = .ok (.iconst 0, 1) := by decide +kernel
theorem dX7_add_21 : decode bX7_add 21 = .ok (.ior, 1) := by decide +kernel
theorem dX7_add_22 : decode bX7_add 22 = .ok (.putfield 68, 3) := by decide +kernel
theorem dX7_add_25 : decode bX7_add 25 = .ok (.aload_n 0, 1) := by decide +kernel
theorem dX7_add_26 : decode bX7_add 26 = .ok (.dup, 1) := by decide +kernel
theorem dX7_add_27 : decode bX7_add 27 = .ok (.getfield 71, 3) := by decide +kernel
theorem dX7_add_30 : decode bX7_add 30 = .ok (.iload_n 2, 1) := by decide +kernel
theorem dX7_add_31 : decode bX7_add 31 = .ok (.iconst 2, 1) := by decide +kernel
theorem dX7_add_32 : decode bX7_add 32 = .ok (.if_icmp .ne 7, 3) := by decide +kernel
theorem dX7_add_35 : decode bX7_add 35 = .ok (.iload_n 3, 1) := by decide +kernel
theorem dX7_add_36 : decode bX7_add 36 = .ok (.goto 4, 3) := by decide +kernel
theorem dX7_add_39 : decode bX7_add 39 = .ok (.iconst 0, 1) := by decide +kernel
theorem dX7_add_40 : decode bX7_add 40 = .ok (.ior, 1) := by decide +kernel
theorem dX7_add_41 : decode bX7_add 41 = .ok (.putfield 71, 3) := by decide +kernel
theorem dX7_add_44 : decode bX7_add 44 = .ok (.aload_n 0, 1) := by decide +kernel
theorem dX7_add_45 : decode bX7_add 45 = .ok (.dup, 1) := by decide +kernel
theorem dX7_add_46 : decode bX7_add 46 = .ok (.getfield 74, 3) := by decide +kernel
theorem dX7_add_49 : decode bX7_add 49 = .ok (.iload_n 2, 1) := by decide +kernel
theorem dX7_add_50 : decode bX7_add 50 = .ok (.iconst 3, 1) := by decide +kernel
theorem dX7_add_51 : decode bX7_add 51 = .ok (.if_icmp .ne 7, 3) := by decide +kernel
theorem dX7_add_54 : decode bX7_add 54 = .ok (.iload_n 3, 1) := by decide +kernel
theorem dX7_add_55 : decode bX7_add 55 = .ok (.goto 4, 3) := by decide +kernel
theorem dX7_add_58 : decode bX7_add 58 = .ok (.iconst 0, 1) := by decide +kernel
theorem dX7_add_59 : decode bX7_add 59 = .ok (.ior, 1) := by decide +kernel
theorem dX7_add_60 : decode bX7_add 60 = .ok (.putfield 74, 3) := by decide +kernel
theorem dX7_add_63 : decode bX7_add 63 = .ok (.aload_n 0, 1) := by decide +kernel
theorem dX7_add_64 : decode bX7_add 64 = .ok (.dup, 1) := by decide +kernel
theorem dX7_add_65 : decode bX7_add 65 = .ok (.getfield 77, 3) := by decide +kernel
theorem dX7_add_68 : decode bX7_add 68 = .ok (.aload_n 0, 1) := by decide +kernel
theorem dX7_add_69 : decode bX7_add 69 = .ok (.iload_n 1, 1) := by decide +kernel
theorem dX7_add_70 : decode bX7_add 70 = .ok (.iload_n 2, 1) := by decide +kernel
theorem dX7_add_71 : decode bX7_add 71 = .ok (.invokevirtual 65, 3) := by decide +kernel
theorem dX7_add_74 : decode bX7_add 74 = .ok (.sipush 1000, 3) := by decide +kernel
theorem dX7_add_77 : decode bX7_add 77 = .ok (.isub, 1) := by decide +kernel
theorem dX7_add_78 : decode bX7_add 78 = .ok (.iadd, 1) := by decide +kernel
theorem dX7_add_79 : decode bX7_add 79 = .ok (.putfield 77, 3) := by decide +kernel
theorem dX7_add_82 : decode bX7_add 82 = .ok (.return_, 1) := by decide +kernel
section
variable {p : Program} {l : Launch} {e : Env} {s : State} {m : MethodId} {args : Array Value} {below : List Frame} {meth : Method} {c : Code} {G : GG} {n : Nat} {h' : Hp} {rv : Unit}
set_option maxHeartbeats 4000000
set_option maxRecDepth 100000
theorem j_X7_add_59 (C0 : Cx p s m args meth c G bX7_add RX7 4 none "add") (hN : NX ≤ n) {H : Heap} {locs : List Loc} {ls : Array Slot} {h : Hp} {x0 : Nat} {x1 : Int32} {x2 : Int32} {t0 : Nat} {t1 : Int32} {t2 : Int32} (X : XW G n h s 0 H locs) (hl : lv_has ls 4 [(0, .ref (bs G + x0)), (1, .int x1), (2, .int x2)]) (o0 : kd x0 = 7) (ot0 : kd t0 = 7) (hf : f_X7_add_59 h x0 x1 x2 t0 t1 t2 = some (rv, h')) : W p l e (rmC 1 0 0) s m args below meth c H locs 0 0 (MQ below (QP G n h' none) args s 0 0 (Ab G)) (F0 m 59 ls [.int t2, .int t1, .ref (bs G + t0)]) := by
  obtain ⟨hx, hb, hr, hml, hown, hts, hK, hlocks, hnm⟩ := id C0
  unfold f_X7_add_59 at hf
  refine lv_ior hx hb dX7_add_59 ?_
  refine g_PI hx hb hts hown hK X ot0 hN fl_X7_74 ft_7_2 (by decide) rfl dX7_add_60 (fun H locs X => ?_)
  obtain ⟨h1, e2, hf⟩ := lt_e hf
  rw [← e2] at X
  refine lv_aload_n hx hb dX7_add_63 rfl (lv_at hl 0 rfl) ?_
  refine lv_dup hx hb dX7_add_64 rfl ?_
  refine g_I hx hb hts hown hK X o0 hN fl_X7_77 (by decide) rfl dX7_add_65 ?_
  refine lv_aload_n hx hb dX7_add_68 rfl (lv_at hl 0 rfl) ?_
  refine lv_iload_n hx hb dX7_add_69 rfl (lv_at hl 1 rfl) ?_
  refine lv_iload_n hx hb dX7_add_70 rfl (lv_at hl 2 rfl) ?_
  obtain ⟨r3, h4, q5, hf⟩ := bd_e hf
  refine c_V0 (As := [.int x1, .int x2]) (rest := [.int (h1.1 x0 3), .ref (bs G + x0)]) (st1 := [.int r3, .int (h1.1 x0 3), .ref (bs G + x0)]) hx hb hml hown hts hK X (k_X7_weight l G n hN q5) o0 hN lc_X7_weight lv_X7_65 (ci := 7) rfl rfl (by decide) rfl hl.1 (Nat.le_of_ble_eq_true rfl) dX7_add_71 rfl (fun H locs X => ?_)
  refine lv_sipush (v := (1000 : Int32)) hx hb dX7_add_74 (by decide) ?_
  refine lv_isub hx hb dX7_add_77 ?_
  refine lv_iadd hx hb dX7_add_78 ?_
  refine g_PI hx hb hts hown hK X o0 hN fl_X7_77 ft_7_3 (by decide) rfl dX7_add_79 (fun H locs X => ?_)
  obtain ⟨h6, e7, hf⟩ := lt_e hf
  rw [← e7] at X
  exact r_V hx hb hr hlocks X hf dX7_add_82
theorem j_X7_add_40 (C0 : Cx p s m args meth c G bX7_add RX7 4 none "add") (hN : NX ≤ n) {H : Heap} {locs : List Loc} {ls : Array Slot} {h : Hp} {x0 : Nat} {x1 : Int32} {x2 : Int32} {x3 : Int32} {t0 : Nat} {t1 : Int32} {t2 : Int32} (X : XW G n h s 0 H locs) (hl : lv_has ls 4 [(0, .ref (bs G + x0)), (1, .int x1), (2, .int x2), (3, .int x3)]) (o0 : kd x0 = 7) (ot0 : kd t0 = 7) (hf : f_X7_add_40 h x0 x1 x2 x3 t0 t1 t2 = some (rv, h')) : W p l e (rmC 1 0 0) s m args below meth c H locs 0 0 (MQ below (QP G n h' none) args s 0 0 (Ab G)) (F0 m 40 ls [.int t2, .int t1, .ref (bs G + t0)]) := by
  obtain ⟨hx, hb, hr, hml, hown, hts, hK, hlocks, hnm⟩ := id C0
  unfold f_X7_add_40 at hf
  refine lv_ior hx hb dX7_add_40 ?_
  refine g_PI hx hb hts hown hK X ot0 hN fl_X7_71 ft_7_1 (by decide) rfl dX7_add_41 (fun H locs X => ?_)
  obtain ⟨h1, e2, hf⟩ := lt_e hf
  rw [← e2] at X
  refine lv_aload_n hx hb dX7_add_44 rfl (lv_at hl 0 rfl) ?_
  refine lv_dup hx hb dX7_add_45 rfl ?_
  refine g_I hx hb hts hown hK X o0 hN fl_X7_74 (by decide) rfl dX7_add_46 ?_
  refine lv_iload_n hx hb dX7_add_49 rfl (lv_at hl 2 rfl) ?_
  refine lv_iconst (v := (3 : Int32)) hx hb dX7_add_50 (by decide) ?_
  refine lv_icmp_ne (tgt := 58) hx hb dX7_add_51 (by decide) (fun c51 => ?_) (fun c51 => ?_)
  · have hf := ite_f hf c51
    refine lv_iconst (v := (0 : Int32)) hx hb dX7_add_58 (by decide) ?_
    exact j_X7_add_59 C0 hN X (lv_sub hl [0, 1, 2] rfl) o0 o0 hf
  · have hf := ite_t hf c51
    refine lv_iload_n hx hb dX7_add_54 rfl (lv_at hl 3 rfl) ?_
    refine lv_goto (tgt := 59) hx hb dX7_add_55 (by decide) ?_
    exact j_X7_add_59 C0 hN X (lv_sub hl [0, 1, 2] rfl) o0 o0 hf
theorem j_X7_add_21 (C0 : Cx p s m args meth c G bX7_add RX7 4 none "add") (hN : NX ≤ n) {H : Heap} {locs : List Loc} {ls : Array Slot} {h : Hp} {x0 : Nat} {x1 : Int32} {x2 : Int32} {x3 : Int32} {t0 : Nat} {t1 : Int32} {t2 : Int32} (X : XW G n h s 0 H locs) (hl : lv_has ls 4 [(0, .ref (bs G + x0)), (1, .int x1), (2, .int x2), (3, .int x3)]) (o0 : kd x0 = 7) (ot0 : kd t0 = 7) (hf : f_X7_add_21 h x0 x1 x2 x3 t0 t1 t2 = some (rv, h')) : W p l e (rmC 1 0 0) s m args below meth c H locs 0 0 (MQ below (QP G n h' none) args s 0 0 (Ab G)) (F0 m 21 ls [.int t2, .int t1, .ref (bs G + t0)]) := by
  obtain ⟨hx, hb, hr, hml, hown, hts, hK, hlocks, hnm⟩ := id C0
  unfold f_X7_add_21 at hf
  refine lv_ior hx hb dX7_add_21 ?_
  refine g_PI hx hb hts hown hK X ot0 hN fl_X7_68 ft_7_0 (by decide) rfl dX7_add_22 (fun H locs X => ?_)
  obtain ⟨h1, e2, hf⟩ := lt_e hf
  rw [← e2] at X
  refine lv_aload_n hx hb dX7_add_25 rfl (lv_at hl 0 rfl) ?_
  refine lv_dup hx hb dX7_add_26 rfl ?_
  refine g_I hx hb hts hown hK X o0 hN fl_X7_71 (by decide) rfl dX7_add_27 ?_
  refine lv_iload_n hx hb dX7_add_30 rfl (lv_at hl 2 rfl) ?_
  refine lv_iconst (v := (2 : Int32)) hx hb dX7_add_31 (by decide) ?_
  refine lv_icmp_ne (tgt := 39) hx hb dX7_add_32 (by decide) (fun c32 => ?_) (fun c32 => ?_)
  · have hf := ite_f hf c32
    refine lv_iconst (v := (0 : Int32)) hx hb dX7_add_39 (by decide) ?_
    exact j_X7_add_40 C0 hN X (lv_sub hl [0, 1, 2, 3] rfl) o0 o0 hf
  · have hf := ite_t hf c32
    refine lv_iload_n hx hb dX7_add_35 rfl (lv_at hl 3 rfl) ?_
    refine lv_goto (tgt := 40) hx hb dX7_add_36 (by decide) ?_
    exact j_X7_add_40 C0 hN X (lv_sub hl [0, 1, 2, 3] rfl) o0 o0 hf
theorem k_X7_add (l : Launch) (G : GG) (n : Nat) (hN : NX ≤ n) {h h' : Hp} {x0 : Nat} {x1 : Int32} {x2 : Int32} {rv : Unit} (hf : f_X7_add h x0 x1 x2 = some (rv, h')) : CT l G n n yX7_add (.code yX7_add bX7_add 4 none) 1 0 0 [.ref (bs G + x0), .int x1, .int x2] h h' none := by
  refine ct_of (maxL := 4) (ret := none) (bytes := bX7_add) (by decide) (Nat.le_of_ble_eq_true rfl) (fun p e s m below meth c C0 X ls hl => ?_)
  have hl : lv_has ls 4 [(0, .ref (bs G + x0)), (1, .int x1), (2, .int x2)] := hl
  obtain ⟨hx, hb, hr, hml, hown, hts, hK, hlocks, hnm⟩ := id C0
  unfold f_X7_add at hf
  obtain ⟨o0, hf⟩ := gd_e hf
  refine lv_iconst (v := (1 : Int32)) hx hb dX7_add_0 (by decide) ?_
  refine lv_iload_n hx hb dX7_add_1 rfl (lv_at hl 1 rfl) ?_
  refine lv_iconst (v := (1 : Int32)) hx hb dX7_add_2 (by decide) ?_
  refine lv_isub hx hb dX7_add_3 ?_
  refine lv_ishl hx hb dX7_add_4 ?_
  refine lv_istore_n (lv' := [(3, .int ((1 : Int32) <<< ((x1 - (1 : Int32)) &&& 31))), (0, .ref (bs G + x0)), (1, .int x1), (2, .int x2)]) hx hb dX7_add_5 rfl hl (by decide) rfl (fun ls hl => ?_)
  refine lv_aload_n hx hb dX7_add_6 rfl (lv_at hl 1 rfl) ?_
  refine lv_dup hx hb dX7_add_7 rfl ?_
  refine g_I hx hb hts hown hK X o0 hN fl_X7_68 (by decide) rfl dX7_add_8 ?_
  refine lv_iload_n hx hb dX7_add_11 rfl (lv_at hl 3 rfl) ?_
  refine lv_iconst (v := (1 : Int32)) hx hb dX7_add_12 (by decide) ?_
  refine lv_icmp_ne (tgt := 20) hx hb dX7_add_13 (by decide) (fun c13 => ?_) (fun c13 => ?_)
  · have hf := ite_f hf c13
    refine lv_iconst (v := (0 : Int32)) hx hb dX7_add_20 (by decide) ?_
    exact j_X7_add_21 C0 hN X (lv_sub hl [1, 2, 3, 0] rfl) o0 o0 hf
  · have hf := ite_t hf c13
    refine lv_iload_n hx hb dX7_add_16 rfl (lv_at hl 0 rfl) ?_
    refine lv_goto (tgt := 21) hx hb dX7_add_17 (by decide) ?_
    exact j_X7_add_21 C0 hN X (lv_sub hl [1, 2, 3, 0] rfl) o0 o0 hf
end
theorem dX7_at_0 : decode bX7_at 0 = .ok (.iload_n 2, 1) := by decide +kernel
theorem dX7_at_1 : decode bX7_at 1 = .ok (.aload_n 0, 1) := by decide +kernel
theorem dX7_at_2 : decode bX7_at 2 = .ok (.getfield 15, 3) := by decide +kernel
theorem dX7_at_5 : decode bX7_at 5 = .ok (.iload_n 1, 1) := by decide +kernel
theorem dX7_at_6 : decode bX7_at 6 = .ok (.iaload, 1) := by decide +kernel
theorem dX7_at_7 : decode bX7_at 7 = .ok (.if_icmp .lt 13, 3) := by decide +kernel
theorem dX7_at_10 : decode bX7_at 10 = .ok (.iload_n 2, 1) := by decide +kernel
theorem dX7_at_11 : decode bX7_at 11 = .ok (.aload_n 0, 1) := by decide +kernel
theorem dX7_at_12 : decode bX7_at 12 = .ok (.getfield 18, 3) := by decide +kernel
theorem dX7_at_15 : decode bX7_at 15 = .ok (.iload_n 1, 1) := by decide +kernel
theorem dX7_at_16 : decode bX7_at 16 = .ok (.iaload, 1) := by decide +kernel
theorem dX7_at_17 : decode bX7_at 17 = .ok (.if_icmp .le 8, 3) := by decide +kernel
theorem dX7_at_20 : decode bX7_at 20 = .ok (.ldc 49, 2) := by decide +kernel
theorem dX7_at_22 : decode bX7_at 22 = .ok (.goto 19, 3) := by decide +kernel
theorem dX7_at_25 : decode bX7_at 25 = .ok (.aload_n 0, 1) := by decide +kernel
theorem dX7_at_26 : decode bX7_at 26 = .ok (.getfield 11, 3) := by decide +kernel
theorem dX7_at_29 : decode bX7_at 29 = .ok (.iload_n 1, 1) := by decide +kernel
theorem dX7_at_30 : decode bX7_at 30 = .ok (.sipush 601, 3) := by decide +kernel
theorem dX7_at_33 : decode bX7_at 33 = .ok (.imul, 1) := by decide +kernel
theorem dX7_at_34 : decode bX7_at 34 = .ok (.sipush 300, 3) := by decide +kernel
theorem dX7_at_37 : decode bX7_at 37 = .ok (.iadd, 1) := by decide +kernel
theorem dX7_at_38 : decode bX7_at 38 = .ok (.iload_n 2, 1) := by decide +kernel
theorem dX7_at_39 : decode bX7_at 39 = .ok (.iadd, 1) := by decide +kernel
theorem dX7_at_40 : decode bX7_at 40 = .ok (.iaload, 1) := by decide +kernel
theorem dX7_at_41 : decode bX7_at 41 = .ok (.ireturn, 1) := by decide +kernel
section
variable {p : Program} {l : Launch} {e : Env} {s : State} {m : MethodId} {args : Array Value} {below : List Frame} {meth : Method} {c : Code} {G : GG} {n : Nat} {h' : Hp} {rv : Int32}
set_option maxHeartbeats 4000000
set_option maxRecDepth 100000
theorem k_X7_at (l : Launch) (G : GG) (n : Nat) (hN : NX ≤ n) {h h' : Hp} {x0 : Nat} {x1 : Int32} {x2 : Int32} {rv : Int32} (hf : f_X7_at h x0 x1 x2 = some (rv, h')) : CT l G n n yX7_at (.code yX7_at bX7_at 3 (some .int)) 0 0 0 [.ref (bs G + x0), .int x1, .int x2] h h' (some (.int rv)) := by
  refine ct_of (maxL := 3) (ret := (some .int)) (bytes := bX7_at) (by decide) (Nat.le_of_ble_eq_true rfl) (fun p e s m below meth c C0 X ls hl => ?_)
  have hl : lv_has ls 3 [(0, .ref (bs G + x0)), (1, .int x1), (2, .int x2)] := hl
  obtain ⟨hx, hb, hr, hml, hown, hts, hK, hlocks, hnm⟩ := id C0
  unfold f_X7_at at hf
  obtain ⟨o0, hf⟩ := gd_e hf
  refine lv_iload_n hx hb dX7_at_0 rfl (lv_at hl 2 rfl) ?_
  refine lv_aload_n hx hb dX7_at_1 rfl (lv_at hl 0 rfl) ?_
  obtain ⟨g1, hf⟩ := gd_e hf
  refine g_R hx hb hts hown hK X o0 hN g1 fl_X7_15 (by decide) rfl (by decide) dX7_at_2 ?_
  refine lv_iload_n hx hb dX7_at_5 rfl (lv_at hl 1 rfl) ?_
  obtain ⟨g2, hf⟩ := gd_e hf
  refine g_ia hx hb hK X g1 hN g2 (by decide) dX7_at_6 ?_
  refine lv_icmp_lt (tgt := 20) hx hb dX7_at_7 (by decide) (fun c7 => ?_) (fun c7 => ?_)
  · have hf := ite_t hf c7
    refine lv_ldc hx hb hown (hts _ cn_X7_49) dX7_at_20 ?_
    refine lv_goto (tgt := 41) hx hb dX7_at_22 (by decide) ?_
    exact r_I hx hb hr hlocks X hf dX7_at_41
  · have hf := ite_f hf c7
    refine lv_iload_n hx hb dX7_at_10 rfl (lv_at hl 2 rfl) ?_
    refine lv_aload_n hx hb dX7_at_11 rfl (lv_at hl 0 rfl) ?_
    obtain ⟨g3, hf⟩ := gd_e hf
    refine g_R hx hb hts hown hK X o0 hN g3 fl_X7_18 (by decide) rfl (by decide) dX7_at_12 ?_
    refine lv_iload_n hx hb dX7_at_15 rfl (lv_at hl 1 rfl) ?_
    obtain ⟨g4, hf⟩ := gd_e hf
    refine g_ia hx hb hK X g3 hN g4 (by decide) dX7_at_16 ?_
    refine lv_icmp_le (tgt := 25) hx hb dX7_at_17 (by decide) (fun c17 => ?_) (fun c17 => ?_)
    · have hf := ite_t hf c17
      refine lv_aload_n hx hb dX7_at_25 rfl (lv_at hl 0 rfl) ?_
      obtain ⟨g5, hf⟩ := gd_e hf
      refine g_R hx hb hts hown hK X o0 hN g5 fl_X7_11 (by decide) rfl (by decide) dX7_at_26 ?_
      refine lv_iload_n hx hb dX7_at_29 rfl (lv_at hl 1 rfl) ?_
      refine lv_sipush (v := (601 : Int32)) hx hb dX7_at_30 (by decide) ?_
      refine lv_imul hx hb dX7_at_33 ?_
      refine lv_sipush (v := (300 : Int32)) hx hb dX7_at_34 (by decide) ?_
      refine lv_iadd hx hb dX7_at_37 ?_
      refine lv_iload_n hx hb dX7_at_38 rfl (lv_at hl 2 rfl) ?_
      refine lv_iadd hx hb dX7_at_39 ?_
      obtain ⟨g6, hf⟩ := gd_e hf
      refine g_ia hx hb hK X g5 hN g6 (by decide) dX7_at_40 ?_
      exact r_I hx hb hr hlocks X hf dX7_at_41
    · have hf := ite_f hf c17
      refine lv_ldc hx hb hown (hts _ cn_X7_49) dX7_at_20 ?_
      refine lv_goto (tgt := 41) hx hb dX7_at_22 (by decide) ?_
      exact r_I hx hb hr hlocks X hf dX7_at_41
end
theorem dX7_firstUse_0 : decode bX7_firstUse 0 = .ok (.aload_n 0, 1) := by decide +kernel
theorem dX7_firstUse_1 : decode bX7_firstUse 1 = .ok (.getfield 21, 3) := by decide +kernel
theorem dX7_firstUse_4 : decode bX7_firstUse 4 = .ok (.iload_n 1, 1) := by decide +kernel
theorem dX7_firstUse_5 : decode bX7_firstUse 5 = .ok (.iaload, 1) := by decide +kernel
theorem dX7_firstUse_6 : decode bX7_firstUse 6 = .ok (.istore 4, 2) := by decide +kernel
theorem dX7_firstUse_8 : decode bX7_firstUse 8 = .ok (.iconst 1, 1) := by decide +kernel
theorem dX7_firstUse_9 : decode bX7_firstUse 9 = .ok (.istore 5, 2) := by decide +kernel
theorem dX7_firstUse_11 : decode bX7_firstUse 11 = .ok (.iload 5, 2) := by decide +kernel
theorem dX7_firstUse_13 : decode bX7_firstUse 13 = .ok (.aload_n 0, 1) := by decide +kernel
theorem dX7_firstUse_14 : decode bX7_firstUse 14 = .ok (.getfield 27, 3) := by decide +kernel
theorem dX7_firstUse_17 : decode bX7_firstUse 17 = .ok (.invokestatic 54, 3) := by decide +kernel
theorem dX7_firstUse_20 : decode bX7_firstUse 20 = .ok (.if_icmp .gt 51, 3) := by decide +kernel
theorem dX7_firstUse_23 : decode bX7_firstUse 23 = .ok (.iload 4, 2) := by decide +kernel
theorem dX7_firstUse_25 : decode bX7_firstUse 25 = .ok (.iload 5, 2) := by decide +kernel
theorem dX7_firstUse_27 : decode bX7_firstUse 27 = .ok (.invokestatic 58, 3) := by decide +kernel
theorem dX7_firstUse_30 : decode bX7_firstUse 30 = .ok (.ifCond .eq 35, 3) := by decide +kernel
theorem dX7_firstUse_33 : decode bX7_firstUse 33 = .ok (.aload_n 0, 1) := by decide +kernel
theorem dX7_firstUse_34 : decode bX7_firstUse 34 = .ok (.iload_n 1, 1) := by decide +kernel
theorem dX7_firstUse_35 : decode bX7_firstUse 35 = .ok (.iconst 1, 1) := by decide +kernel
theorem dX7_firstUse_36 : decode bX7_firstUse 36 = .ok (.iadd, 1) := by decide +kernel
theorem dX7_firstUse_37 : decode bX7_firstUse 37 = .ok (.iload_n 2, 1) := by decide +kernel
theorem dX7_firstUse_38 : decode bX7_firstUse 38 = .ok (.iload 4, 2) := by decide +kernel
theorem dX7_firstUse_40 : decode bX7_firstUse 40 = .ok (.iload 5, 2) := by decide +kernel
theorem dX7_firstUse_42 : decode bX7_firstUse 42 = .ok (.invokestatic 62, 3) := by decide +kernel
theorem dX7_firstUse_45 : decode bX7_firstUse 45 = .ok (.isub, 1) := by decide +kernel
theorem dX7_firstUse_46 : decode bX7_firstUse 46 = .ok (.invokevirtual 79, 3) := by decide +kernel
theorem dX7_firstUse_49 : decode bX7_firstUse 49 = .ok (.aload_n 0, 1) := by decide +kernel
theorem dX7_firstUse_50 : decode bX7_firstUse 50 = .ok (.iload 4, 2) := by decide +kernel
theorem dX7_firstUse_52 : decode bX7_firstUse 52 = .ok (.iload 5, 2) := by decide +kernel
theorem dX7_firstUse_54 : decode bX7_firstUse 54 = .ok (.invokevirtual 65, 3) := by decide +kernel
theorem dX7_firstUse_57 : decode bX7_firstUse 57 = .ok (.iadd, 1) := by decide +kernel
theorem dX7_firstUse_58 : decode bX7_firstUse 58 = .ok (.iload_n 3, 1) := by decide +kernel
theorem dX7_firstUse_59 : decode bX7_firstUse 59 = .ok (.if_icmp .ne 6, 3) := by decide +kernel
theorem dX7_firstUse_62 : decode bX7_firstUse 62 = .ok (.iload 5, 2) := by decide +kernel
theorem dX7_firstUse_64 : decode bX7_firstUse 64 = .ok (.ireturn, 1) := by decide +kernel
theorem dX7_firstUse_65 : decode bX7_firstUse 65 = .ok (.iinc 5 1, 3) := by decide +kernel
theorem dX7_firstUse_68 : decode bX7_firstUse 68 = .ok (.goto (-57), 3) := by decide +kernel
theorem dX7_firstUse_71 : decode bX7_firstUse 71 = .ok (.iconst 0, 1) := by decide +kernel
theorem dX7_firstUse_72 : decode bX7_firstUse 72 = .ok (.ireturn, 1) := by decide +kernel
section
variable {p : Program} {l : Launch} {e : Env} {s : State} {m : MethodId} {args : Array Value} {below : List Frame} {meth : Method} {c : Code} {G : GG} {n : Nat} {h' : Hp} {rv : Int32}
set_option maxHeartbeats 4000000
set_option maxRecDepth 100000
theorem j_X7_firstUse_11 (C0 : Cx p s m args meth c G bX7_firstUse RX7 6 (some .int) "firstUse") (hN : NX ≤ n) : ∀ (fu : Nat), ∀ {H : Heap} {locs : List Loc} {ls : Array Slot} {h : Hp} {x0 : Nat} {x1 : Int32} {x2 : Int32} {x3 : Int32} {x4 : Int32} {x5 : Int32}, XW G n h s 0 H locs → lv_has ls 6 [(0, .ref (bs G + x0)), (1, .int x1), (2, .int x2), (3, .int x3), (4, .int x4), (5, .int x5)] → kd x0 = 7 → f_X7_firstUse_11 fu h x0 x1 x2 x3 x4 x5 = some (rv, h') → W p l e (rmC 1 0 0) s m args below meth c H locs 0 0 (MQ below (QP G n h' (some (.int rv))) args s 0 0 (Ab G)) (F0 m 11 ls []) := by
  obtain ⟨hx, hb, hr, hml, hown, hts, hK, hlocks, hnm⟩ := id C0
  intro fu
  induction fu with
  | zero => intro H locs ls h x0 x1 x2 x3 x4 x5 X hl o0 hf; cases hf
  | succ fu ih =>
    intro H locs ls h x0 x1 x2 x3 x4 x5 X hl o0 hf
    rw [f_X7_firstUse_11] at hf
    refine lv_iload hx hb dX7_firstUse_11 (lv_at hl 5 rfl) ?_
    refine lv_aload_n hx hb dX7_firstUse_13 rfl (lv_at hl 0 rfl) ?_
    refine g_I hx hb hts hown hK X o0 hN fl_X7_27 (by decide) rfl dX7_firstUse_14 ?_
    obtain ⟨r1, h2, q3, hf⟩ := bd_e hf
    refine c_SN0 (As := [.int (h.1 x0 11)]) (rest := [.int x5]) (st1 := [.int r1, .int x5]) hx hb hml hown hts hK X (k_X11_lastUse l G n hN q3) lc_X11_lastUse ls_X7_54 (by decide) rfl hl.1 (Nat.le_of_ble_eq_true rfl) dX7_firstUse_17 rfl (fun H locs X => ?_)
    refine lv_icmp_gt (tgt := 71) hx hb dX7_firstUse_20 (by decide) (fun c20 => ?_) (fun c20 => ?_)
    · have hf := ite_t hf c20
      refine lv_iconst (v := (0 : Int32)) hx hb dX7_firstUse_71 (by decide) ?_
      exact r_I hx hb hr hlocks X hf dX7_firstUse_72
    · have hf := ite_f hf c20
      refine lv_iload hx hb dX7_firstUse_23 (lv_at hl 4 rfl) ?_
      refine lv_iload hx hb dX7_firstUse_25 (lv_at hl 5 rfl) ?_
      obtain ⟨r4, h5, q6, hf⟩ := bd_e hf
      refine c_SN0 (As := [.int x4, .int x5]) (rest := []) (st1 := [.int r4]) hx hb hml hown hts hK X (k_X11_canStand l G n hN q6) lc_X11_canStand ls_X7_58 (by decide) rfl hl.1 (Nat.le_of_ble_eq_true rfl) dX7_firstUse_27 rfl (fun H locs X => ?_)
      refine lv_if_eq (tgt := 65) hx hb dX7_firstUse_30 (by decide) (fun c30 => ?_) (fun c30 => ?_)
      · have hf := ite_t hf c30
        refine lv_iinc (v := (x5 + (1 : Int32))) (lv' := [(5, .int (x5 + (1 : Int32))), (0, .ref (bs G + x0)), (1, .int x1), (2, .int x2), (3, .int x3), (4, .int x4)]) hx hb dX7_firstUse_65 hl (k := 5) rfl rfl (by decide) rfl (fun ls hl => ?_)
        refine lv_goto (tgt := 11) hx hb dX7_firstUse_68 (by decide) ?_
        exact ih X (lv_sub hl [1, 2, 3, 4, 5, 0] rfl) o0 hf
      · have hf := ite_f hf c30
        refine lv_aload_n hx hb dX7_firstUse_33 rfl (lv_at hl 0 rfl) ?_
        refine lv_iload_n hx hb dX7_firstUse_34 rfl (lv_at hl 1 rfl) ?_
        refine lv_iconst (v := (1 : Int32)) hx hb dX7_firstUse_35 (by decide) ?_
        refine lv_iadd hx hb dX7_firstUse_36 ?_
        refine lv_iload_n hx hb dX7_firstUse_37 rfl (lv_at hl 2 rfl) ?_
        refine lv_iload hx hb dX7_firstUse_38 (lv_at hl 4 rfl) ?_
        refine lv_iload hx hb dX7_firstUse_40 (lv_at hl 5 rfl) ?_
        obtain ⟨r7, h8, q9, hf⟩ := bd_e hf
        refine c_SN0 (As := [.int x4, .int x5]) (rest := [.int x2, .int (x1 + (1 : Int32)), .ref (bs G + x0)]) (st1 := [.int r7, .int x2, .int (x1 + (1 : Int32)), .ref (bs G + x0)]) hx hb hml hown hts hK X (k_X11_countsAs l G n hN q9) lc_X11_countsAs ls_X7_62 (by decide) rfl hl.1 (Nat.le_of_ble_eq_true rfl) dX7_firstUse_42 rfl (fun H locs X => ?_)
        refine lv_isub hx hb dX7_firstUse_45 ?_
        obtain ⟨r10, h11, q12, hf⟩ := bd_e hf
        refine c_V0 (As := [.int (x1 + (1 : Int32)), .int (x2 - r7)]) (rest := []) (st1 := [.int r10]) hx hb hml hown hts hK X (k_X7_at l G n hN q12) o0 hN lc_X7_at lv_X7_79 (ci := 7) rfl rfl (by decide) rfl hl.1 (Nat.le_of_ble_eq_true rfl) dX7_firstUse_46 rfl (fun H locs X => ?_)
        refine lv_aload_n hx hb dX7_firstUse_49 rfl (lv_at hl 0 rfl) ?_
        refine lv_iload hx hb dX7_firstUse_50 (lv_at hl 4 rfl) ?_
        refine lv_iload hx hb dX7_firstUse_52 (lv_at hl 5 rfl) ?_
        obtain ⟨r13, h14, q15, hf⟩ := bd_e hf
        refine c_V0 (As := [.int x4, .int x5]) (rest := [.int r10]) (st1 := [.int r13, .int r10]) hx hb hml hown hts hK X (k_X7_weight l G n hN q15) o0 hN lc_X7_weight lv_X7_65 (ci := 7) rfl rfl (by decide) rfl hl.1 (Nat.le_of_ble_eq_true rfl) dX7_firstUse_54 rfl (fun H locs X => ?_)
        refine lv_iadd hx hb dX7_firstUse_57 ?_
        refine lv_iload_n hx hb dX7_firstUse_58 rfl (lv_at hl 3 rfl) ?_
        refine lv_icmp_ne (tgt := 65) hx hb dX7_firstUse_59 (by decide) (fun c59 => ?_) (fun c59 => ?_)
        · have hf := ite_f hf c59
          refine lv_iinc (v := (x5 + (1 : Int32))) (lv' := [(5, .int (x5 + (1 : Int32))), (0, .ref (bs G + x0)), (1, .int x1), (2, .int x2), (3, .int x3), (4, .int x4)]) hx hb dX7_firstUse_65 hl (k := 5) rfl rfl (by decide) rfl (fun ls hl => ?_)
          refine lv_goto (tgt := 11) hx hb dX7_firstUse_68 (by decide) ?_
          exact ih X (lv_sub hl [1, 2, 3, 4, 5, 0] rfl) o0 hf
        · have hf := ite_t hf c59
          refine lv_iload hx hb dX7_firstUse_62 (lv_at hl 5 rfl) ?_
          exact r_I hx hb hr hlocks X hf dX7_firstUse_64
theorem k_X7_firstUse (l : Launch) (G : GG) (n : Nat) (hN : NX ≤ n) {h h' : Hp} {x0 : Nat} {x1 : Int32} {x2 : Int32} {x3 : Int32} {rv : Int32} (hf : f_X7_firstUse h x0 x1 x2 x3 = some (rv, h')) : CT l G n n yX7_firstUse (.code yX7_firstUse bX7_firstUse 6 (some .int)) 1 0 0 [.ref (bs G + x0), .int x1, .int x2, .int x3] h h' (some (.int rv)) := by
  refine ct_of (maxL := 6) (ret := (some .int)) (bytes := bX7_firstUse) (by decide) (Nat.le_of_ble_eq_true rfl) (fun p e s m below meth c C0 X ls hl => ?_)
  have hl : lv_has ls 6 [(0, .ref (bs G + x0)), (1, .int x1), (2, .int x2), (3, .int x3)] := hl
  obtain ⟨hx, hb, hr, hml, hown, hts, hK, hlocks, hnm⟩ := id C0
  unfold f_X7_firstUse at hf
  obtain ⟨o0, hf⟩ := gd_e hf
  refine lv_aload_n hx hb dX7_firstUse_0 rfl (lv_at hl 0 rfl) ?_
  obtain ⟨g1, hf⟩ := gd_e hf
  refine g_R hx hb hts hown hK X o0 hN g1 fl_X7_21 (by decide) rfl (by decide) dX7_firstUse_1 ?_
  refine lv_iload_n hx hb dX7_firstUse_4 rfl (lv_at hl 1 rfl) ?_
  obtain ⟨g2, hf⟩ := gd_e hf
  refine g_ia hx hb hK X g1 hN g2 (by decide) dX7_firstUse_5 ?_
  refine lv_istore (lv' := [(4, .int (h.1 (h.2 x0 7) x1.toNatClampNeg)), (0, .ref (bs G + x0)), (1, .int x1), (2, .int x2), (3, .int x3)]) hx hb dX7_firstUse_6 hl (by decide) rfl (fun ls hl => ?_)
  refine lv_iconst (v := (1 : Int32)) hx hb dX7_firstUse_8 (by decide) ?_
  refine lv_istore (lv' := [(5, .int (1 : Int32)), (4, .int (h.1 (h.2 x0 7) x1.toNatClampNeg)), (0, .ref (bs G + x0)), (1, .int x1), (2, .int x2), (3, .int x3)]) hx hb dX7_firstUse_9 hl (by decide) rfl (fun ls hl => ?_)
  exact j_X7_firstUse_11 C0 hN FU X (lv_sub hl [2, 3, 4, 5, 1, 0] rfl) o0 hf
end
theorem dX7_pick_0 : decode bX7_pick 0 = .ok (.aload_n 0, 1) := by decide +kernel
theorem dX7_pick_1 : decode bX7_pick 1 = .ok (.iconst 0, 1) := by decide +kernel
theorem dX7_pick_2 : decode bX7_pick 2 = .ok (.putfield 68, 3) := by decide +kernel
theorem dX7_pick_5 : decode bX7_pick 5 = .ok (.aload_n 0, 1) := by decide +kernel
theorem dX7_pick_6 : decode bX7_pick 6 = .ok (.iconst 0, 1) := by decide +kernel
theorem dX7_pick_7 : decode bX7_pick 7 = .ok (.putfield 71, 3) := by decide +kernel
theorem dX7_pick_10 : decode bX7_pick 10 = .ok (.aload_n 0, 1) := by decide +kernel
theorem dX7_pick_11 : decode bX7_pick 11 = .ok (.iconst 0, 1) := by decide +kernel
theorem dX7_pick_12 : decode bX7_pick 12 = .ok (.putfield 74, 3) := by decide +kernel
theorem dX7_pick_15 : decode bX7_pick 15 = .ok (.aload_n 0, 1) := by decide +kernel
theorem dX7_pick_16 : decode bX7_pick 16 = .ok (.iconst 0, 1) := by decide +kernel
theorem dX7_pick_17 : decode bX7_pick 17 = .ok (.putfield 77, 3) := by decide +kernel
theorem dX7_pick_20 : decode bX7_pick 20 = .ok (.iload_n 1, 1) := by decide +kernel
theorem dX7_pick_21 : decode bX7_pick 21 = .ok (.istore_n 2, 1) := by decide +kernel
theorem dX7_pick_22 : decode bX7_pick 22 = .ok (.aload_n 0, 1) := by decide +kernel
theorem dX7_pick_23 : decode bX7_pick 23 = .ok (.iconst 0, 1) := by decide +kernel
theorem dX7_pick_24 : decode bX7_pick 24 = .ok (.iload_n 2, 1) := by decide +kernel
theorem dX7_pick_25 : decode bX7_pick 25 = .ok (.invokevirtual 79, 3) := by decide +kernel
theorem dX7_pick_28 : decode bX7_pick 28 = .ok (.istore_n 3, 1) := by decide +kernel
theorem dX7_pick_29 : decode bX7_pick 29 = .ok (.iconst 0, 1) := by decide +kernel
theorem dX7_pick_30 : decode bX7_pick 30 = .ok (.istore 4, 2) := by decide +kernel
theorem dX7_pick_32 : decode bX7_pick 32 = .ok (.iload 4, 2) := by decide +kernel
theorem dX7_pick_34 : decode bX7_pick 34 = .ok (.aload_n 0, 1) := by decide +kernel
theorem dX7_pick_35 : decode bX7_pick 35 = .ok (.getfield 46, 3) := by decide +kernel
theorem dX7_pick_38 : decode bX7_pick 38 = .ok (.if_icmp .ge 68, 3) := by decide +kernel
theorem dX7_pick_41 : decode bX7_pick 41 = .ok (.iload_n 3, 1) := by decide +kernel
theorem dX7_pick_42 : decode bX7_pick 42 = .ok (.ldc 49, 2) := by decide +kernel
theorem dX7_pick_44 : decode bX7_pick 44 = .ok (.if_icmp .ge 62, 3) := by decide +kernel
theorem dX7_pick_47 : decode bX7_pick 47 = .ok (.aload_n 0, 1) := by decide +kernel
theorem dX7_pick_48 : decode bX7_pick 48 = .ok (.iload 4, 2) := by decide +kernel
theorem dX7_pick_50 : decode bX7_pick 50 = .ok (.iload_n 2, 1) := by decide +kernel
theorem dX7_pick_51 : decode bX7_pick 51 = .ok (.iload_n 3, 1) := by decide +kernel
theorem dX7_pick_52 : decode bX7_pick 52 = .ok (.invokevirtual 82, 3) := by decide +kernel
theorem dX7_pick_55 : decode bX7_pick 55 = .ok (.istore 5, 2) := by decide +kernel
theorem dX7_pick_57 : decode bX7_pick 57 = .ok (.iload 5, 2) := by decide +kernel
theorem dX7_pick_59 : decode bX7_pick 59 = .ok (.ifCond .eq 31, 3) := by decide +kernel
theorem dX7_pick_62 : decode bX7_pick 62 = .ok (.aload_n 0, 1) := by decide +kernel
theorem dX7_pick_63 : decode bX7_pick 63 = .ok (.aload_n 0, 1) := by decide +kernel
theorem dX7_pick_64 : decode bX7_pick 64 = .ok (.getfield 21, 3) := by decide +kernel
theorem dX7_pick_67 : decode bX7_pick 67 = .ok (.iload 4, 2) := by decide +kernel
theorem dX7_pick_69 : decode bX7_pick 69 = .ok (.iaload, 1) := by decide +kernel
theorem dX7_pick_70 : decode bX7_pick 70 = .ok (.iload 5, 2) := by decide +kernel
theorem dX7_pick_72 : decode bX7_pick 72 = .ok (.invokevirtual 86, 3) := by decide +kernel
theorem dX7_pick_75 : decode bX7_pick 75 = .ok (.iload_n 2, 1) := by decide +kernel
theorem dX7_pick_76 : decode bX7_pick 76 = .ok (.aload_n 0, 1) := by decide +kernel
theorem dX7_pick_77 : decode bX7_pick 77 = .ok (.getfield 21, 3) := by decide +kernel
theorem dX7_pick_80 : decode bX7_pick 80 = .ok (.iload 4, 2) := by decide +kernel
theorem dX7_pick_82 : decode bX7_pick 82 = .ok (.iaload, 1) := by decide +kernel
theorem dX7_pick_83 : decode bX7_pick 83 = .ok (.iload 5, 2) := by decide +kernel
theorem dX7_pick_85 : decode bX7_pick 85 = .ok (.invokestatic 62, 3) := by decide +kernel
theorem dX7_pick_88 : decode bX7_pick 88 = .ok (.isub, 1) := by decide +kernel
theorem dX7_pick_89 : decode bX7_pick 89 = .ok (.istore_n 2, 1) := by decide +kernel
theorem dX7_pick_90 : decode bX7_pick 90 = .ok (.aload_n 0, 1) := by decide +kernel
theorem dX7_pick_91 : decode bX7_pick 91 = .ok (.iload 4, 2) := by decide +kernel
theorem dX7_pick_93 : decode bX7_pick 93 = .ok (.iconst 1, 1) := by decide +kernel
theorem dX7_pick_94 : decode bX7_pick 94 = .ok (.iadd, 1) := by decide +kernel
theorem dX7_pick_95 : decode bX7_pick 95 = .ok (.iload_n 2, 1) := by decide +kernel
theorem dX7_pick_96 : decode bX7_pick 96 = .ok (.invokevirtual 79, 3) := by decide +kernel
theorem dX7_pick_99 : decode bX7_pick 99 = .ok (.istore_n 3, 1) := by decide +kernel
theorem dX7_pick_100 : decode bX7_pick 100 = .ok (.iinc 4 1, 3) := by decide +kernel
theorem dX7_pick_103 : decode bX7_pick 103 = .ok (.goto (-71), 3) := by decide +kernel
theorem dX7_pick_106 : decode bX7_pick 106 = .ok (.return_, 1) := by decide +kernel
section
variable {p : Program} {l : Launch} {e : Env} {s : State} {m : MethodId} {args : Array Value} {below : List Frame} {meth : Method} {c : Code} {G : GG} {n : Nat} {h' : Hp} {rv : Unit}
set_option maxHeartbeats 4000000
set_option maxRecDepth 100000
theorem j_X7_pick_90 (C0 : Cx p s m args meth c G bX7_pick RX7 6 none "pick") (hN : NX ≤ n) {k32 : Hp → Nat → Int32 → Int32 → Int32 → Option (Unit × Hp)} (ih32 : ∀ {H : Heap} {locs : List Loc} {ls : Array Slot} {h : Hp} {x0 : Nat} {x2 : Int32} {x3 : Int32} {x4 : Int32}, XW G n h s 0 H locs → lv_has ls 6 [(0, .ref (bs G + x0)), (2, .int x2), (3, .int x3), (4, .int x4)] → kd x0 = 7 → k32 h x0 x2 x3 x4 = some (rv, h') → W p l e (rmC 2 0 0) s m args below meth c H locs 0 0 (MQ below (QP G n h' none) args s 0 0 (Ab G)) (F0 m 32 ls [])) {H : Heap} {locs : List Loc} {ls : Array Slot} {h : Hp} {x0 : Nat} {x2 : Int32} {x4 : Int32} (X : XW G n h s 0 H locs) (hl : lv_has ls 6 [(0, .ref (bs G + x0)), (2, .int x2), (4, .int x4)]) (o0 : kd x0 = 7) (hf : f_X7_pick_90 k32 h x0 x2 x4 = some (rv, h')) : W p l e (rmC 2 0 0) s m args below meth c H locs 0 0 (MQ below (QP G n h' none) args s 0 0 (Ab G)) (F0 m 90 ls []) := by
  obtain ⟨hx, hb, hr, hml, hown, hts, hK, hlocks, hnm⟩ := id C0
  unfold f_X7_pick_90 at hf
  refine lv_aload_n hx hb dX7_pick_90 rfl (lv_at hl 0 rfl) ?_
  refine lv_iload hx hb dX7_pick_91 (lv_at hl 2 rfl) ?_
  refine lv_iconst (v := (1 : Int32)) hx hb dX7_pick_93 (by decide) ?_
  refine lv_iadd hx hb dX7_pick_94 ?_
  refine lv_iload_n hx hb dX7_pick_95 rfl (lv_at hl 1 rfl) ?_
  obtain ⟨r1, h2, q3, hf⟩ := bd_e hf
  refine c_V0 (As := [.int (x4 + (1 : Int32)), .int x2]) (rest := []) (st1 := [.int r1]) hx hb hml hown hts hK X (k_X7_at l G n hN q3) o0 hN lc_X7_at lv_X7_79 (ci := 7) rfl rfl (by decide) rfl hl.1 (Nat.le_of_ble_eq_true rfl) dX7_pick_96 rfl (fun H locs X => ?_)
  refine lv_istore_n (lv' := [(3, .int r1), (0, .ref (bs G + x0)), (2, .int x2), (4, .int x4)]) hx hb dX7_pick_99 rfl hl (by decide) rfl (fun ls hl => ?_)
  refine lv_iinc (v := (x4 + (1 : Int32))) (lv' := [(4, .int (x4 + (1 : Int32))), (3, .int r1), (0, .ref (bs G + x0)), (2, .int x2)]) hx hb dX7_pick_100 hl (k := 3) rfl rfl (by decide) rfl (fun ls hl => ?_)
  refine lv_goto (tgt := 32) hx hb dX7_pick_103 (by decide) ?_
  exact ih32 X (lv_sub hl [2, 3, 1, 0] rfl) o0 hf
theorem j_X7_pick_32 (C0 : Cx p s m args meth c G bX7_pick RX7 6 none "pick") (hN : NX ≤ n) : ∀ (fu : Nat), ∀ {H : Heap} {locs : List Loc} {ls : Array Slot} {h : Hp} {x0 : Nat} {x2 : Int32} {x3 : Int32} {x4 : Int32}, XW G n h s 0 H locs → lv_has ls 6 [(0, .ref (bs G + x0)), (2, .int x2), (3, .int x3), (4, .int x4)] → kd x0 = 7 → f_X7_pick_32 fu h x0 x2 x3 x4 = some (rv, h') → W p l e (rmC 2 0 0) s m args below meth c H locs 0 0 (MQ below (QP G n h' none) args s 0 0 (Ab G)) (F0 m 32 ls []) := by
  obtain ⟨hx, hb, hr, hml, hown, hts, hK, hlocks, hnm⟩ := id C0
  intro fu
  induction fu with
  | zero => intro H locs ls h x0 x2 x3 x4 X hl o0 hf; cases hf
  | succ fu ih =>
    intro H locs ls h x0 x2 x3 x4 X hl o0 hf
    rw [f_X7_pick_32] at hf
    refine lv_iload hx hb dX7_pick_32 (lv_at hl 3 rfl) ?_
    refine lv_aload_n hx hb dX7_pick_34 rfl (lv_at hl 0 rfl) ?_
    refine g_I hx hb hts hown hK X o0 hN fl_X7_46 (by decide) rfl dX7_pick_35 ?_
    refine lv_icmp_ge (tgt := 106) hx hb dX7_pick_38 (by decide) (fun c38 => ?_) (fun c38 => ?_)
    · have hf := ite_t hf c38
      exact r_V hx hb hr hlocks X hf dX7_pick_106
    · have hf := ite_f hf c38
      refine lv_iload_n hx hb dX7_pick_41 rfl (lv_at hl 2 rfl) ?_
      refine lv_ldc hx hb hown (hts _ cn_X7_49) dX7_pick_42 ?_
      refine lv_icmp_ge (tgt := 106) hx hb dX7_pick_44 (by decide) (fun c44 => ?_) (fun c44 => ?_)
      · have hf := ite_t hf c44
        exact r_V hx hb hr hlocks X hf dX7_pick_106
      · have hf := ite_f hf c44
        refine lv_aload_n hx hb dX7_pick_47 rfl (lv_at hl 0 rfl) ?_
        refine lv_iload hx hb dX7_pick_48 (lv_at hl 3 rfl) ?_
        refine lv_iload_n hx hb dX7_pick_50 rfl (lv_at hl 1 rfl) ?_
        refine lv_iload_n hx hb dX7_pick_51 rfl (lv_at hl 2 rfl) ?_
        obtain ⟨r1, h2, q3, hf⟩ := bd_e hf
        refine c_V0 (As := [.int x4, .int x2, .int x3]) (rest := []) (st1 := [.int r1]) hx hb hml hown hts hK X (k_X7_firstUse l G n hN q3) o0 hN lc_X7_firstUse lv_X7_82 (ci := 7) rfl rfl (by decide) rfl hl.1 (Nat.le_of_ble_eq_true rfl) dX7_pick_52 rfl (fun H locs X => ?_)
        refine lv_istore (lv' := [(5, .int r1), (0, .ref (bs G + x0)), (2, .int x2), (3, .int x3), (4, .int x4)]) hx hb dX7_pick_55 hl (by decide) rfl (fun ls hl => ?_)
        refine lv_iload hx hb dX7_pick_57 (lv_at hl 0 rfl) ?_
        refine lv_if_eq (tgt := 90) hx hb dX7_pick_59 (by decide) (fun c59 => ?_) (fun c59 => ?_)
        · have hf := ite_t hf c59
          exact j_X7_pick_90 C0 hN @ih X (lv_sub hl [1, 2, 4] rfl) o0 hf
        · have hf := ite_f hf c59
          refine lv_aload_n hx hb dX7_pick_62 rfl (lv_at hl 1 rfl) ?_
          refine lv_aload_n hx hb dX7_pick_63 rfl (lv_at hl 1 rfl) ?_
          obtain ⟨g4, hf⟩ := gd_e hf
          refine g_R hx hb hts hown hK X o0 hN g4 fl_X7_21 (by decide) rfl (by decide) dX7_pick_64 ?_
          refine lv_iload hx hb dX7_pick_67 (lv_at hl 4 rfl) ?_
          obtain ⟨g5, hf⟩ := gd_e hf
          refine g_ia hx hb hK X g4 hN g5 (by decide) dX7_pick_69 ?_
          refine lv_iload hx hb dX7_pick_70 (lv_at hl 0 rfl) ?_
          obtain ⟨r6, h7, q8, hf⟩ := bd_e hf
          refine c_V0 (As := [.int (h2.1 (h2.2 x0 7) x4.toNatClampNeg), .int r1]) (rest := []) (st1 := []) hx hb hml hown hts hK X (k_X7_add l G n hN q8) o0 hN lc_X7_add lv_X7_86 (ci := 7) rfl rfl (by decide) rfl hl.1 (Nat.le_of_ble_eq_true rfl) dX7_pick_72 rfl (fun H locs X => ?_)
          refine lv_iload_n hx hb dX7_pick_75 rfl (lv_at hl 2 rfl) ?_
          refine lv_aload_n hx hb dX7_pick_76 rfl (lv_at hl 1 rfl) ?_
          obtain ⟨g9, hf⟩ := gd_e hf
          refine g_R hx hb hts hown hK X o0 hN g9 fl_X7_21 (by decide) rfl (by decide) dX7_pick_77 ?_
          refine lv_iload hx hb dX7_pick_80 (lv_at hl 4 rfl) ?_
          obtain ⟨g10, hf⟩ := gd_e hf
          refine g_ia hx hb hK X g9 hN g10 (by decide) dX7_pick_82 ?_
          refine lv_iload hx hb dX7_pick_83 (lv_at hl 0 rfl) ?_
          obtain ⟨r11, h12, q13, hf⟩ := bd_e hf
          refine c_SN0 (As := [.int (h7.1 (h7.2 x0 7) x4.toNatClampNeg), .int r1]) (rest := [.int x2]) (st1 := [.int r11, .int x2]) hx hb hml hown hts hK X (k_X11_countsAs l G n hN q13) lc_X11_countsAs ls_X7_62 (by decide) rfl hl.1 (Nat.le_of_ble_eq_true rfl) dX7_pick_85 rfl (fun H locs X => ?_)
          refine lv_isub hx hb dX7_pick_88 ?_
          refine lv_istore_n (lv' := [(2, .int (x2 - r11)), (5, .int r1), (0, .ref (bs G + x0)), (3, .int x3), (4, .int x4)]) hx hb dX7_pick_89 rfl hl (by decide) rfl (fun ls hl => ?_)
          exact j_X7_pick_90 C0 hN @ih X (lv_sub hl [2, 0, 4] rfl) o0 hf
theorem k_X7_pick (l : Launch) (G : GG) (n : Nat) (hN : NX ≤ n) {h h' : Hp} {x0 : Nat} {x1 : Int32} {rv : Unit} (hf : f_X7_pick h x0 x1 = some (rv, h')) : CT l G n n yX7_pick (.code yX7_pick bX7_pick 6 none) 2 0 0 [.ref (bs G + x0), .int x1] h h' none := by
  refine ct_of (maxL := 6) (ret := none) (bytes := bX7_pick) (by decide) (Nat.le_of_ble_eq_true rfl) (fun p e s m below meth c C0 X ls hl => ?_)
  have hl : lv_has ls 6 [(0, .ref (bs G + x0)), (1, .int x1)] := hl
  obtain ⟨hx, hb, hr, hml, hown, hts, hK, hlocks, hnm⟩ := id C0
  unfold f_X7_pick at hf
  obtain ⟨o0, hf⟩ := gd_e hf
  refine lv_aload_n hx hb dX7_pick_0 rfl (lv_at hl 0 rfl) ?_
  refine lv_iconst (v := (0 : Int32)) hx hb dX7_pick_1 (by decide) ?_
  refine g_PI hx hb hts hown hK X o0 hN fl_X7_68 ft_7_0 (by decide) rfl dX7_pick_2 (fun H locs X => ?_)
  obtain ⟨h1, e2, hf⟩ := lt_e hf
  rw [← e2] at X
  refine lv_aload_n hx hb dX7_pick_5 rfl (lv_at hl 0 rfl) ?_
  refine lv_iconst (v := (0 : Int32)) hx hb dX7_pick_6 (by decide) ?_
  refine g_PI hx hb hts hown hK X o0 hN fl_X7_71 ft_7_1 (by decide) rfl dX7_pick_7 (fun H locs X => ?_)
  obtain ⟨h3, e4, hf⟩ := lt_e hf
  rw [← e4] at X
  refine lv_aload_n hx hb dX7_pick_10 rfl (lv_at hl 0 rfl) ?_
  refine lv_iconst (v := (0 : Int32)) hx hb dX7_pick_11 (by decide) ?_
  refine g_PI hx hb hts hown hK X o0 hN fl_X7_74 ft_7_2 (by decide) rfl dX7_pick_12 (fun H locs X => ?_)
  obtain ⟨h5, e6, hf⟩ := lt_e hf
  rw [← e6] at X
  refine lv_aload_n hx hb dX7_pick_15 rfl (lv_at hl 0 rfl) ?_
  refine lv_iconst (v := (0 : Int32)) hx hb dX7_pick_16 (by decide) ?_
  refine g_PI hx hb hts hown hK X o0 hN fl_X7_77 ft_7_3 (by decide) rfl dX7_pick_17 (fun H locs X => ?_)
  obtain ⟨h7, e8, hf⟩ := lt_e hf
  rw [← e8] at X
  refine lv_iload_n hx hb dX7_pick_20 rfl (lv_at hl 1 rfl) ?_
  refine lv_istore_n (lv' := [(2, .int x1), (0, .ref (bs G + x0)), (1, .int x1)]) hx hb dX7_pick_21 rfl hl (by decide) rfl (fun ls hl => ?_)
  refine lv_aload_n hx hb dX7_pick_22 rfl (lv_at hl 1 rfl) ?_
  refine lv_iconst (v := (0 : Int32)) hx hb dX7_pick_23 (by decide) ?_
  refine lv_iload_n hx hb dX7_pick_24 rfl (lv_at hl 0 rfl) ?_
  obtain ⟨r9, h10, q11, hf⟩ := bd_e hf
  refine c_V0 (As := [.int (0 : Int32), .int x1]) (rest := []) (st1 := [.int r9]) hx hb hml hown hts hK X (k_X7_at l G n hN q11) o0 hN lc_X7_at lv_X7_79 (ci := 7) rfl rfl (by decide) rfl hl.1 (Nat.le_of_ble_eq_true rfl) dX7_pick_25 rfl (fun H locs X => ?_)
  refine lv_istore_n (lv' := [(3, .int r9), (2, .int x1), (0, .ref (bs G + x0)), (1, .int x1)]) hx hb dX7_pick_28 rfl hl (by decide) rfl (fun ls hl => ?_)
  refine lv_iconst (v := (0 : Int32)) hx hb dX7_pick_29 (by decide) ?_
  refine lv_istore (lv' := [(4, .int (0 : Int32)), (3, .int r9), (2, .int x1), (0, .ref (bs G + x0)), (1, .int x1)]) hx hb dX7_pick_30 hl (by decide) rfl (fun ls hl => ?_)
  exact j_X7_pick_32 C0 hN FU X (lv_sub hl [3, 2, 1, 0] rfl) o0 hf
end
theorem dX5_find_0 : decode bX5_find 0 = .ok (.aload_n 0, 1) := by decide +kernel
theorem dX5_find_1 : decode bX5_find 1 = .ok (.iconst 0, 1) := by decide +kernel
theorem dX5_find_2 : decode bX5_find 2 = .ok (.putfield 44, 3) := by decide +kernel
theorem dX5_find_5 : decode bX5_find 5 = .ok (.iload_n 2, 1) := by decide +kernel
theorem dX5_find_6 : decode bX5_find 6 = .ok (.iconst 1, 1) := by decide +kernel
theorem dX5_find_7 : decode bX5_find 7 = .ok (.if_icmp .lt 9, 3) := by decide +kernel
theorem dX5_find_10 : decode bX5_find 10 = .ok (.iload_n 2, 1) := by decide +kernel
theorem dX5_find_11 : decode bX5_find 11 = .ok (.bipush 99, 2) := by decide +kernel
theorem dX5_find_13 : decode bX5_find 13 = .ok (.if_icmp .le 5, 3) := by decide +kernel
theorem dX5_find_16 : decode bX5_find 16 = .ok (.iconst 0, 1) := by decide +kernel
theorem dX5_find_17 : decode bX5_find 17 = .ok (.ireturn, 1) := by decide +kernel
theorem dX5_find_18 : decode bX5_find 18 = .ok (.iload_n 2, 1) := by decide +kernel
theorem dX5_find_19 : decode bX5_find 19 = .ok (.bipush 8, 2) := by decide +kernel
theorem dX5_find_21 : decode bX5_find 21 = .ok (.imul, 1) := by decide +kernel
theorem dX5_find_22 : decode bX5_find 22 = .ok (.istore 4, 2) := by decide +kernel
theorem dX5_find_24 : decode bX5_find 24 = .ok (.iload 4, 2) := by decide +kernel
theorem dX5_find_26 : decode bX5_find 26 = .ok (.istore 5, 2) := by decide +kernel
theorem dX5_find_28 : decode bX5_find 28 = .ok (.iload 5, 2) := by decide +kernel
theorem dX5_find_30 : decode bX5_find 30 = .ok (.iload 4, 2) := by decide +kernel
theorem dX5_find_32 : decode bX5_find 32 = .ok (.bipush 8, 2) := by decide +kernel
theorem dX5_find_34 : decode bX5_find 34 = .ok (.iadd, 1) := by decide +kernel
theorem dX5_find_35 : decode bX5_find 35 = .ok (.if_icmp .ge 60, 3) := by decide +kernel
theorem dX5_find_38 : decode bX5_find 38 = .ok (.aload_n 0, 1) := by decide +kernel
theorem dX5_find_39 : decode bX5_find 39 = .ok (.getfield 22, 3) := by decide +kernel
theorem dX5_find_42 : decode bX5_find 42 = .ok (.iload 5, 2) := by decide +kernel
theorem dX5_find_44 : decode bX5_find 44 = .ok (.iaload, 1) := by decide +kernel
theorem dX5_find_45 : decode bX5_find 45 = .ok (.iload_n 3, 1) := by decide +kernel
theorem dX5_find_46 : decode bX5_find 46 = .ok (.if_icmp .ne 43, 3) := by decide +kernel
theorem dX5_find_49 : decode bX5_find 49 = .ok (.iload_n 1, 1) := by decide +kernel
theorem dX5_find_50 : decode bX5_find 50 = .ok (.aload_n 0, 1) := by decide +kernel
theorem dX5_find_51 : decode bX5_find 51 = .ok (.getfield 18, 3) := by decide +kernel
theorem dX5_find_54 : decode bX5_find 54 = .ok (.iload 5, 2) := by decide +kernel
theorem dX5_find_56 : decode bX5_find 56 = .ok (.iaload, 1) := by decide +kernel
theorem dX5_find_57 : decode bX5_find 57 = .ok (.iconst (-1), 1) := by decide +kernel
theorem dX5_find_58 : decode bX5_find 58 = .ok (.ixor, 1) := by decide +kernel
theorem dX5_find_59 : decode bX5_find 59 = .ok (.iand, 1) := by decide +kernel
theorem dX5_find_60 : decode bX5_find 60 = .ok (.ifCond .ne 29, 3) := by decide +kernel
theorem dX5_find_63 : decode bX5_find 63 = .ok (.aload_n 0, 1) := by decide +kernel
theorem dX5_find_64 : decode bX5_find 64 = .ok (.iload 5, 2) := by decide +kernel
theorem dX5_find_66 : decode bX5_find 66 = .ok (.invokevirtual 48, 3) := by decide +kernel
theorem dX5_find_69 : decode bX5_find 69 = .ok (.iload_n 1, 1) := by decide +kernel
theorem dX5_find_70 : decode bX5_find 70 = .ok (.iconst (-1), 1) := by decide +kernel
theorem dX5_find_71 : decode bX5_find 71 = .ok (.ixor, 1) := by decide +kernel
theorem dX5_find_72 : decode bX5_find 72 = .ok (.iand, 1) := by decide +kernel
theorem dX5_find_73 : decode bX5_find 73 = .ok (.ifCond .ne 16, 3) := by decide +kernel
theorem dX5_find_76 : decode bX5_find 76 = .ok (.aload_n 0, 1) := by decide +kernel
theorem dX5_find_77 : decode bX5_find 77 = .ok (.iload 5, 2) := by decide +kernel
theorem dX5_find_79 : decode bX5_find 79 = .ok (.putfield 44, 3) := by decide +kernel
theorem dX5_find_82 : decode bX5_find 82 = .ok (.aload_n 0, 1) := by decide +kernel
theorem dX5_find_83 : decode bX5_find 83 = .ok (.iload 5, 2) := by decide +kernel
theorem dX5_find_85 : decode bX5_find 85 = .ok (.invokevirtual 48, 3) := by decide +kernel
theorem dX5_find_88 : decode bX5_find 88 = .ok (.ireturn, 1) := by decide +kernel
theorem dX5_find_89 : decode bX5_find 89 = .ok (.iinc 5 1, 3) := by decide +kernel
theorem dX5_find_92 : decode bX5_find 92 = .ok (.goto (-64), 3) := by decide +kernel
theorem dX5_find_95 : decode bX5_find 95 = .ok (.aload_n 0, 1) := by decide +kernel
theorem dX5_find_96 : decode bX5_find 96 = .ok (.iload 4, 2) := by decide +kernel
theorem dX5_find_98 : decode bX5_find 98 = .ok (.aload_n 0, 1) := by decide +kernel
theorem dX5_find_99 : decode bX5_find 99 = .ok (.getfield 37, 3) := by decide +kernel
theorem dX5_find_102 : decode bX5_find 102 = .ok (.iload_n 2, 1) := by decide +kernel
theorem dX5_find_103 : decode bX5_find 103 = .ok (.iaload, 1) := by decide +kernel
theorem dX5_find_104 : decode bX5_find 104 = .ok (.iadd, 1) := by decide +kernel
theorem dX5_find_105 : decode bX5_find 105 = .ok (.putfield 44, 3) := by decide +kernel
theorem dX5_find_108 : decode bX5_find 108 = .ok (.aload_n 0, 1) := by decide +kernel
theorem dX5_find_109 : decode bX5_find 109 = .ok (.getfield 37, 3) := by decide +kernel
theorem dX5_find_112 : decode bX5_find 112 = .ok (.iload_n 2, 1) := by decide +kernel
theorem dX5_find_113 : decode bX5_find 113 = .ok (.aload_n 0, 1) := by decide +kernel
theorem dX5_find_114 : decode bX5_find 114 = .ok (.getfield 37, 3) := by decide +kernel
theorem dX5_find_117 : decode bX5_find 117 = .ok (.iload_n 2, 1) := by decide +kernel
theorem dX5_find_118 : decode bX5_find 118 = .ok (.iaload, 1) := by decide +kernel
theorem dX5_find_119 : decode bX5_find 119 = .ok (.iconst 1, 1) := by decide +kernel
theorem dX5_find_120 : decode bX5_find 120 = .ok (.iadd, 1) := by decide +kernel
theorem dX5_find_121 : decode bX5_find 121 = .ok (.bipush 8, 2) := by decide +kernel
theorem dX5_find_123 : decode bX5_find 123 = .ok (.irem, 1) := by decide +kernel
theorem dX5_find_124 : decode bX5_find 124 = .ok (.iastore, 1) := by decide +kernel
theorem dX5_find_125 : decode bX5_find 125 = .ok (.aload_n 0, 1) := by decide +kernel
theorem dX5_find_126 : decode bX5_find 126 = .ok (.getfield 14, 3) := by decide +kernel
theorem dX5_find_129 : decode bX5_find 129 = .ok (.iload_n 3, 1) := by decide +kernel
theorem dX5_find_130 : decode bX5_find 130 = .ok (.ifCond .ne 12, 3) := by decide +kernel
theorem dX5_find_133 : decode bX5_find 133 = .ok (.iload_n 1, 1) := by decide +kernel
theorem dX5_find_134 : decode bX5_find 134 = .ok (.iload_n 2, 1) := by decide +kernel
theorem dX5_find_135 : decode bX5_find 135 = .ok (.invokestatic 52, 3) := by decide +kernel
theorem dX5_find_138 : decode bX5_find 138 = .ok (.iand, 1) := by decide +kernel
theorem dX5_find_139 : decode bX5_find 139 = .ok (.goto 4, 3) := by decide +kernel
theorem dX5_find_142 : decode bX5_find 142 = .ok (.iload_n 1, 1) := by decide +kernel
theorem dX5_find_143 : decode bX5_find 143 = .ok (.iload_n 3, 1) := by decide +kernel
theorem dX5_find_144 : decode bX5_find 144 = .ok (.invokevirtual 55, 3) := by decide +kernel
theorem dX5_find_147 : decode bX5_find 147 = .ok (.aload_n 0, 1) := by decide +kernel
theorem dX5_find_148 : decode bX5_find 148 = .ok (.getfield 14, 3) := by decide +kernel
theorem dX5_find_151 : decode bX5_find 151 = .ok (.iload_n 2, 1) := by decide +kernel
theorem dX5_find_152 : decode bX5_find 152 = .ok (.invokevirtual 59, 3) := by decide +kernel
theorem dX5_find_155 : decode bX5_find 155 = .ok (.aload_n 0, 1) := by decide +kernel
theorem dX5_find_156 : decode bX5_find 156 = .ok (.getfield 18, 3) := by decide +kernel
theorem dX5_find_159 : decode bX5_find 159 = .ok (.aload_n 0, 1) := by decide +kernel
theorem dX5_find_160 : decode bX5_find 160 = .ok (.getfield 44, 3) := by decide +kernel
theorem dX5_find_163 : decode bX5_find 163 = .ok (.iload_n 1, 1) := by decide +kernel
theorem dX5_find_164 : decode bX5_find 164 = .ok (.iastore, 1) := by decide +kernel
theorem dX5_find_165 : decode bX5_find 165 = .ok (.aload_n 0, 1) := by decide +kernel
theorem dX5_find_166 : decode bX5_find 166 = .ok (.getfield 22, 3) := by decide +kernel
theorem dX5_find_169 : decode bX5_find 169 = .ok (.aload_n 0, 1) := by decide +kernel
theorem dX5_find_170 : decode bX5_find 170 = .ok (.getfield 44, 3) := by decide +kernel
theorem dX5_find_173 : decode bX5_find 173 = .ok (.iload_n 3, 1) := by decide +kernel
theorem dX5_find_174 : decode bX5_find 174 = .ok (.iastore, 1) := by decide +kernel
theorem dX5_find_175 : decode bX5_find 175 = .ok (.aload_n 0, 1) := by decide +kernel
theorem dX5_find_176 : decode bX5_find 176 = .ok (.getfield 25, 3) := by decide +kernel
theorem dX5_find_179 : decode bX5_find 179 = .ok (.aload_n 0, 1) := by decide +kernel
theorem dX5_find_180 : decode bX5_find 180 = .ok (.getfield 44, 3) := by decide +kernel
theorem dX5_find_183 : decode bX5_find 183 = .ok (.aload_n 0, 1) := by decide +kernel
theorem dX5_find_184 : decode bX5_find 184 = .ok (.getfield 14, 3) := by decide +kernel
theorem dX5_find_187 : decode bX5_find 187 = .ok (.getfield 63, 3) := by decide +kernel
theorem dX5_find_190 : decode bX5_find 190 = .ok (.iastore, 1) := by decide +kernel
theorem dX5_find_191 : decode bX5_find 191 = .ok (.aload_n 0, 1) := by decide +kernel
theorem dX5_find_192 : decode bX5_find 192 = .ok (.getfield 28, 3) := by decide +kernel
theorem dX5_find_195 : decode bX5_find 195 = .ok (.aload_n 0, 1) := by decide +kernel
theorem dX5_find_196 : decode bX5_find 196 = .ok (.getfield 44, 3) := by decide +kernel
theorem dX5_find_199 : decode bX5_find 199 = .ok (.aload_n 0, 1) := by decide +kernel
theorem dX5_find_200 : decode bX5_find 200 = .ok (.getfield 14, 3) := by decide +kernel
theorem dX5_find_203 : decode bX5_find 203 = .ok (.getfield 65, 3) := by decide +kernel
theorem dX5_find_206 : decode bX5_find 206 = .ok (.iastore, 1) := by decide +kernel
theorem dX5_find_207 : decode bX5_find 207 = .ok (.aload_n 0, 1) := by decide +kernel
theorem dX5_find_208 : decode bX5_find 208 = .ok (.getfield 31, 3) := by decide +kernel
theorem dX5_find_211 : decode bX5_find 211 = .ok (.aload_n 0, 1) := by decide +kernel
theorem dX5_find_212 : decode bX5_find 212 = .ok (.getfield 44, 3) := by decide +kernel
theorem dX5_find_215 : decode bX5_find 215 = .ok (.aload_n 0, 1) := by decide +kernel
theorem dX5_find_216 : decode bX5_find 216 = .ok (.getfield 14, 3) := by decide +kernel
theorem dX5_find_219 : decode bX5_find 219 = .ok (.getfield 67, 3) := by decide +kernel
theorem dX5_find_222 : decode bX5_find 222 = .ok (.iastore, 1) := by decide +kernel
theorem dX5_find_223 : decode bX5_find 223 = .ok (.aload_n 0, 1) := by decide +kernel
theorem dX5_find_224 : decode bX5_find 224 = .ok (.getfield 34, 3) := by decide +kernel
theorem dX5_find_227 : decode bX5_find 227 = .ok (.aload_n 0, 1) := by decide +kernel
theorem dX5_find_228 : decode bX5_find 228 = .ok (.getfield 44, 3) := by decide +kernel
theorem dX5_find_231 : decode bX5_find 231 = .ok (.aload_n 0, 1) := by decide +kernel
theorem dX5_find_232 : decode bX5_find 232 = .ok (.getfield 14, 3) := by decide +kernel
theorem dX5_find_235 : decode bX5_find 235 = .ok (.getfield 69, 3) := by decide +kernel
theorem dX5_find_238 : decode bX5_find 238 = .ok (.iastore, 1) := by decide +kernel
theorem dX5_find_239 : decode bX5_find 239 = .ok (.aload_n 0, 1) := by decide +kernel
theorem dX5_find_240 : decode bX5_find 240 = .ok (.aload_n 0, 1) := by decide +kernel
theorem dX5_find_241 : decode bX5_find 241 = .ok (.getfield 44, 3) := by decide +kernel
theorem dX5_find_244 : decode bX5_find 244 = .ok (.invokevirtual 48, 3) := by decide +kernel
theorem dX5_find_247 : decode bX5_find 247 = .ok (.ireturn, 1) := by decide +kernel
section
variable {p : Program} {l : Launch} {e : Env} {s : State} {m : MethodId} {args : Array Value} {below : List Frame} {meth : Method} {c : Code} {G : GG} {n : Nat} {h' : Hp} {rv : Int32}
set_option maxHeartbeats 4000000
set_option maxRecDepth 100000
theorem j_X5_find_143 (C0 : Cx p s m args meth c G bX5_find RX5 6 (some .int) "find") (hN : NX ≤ n) {H : Heap} {locs : List Loc} {ls : Array Slot} {h : Hp} {x0 : Nat} {x1 : Int32} {x2 : Int32} {x3 : Int32} {t0 : Nat} {t1 : Int32} (X : XW G n h s 0 H locs) (hl : lv_has ls 6 [(0, .ref (bs G + x0)), (1, .int x1), (2, .int x2), (3, .int x3)]) (o0 : kd x0 = 5) (ot0 : kd t0 = 7) (hf : f_X5_find_143 h x0 x1 x2 x3 t0 t1 = some (rv, h')) : W p l e (rmC 3 0 0) s m args below meth c H locs 0 0 (MQ below (QP G n h' (some (.int rv))) args s 0 0 (Ab G)) (F0 m 143 ls [.int t1, .ref (bs G + t0)]) := by
  obtain ⟨hx, hb, hr, hml, hown, hts, hK, hlocks, hnm⟩ := id C0
  unfold f_X5_find_143 at hf
  refine lv_iload_n hx hb dX5_find_143 rfl (lv_at hl 3 rfl) ?_
  obtain ⟨r1, h2, q3, hf⟩ := bd_e hf
  refine c_V0 (As := [.int t1, .int x3]) (rest := []) (st1 := []) hx hb hml hown hts hK X (k_X7_build l G n hN q3) ot0 hN lc_X7_build lv_X5_55 (ci := 7) rfl rfl (by decide) rfl hl.1 (Nat.le_of_ble_eq_true rfl) dX5_find_144 rfl (fun H locs X => ?_)
  refine lv_aload_n hx hb dX5_find_147 rfl (lv_at hl 0 rfl) ?_
  obtain ⟨g4, hf⟩ := gd_e hf
  refine g_R hx hb hts hown hK X o0 hN g4 fl_X5_14 (by decide) rfl (by decide) dX5_find_148 ?_
  refine lv_iload_n hx hb dX5_find_151 rfl (lv_at hl 2 rfl) ?_
  obtain ⟨r5, h6, q7, hf⟩ := bd_e hf
  refine c_V0 (As := [.int x2]) (rest := []) (st1 := []) hx hb hml hown hts hK X (k_X7_pick l G n hN q7) g4 hN lc_X7_pick lv_X5_59 (ci := 7) rfl rfl (by decide) rfl hl.1 (Nat.le_of_ble_eq_true rfl) dX5_find_152 rfl (fun H locs X => ?_)
  refine lv_aload_n hx hb dX5_find_155 rfl (lv_at hl 0 rfl) ?_
  obtain ⟨g8, hf⟩ := gd_e hf
  refine g_R hx hb hts hown hK X o0 hN g8 fl_X5_18 (by decide) rfl (by decide) dX5_find_156 ?_
  refine lv_aload_n hx hb dX5_find_159 rfl (lv_at hl 0 rfl) ?_
  refine g_I hx hb hts hown hK X o0 hN fl_X5_44 (by decide) rfl dX5_find_160 ?_
  refine lv_iload_n hx hb dX5_find_163 rfl (lv_at hl 1 rfl) ?_
  obtain ⟨g9, hf⟩ := gd_e hf
  refine g_is hx hb hK X g8 hN g9 (by decide) dX5_find_164 (fun H locs X => ?_)
  obtain ⟨h10, e11, hf⟩ := lt_e hf
  rw [← e11] at X
  refine lv_aload_n hx hb dX5_find_165 rfl (lv_at hl 0 rfl) ?_
  obtain ⟨g12, hf⟩ := gd_e hf
  refine g_R hx hb hts hown hK X o0 hN g12 fl_X5_22 (by decide) rfl (by decide) dX5_find_166 ?_
  refine lv_aload_n hx hb dX5_find_169 rfl (lv_at hl 0 rfl) ?_
  refine g_I hx hb hts hown hK X o0 hN fl_X5_44 (by decide) rfl dX5_find_170 ?_
  refine lv_iload_n hx hb dX5_find_173 rfl (lv_at hl 3 rfl) ?_
  obtain ⟨g13, hf⟩ := gd_e hf
  refine g_is hx hb hK X g12 hN g13 (by decide) dX5_find_174 (fun H locs X => ?_)
  obtain ⟨h14, e15, hf⟩ := lt_e hf
  rw [← e15] at X
  refine lv_aload_n hx hb dX5_find_175 rfl (lv_at hl 0 rfl) ?_
  obtain ⟨g16, hf⟩ := gd_e hf
  refine g_R hx hb hts hown hK X o0 hN g16 fl_X5_25 (by decide) rfl (by decide) dX5_find_176 ?_
  refine lv_aload_n hx hb dX5_find_179 rfl (lv_at hl 0 rfl) ?_
  refine g_I hx hb hts hown hK X o0 hN fl_X5_44 (by decide) rfl dX5_find_180 ?_
  refine lv_aload_n hx hb dX5_find_183 rfl (lv_at hl 0 rfl) ?_
  obtain ⟨g17, hf⟩ := gd_e hf
  refine g_R hx hb hts hown hK X o0 hN g17 fl_X5_14 (by decide) rfl (by decide) dX5_find_184 ?_
  refine g_I hx hb hts hown hK X g17 hN fl_X5_63 (by decide) rfl dX5_find_187 ?_
  obtain ⟨g18, hf⟩ := gd_e hf
  refine g_is hx hb hK X g16 hN g18 (by decide) dX5_find_190 (fun H locs X => ?_)
  obtain ⟨h19, e20, hf⟩ := lt_e hf
  rw [← e20] at X
  refine lv_aload_n hx hb dX5_find_191 rfl (lv_at hl 0 rfl) ?_
  obtain ⟨g21, hf⟩ := gd_e hf
  refine g_R hx hb hts hown hK X o0 hN g21 fl_X5_28 (by decide) rfl (by decide) dX5_find_192 ?_
  refine lv_aload_n hx hb dX5_find_195 rfl (lv_at hl 0 rfl) ?_
  refine g_I hx hb hts hown hK X o0 hN fl_X5_44 (by decide) rfl dX5_find_196 ?_
  refine lv_aload_n hx hb dX5_find_199 rfl (lv_at hl 0 rfl) ?_
  obtain ⟨g22, hf⟩ := gd_e hf
  refine g_R hx hb hts hown hK X o0 hN g22 fl_X5_14 (by decide) rfl (by decide) dX5_find_200 ?_
  refine g_I hx hb hts hown hK X g22 hN fl_X5_65 (by decide) rfl dX5_find_203 ?_
  obtain ⟨g23, hf⟩ := gd_e hf
  refine g_is hx hb hK X g21 hN g23 (by decide) dX5_find_206 (fun H locs X => ?_)
  obtain ⟨h24, e25, hf⟩ := lt_e hf
  rw [← e25] at X
  refine lv_aload_n hx hb dX5_find_207 rfl (lv_at hl 0 rfl) ?_
  obtain ⟨g26, hf⟩ := gd_e hf
  refine g_R hx hb hts hown hK X o0 hN g26 fl_X5_31 (by decide) rfl (by decide) dX5_find_208 ?_
  refine lv_aload_n hx hb dX5_find_211 rfl (lv_at hl 0 rfl) ?_
  refine g_I hx hb hts hown hK X o0 hN fl_X5_44 (by decide) rfl dX5_find_212 ?_
  refine lv_aload_n hx hb dX5_find_215 rfl (lv_at hl 0 rfl) ?_
  obtain ⟨g27, hf⟩ := gd_e hf
  refine g_R hx hb hts hown hK X o0 hN g27 fl_X5_14 (by decide) rfl (by decide) dX5_find_216 ?_
  refine g_I hx hb hts hown hK X g27 hN fl_X5_67 (by decide) rfl dX5_find_219 ?_
  obtain ⟨g28, hf⟩ := gd_e hf
  refine g_is hx hb hK X g26 hN g28 (by decide) dX5_find_222 (fun H locs X => ?_)
  obtain ⟨h29, e30, hf⟩ := lt_e hf
  rw [← e30] at X
  refine lv_aload_n hx hb dX5_find_223 rfl (lv_at hl 0 rfl) ?_
  obtain ⟨g31, hf⟩ := gd_e hf
  refine g_R hx hb hts hown hK X o0 hN g31 fl_X5_34 (by decide) rfl (by decide) dX5_find_224 ?_
  refine lv_aload_n hx hb dX5_find_227 rfl (lv_at hl 0 rfl) ?_
  refine g_I hx hb hts hown hK X o0 hN fl_X5_44 (by decide) rfl dX5_find_228 ?_
  refine lv_aload_n hx hb dX5_find_231 rfl (lv_at hl 0 rfl) ?_
  obtain ⟨g32, hf⟩ := gd_e hf
  refine g_R hx hb hts hown hK X o0 hN g32 fl_X5_14 (by decide) rfl (by decide) dX5_find_232 ?_
  refine g_I hx hb hts hown hK X g32 hN fl_X5_69 (by decide) rfl dX5_find_235 ?_
  obtain ⟨g33, hf⟩ := gd_e hf
  refine g_is hx hb hK X g31 hN g33 (by decide) dX5_find_238 (fun H locs X => ?_)
  obtain ⟨h34, e35, hf⟩ := lt_e hf
  rw [← e35] at X
  refine lv_aload_n hx hb dX5_find_239 rfl (lv_at hl 0 rfl) ?_
  refine lv_aload_n hx hb dX5_find_240 rfl (lv_at hl 0 rfl) ?_
  refine g_I hx hb hts hown hK X o0 hN fl_X5_44 (by decide) rfl dX5_find_241 ?_
  obtain ⟨r36, h37, q38, hf⟩ := bd_e hf
  refine c_V0 (As := [.int (h34.1 x0 8)]) (rest := []) (st1 := [.int r36]) hx hb hml hown hts hK X (k_X5_used l G n hN q38) o0 hN lc_X5_used lv_X5_48 (ci := 5) rfl rfl (by decide) rfl hl.1 (Nat.le_of_ble_eq_true rfl) dX5_find_244 rfl (fun H locs X => ?_)
  exact r_I hx hb hr hlocks X hf dX5_find_247
theorem j_X5_find_28 (C0 : Cx p s m args meth c G bX5_find RX5 6 (some .int) "find") (hN : NX ≤ n) : ∀ (fu : Nat), ∀ {H : Heap} {locs : List Loc} {ls : Array Slot} {h : Hp} {x0 : Nat} {x1 : Int32} {x2 : Int32} {x3 : Int32} {x4 : Int32} {x5 : Int32}, XW G n h s 0 H locs → lv_has ls 6 [(0, .ref (bs G + x0)), (1, .int x1), (2, .int x2), (3, .int x3), (4, .int x4), (5, .int x5)] → kd x0 = 5 → f_X5_find_28 fu h x0 x1 x2 x3 x4 x5 = some (rv, h') → W p l e (rmC 3 0 0) s m args below meth c H locs 0 0 (MQ below (QP G n h' (some (.int rv))) args s 0 0 (Ab G)) (F0 m 28 ls []) := by
  obtain ⟨hx, hb, hr, hml, hown, hts, hK, hlocks, hnm⟩ := id C0
  intro fu
  induction fu with
  | zero => intro H locs ls h x0 x1 x2 x3 x4 x5 X hl o0 hf; cases hf
  | succ fu ih =>
    intro H locs ls h x0 x1 x2 x3 x4 x5 X hl o0 hf
    rw [f_X5_find_28] at hf
    refine lv_iload hx hb dX5_find_28 (lv_at hl 5 rfl) ?_
    refine lv_iload hx hb dX5_find_30 (lv_at hl 4 rfl) ?_
    refine lv_bipush (v := (8 : Int32)) hx hb dX5_find_32 (by decide) ?_
    refine lv_iadd hx hb dX5_find_34 ?_
    refine lv_icmp_ge (tgt := 95) hx hb dX5_find_35 (by decide) (fun c35 => ?_) (fun c35 => ?_)
    · have hf := ite_t hf c35
      refine lv_aload_n hx hb dX5_find_95 rfl (lv_at hl 0 rfl) ?_
      refine lv_iload hx hb dX5_find_96 (lv_at hl 4 rfl) ?_
      refine lv_aload_n hx hb dX5_find_98 rfl (lv_at hl 0 rfl) ?_
      obtain ⟨g1, hf⟩ := gd_e hf
      refine g_R hx hb hts hown hK X o0 hN g1 fl_X5_37 (by decide) rfl (by decide) dX5_find_99 ?_
      refine lv_iload_n hx hb dX5_find_102 rfl (lv_at hl 2 rfl) ?_
      obtain ⟨g2, hf⟩ := gd_e hf
      refine g_ia hx hb hK X g1 hN g2 (by decide) dX5_find_103 ?_
      refine lv_iadd hx hb dX5_find_104 ?_
      refine g_PI hx hb hts hown hK X o0 hN fl_X5_44 ft_5_8 (by decide) rfl dX5_find_105 (fun H locs X => ?_)
      obtain ⟨h3, e4, hf⟩ := lt_e hf
      rw [← e4] at X
      refine lv_aload_n hx hb dX5_find_108 rfl (lv_at hl 0 rfl) ?_
      obtain ⟨g5, hf⟩ := gd_e hf
      refine g_R hx hb hts hown hK X o0 hN g5 fl_X5_37 (by decide) rfl (by decide) dX5_find_109 ?_
      refine lv_iload_n hx hb dX5_find_112 rfl (lv_at hl 2 rfl) ?_
      refine lv_aload_n hx hb dX5_find_113 rfl (lv_at hl 0 rfl) ?_
      obtain ⟨g6, hf⟩ := gd_e hf
      refine g_R hx hb hts hown hK X o0 hN g6 fl_X5_37 (by decide) rfl (by decide) dX5_find_114 ?_
      refine lv_iload_n hx hb dX5_find_117 rfl (lv_at hl 2 rfl) ?_
      obtain ⟨g7, hf⟩ := gd_e hf
      refine g_ia hx hb hK X g6 hN g7 (by decide) dX5_find_118 ?_
      refine lv_iconst (v := (1 : Int32)) hx hb dX5_find_119 (by decide) ?_
      refine lv_iadd hx hb dX5_find_120 ?_
      refine lv_bipush (v := (8 : Int32)) hx hb dX5_find_121 (by decide) ?_
      refine lv_irem hx hb dX5_find_123 (by decide) ?_
      obtain ⟨g8, hf⟩ := gd_e hf
      refine g_is hx hb hK X g5 hN g8 (by decide) dX5_find_124 (fun H locs X => ?_)
      obtain ⟨h9, e10, hf⟩ := lt_e hf
      rw [← e10] at X
      refine lv_aload_n hx hb dX5_find_125 rfl (lv_at hl 0 rfl) ?_
      obtain ⟨g11, hf⟩ := gd_e hf
      refine g_R hx hb hts hown hK X o0 hN g11 fl_X5_14 (by decide) rfl (by decide) dX5_find_126 ?_
      refine lv_iload_n hx hb dX5_find_129 rfl (lv_at hl 3 rfl) ?_
      refine lv_if_ne (tgt := 142) hx hb dX5_find_130 (by decide) (fun c130 => ?_) (fun c130 => ?_)
      · have hf := ite_f hf c130
        refine lv_iload_n hx hb dX5_find_142 rfl (lv_at hl 1 rfl) ?_
        exact j_X5_find_143 C0 hN X (lv_sub hl [0, 1, 2, 3] rfl) o0 g11 hf
      · have hf := ite_t hf c130
        refine lv_iload_n hx hb dX5_find_133 rfl (lv_at hl 1 rfl) ?_
        refine lv_iload_n hx hb dX5_find_134 rfl (lv_at hl 2 rfl) ?_
        obtain ⟨r12, h13, q14, hf⟩ := bd_e hf
        refine c_S0 (As := [.int x2]) (rest := [.int x1, .ref (bs G + (h9.2 x0 0))]) (st1 := [.int r12, .int x1, .ref (bs G + (h9.2 x0 0))]) hx hb hml hown hts hK X (k_X5_oneOf l G n hN q14) lc_X5_oneOf ls_X5_52 (by decide) rfl hl.1 (Nat.le_of_ble_eq_true rfl) dX5_find_135 rfl (fun H locs X => ?_)
        refine lv_iand hx hb dX5_find_138 ?_
        refine lv_goto (tgt := 143) hx hb dX5_find_139 (by decide) ?_
        exact j_X5_find_143 C0 hN X (lv_sub hl [0, 1, 2, 3] rfl) o0 g11 hf
    · have hf := ite_f hf c35
      refine lv_aload_n hx hb dX5_find_38 rfl (lv_at hl 0 rfl) ?_
      obtain ⟨g15, hf⟩ := gd_e hf
      refine g_R hx hb hts hown hK X o0 hN g15 fl_X5_22 (by decide) rfl (by decide) dX5_find_39 ?_
      refine lv_iload hx hb dX5_find_42 (lv_at hl 5 rfl) ?_
      obtain ⟨g16, hf⟩ := gd_e hf
      refine g_ia hx hb hK X g15 hN g16 (by decide) dX5_find_44 ?_
      refine lv_iload_n hx hb dX5_find_45 rfl (lv_at hl 3 rfl) ?_
      refine lv_icmp_ne (tgt := 89) hx hb dX5_find_46 (by decide) (fun c46 => ?_) (fun c46 => ?_)
      · have hf := ite_f hf c46
        refine lv_iinc (v := (x5 + (1 : Int32))) (lv' := [(5, .int (x5 + (1 : Int32))), (0, .ref (bs G + x0)), (1, .int x1), (2, .int x2), (3, .int x3), (4, .int x4)]) hx hb dX5_find_89 hl (k := 5) rfl rfl (by decide) rfl (fun ls hl => ?_)
        refine lv_goto (tgt := 28) hx hb dX5_find_92 (by decide) ?_
        exact ih X (lv_sub hl [1, 2, 3, 4, 5, 0] rfl) o0 hf
      · have hf := ite_t hf c46
        refine lv_iload_n hx hb dX5_find_49 rfl (lv_at hl 1 rfl) ?_
        refine lv_aload_n hx hb dX5_find_50 rfl (lv_at hl 0 rfl) ?_
        obtain ⟨g17, hf⟩ := gd_e hf
        refine g_R hx hb hts hown hK X o0 hN g17 fl_X5_18 (by decide) rfl (by decide) dX5_find_51 ?_
        refine lv_iload hx hb dX5_find_54 (lv_at hl 5 rfl) ?_
        obtain ⟨g18, hf⟩ := gd_e hf
        refine g_ia hx hb hK X g17 hN g18 (by decide) dX5_find_56 ?_
        refine lv_iconst (v := (-1 : Int32)) hx hb dX5_find_57 (by decide) ?_
        refine lv_ixor hx hb dX5_find_58 ?_
        refine lv_iand hx hb dX5_find_59 ?_
        refine lv_if_ne (tgt := 89) hx hb dX5_find_60 (by decide) (fun c60 => ?_) (fun c60 => ?_)
        · have hf := ite_f hf c60
          refine lv_iinc (v := (x5 + (1 : Int32))) (lv' := [(5, .int (x5 + (1 : Int32))), (0, .ref (bs G + x0)), (1, .int x1), (2, .int x2), (3, .int x3), (4, .int x4)]) hx hb dX5_find_89 hl (k := 5) rfl rfl (by decide) rfl (fun ls hl => ?_)
          refine lv_goto (tgt := 28) hx hb dX5_find_92 (by decide) ?_
          exact ih X (lv_sub hl [1, 2, 3, 4, 5, 0] rfl) o0 hf
        · have hf := ite_t hf c60
          refine lv_aload_n hx hb dX5_find_63 rfl (lv_at hl 0 rfl) ?_
          refine lv_iload hx hb dX5_find_64 (lv_at hl 5 rfl) ?_
          obtain ⟨r19, h20, q21, hf⟩ := bd_e hf
          refine c_V0 (As := [.int x5]) (rest := []) (st1 := [.int r19]) hx hb hml hown hts hK X (k_X5_used l G n hN q21) o0 hN lc_X5_used lv_X5_48 (ci := 5) rfl rfl (by decide) rfl hl.1 (Nat.le_of_ble_eq_true rfl) dX5_find_66 rfl (fun H locs X => ?_)
          refine lv_iload_n hx hb dX5_find_69 rfl (lv_at hl 1 rfl) ?_
          refine lv_iconst (v := (-1 : Int32)) hx hb dX5_find_70 (by decide) ?_
          refine lv_ixor hx hb dX5_find_71 ?_
          refine lv_iand hx hb dX5_find_72 ?_
          refine lv_if_ne (tgt := 89) hx hb dX5_find_73 (by decide) (fun c73 => ?_) (fun c73 => ?_)
          · have hf := ite_f hf c73
            refine lv_iinc (v := (x5 + (1 : Int32))) (lv' := [(5, .int (x5 + (1 : Int32))), (0, .ref (bs G + x0)), (1, .int x1), (2, .int x2), (3, .int x3), (4, .int x4)]) hx hb dX5_find_89 hl (k := 5) rfl rfl (by decide) rfl (fun ls hl => ?_)
            refine lv_goto (tgt := 28) hx hb dX5_find_92 (by decide) ?_
            exact ih X (lv_sub hl [1, 2, 3, 4, 5, 0] rfl) o0 hf
          · have hf := ite_t hf c73
            refine lv_aload_n hx hb dX5_find_76 rfl (lv_at hl 0 rfl) ?_
            refine lv_iload hx hb dX5_find_77 (lv_at hl 5 rfl) ?_
            refine g_PI hx hb hts hown hK X o0 hN fl_X5_44 ft_5_8 (by decide) rfl dX5_find_79 (fun H locs X => ?_)
            obtain ⟨h22, e23, hf⟩ := lt_e hf
            rw [← e23] at X
            refine lv_aload_n hx hb dX5_find_82 rfl (lv_at hl 0 rfl) ?_
            refine lv_iload hx hb dX5_find_83 (lv_at hl 5 rfl) ?_
            obtain ⟨r24, h25, q26, hf⟩ := bd_e hf
            refine c_V0 (As := [.int x5]) (rest := []) (st1 := [.int r24]) hx hb hml hown hts hK X (k_X5_used l G n hN q26) o0 hN lc_X5_used lv_X5_48 (ci := 5) rfl rfl (by decide) rfl hl.1 (Nat.le_of_ble_eq_true rfl) dX5_find_85 rfl (fun H locs X => ?_)
            exact r_I hx hb hr hlocks X hf dX5_find_88
theorem k_X5_find (l : Launch) (G : GG) (n : Nat) (hN : NX ≤ n) {h h' : Hp} {x0 : Nat} {x1 : Int32} {x2 : Int32} {x3 : Int32} {rv : Int32} (hf : f_X5_find h x0 x1 x2 x3 = some (rv, h')) : CT l G n n yX5_find (.code yX5_find bX5_find 6 (some .int)) 3 0 0 [.ref (bs G + x0), .int x1, .int x2, .int x3] h h' (some (.int rv)) := by
  refine ct_of (maxL := 6) (ret := (some .int)) (bytes := bX5_find) (by decide) (Nat.le_of_ble_eq_true rfl) (fun p e s m below meth c C0 X ls hl => ?_)
  have hl : lv_has ls 6 [(0, .ref (bs G + x0)), (1, .int x1), (2, .int x2), (3, .int x3)] := hl
  obtain ⟨hx, hb, hr, hml, hown, hts, hK, hlocks, hnm⟩ := id C0
  unfold f_X5_find at hf
  obtain ⟨o0, hf⟩ := gd_e hf
  refine lv_aload_n hx hb dX5_find_0 rfl (lv_at hl 0 rfl) ?_
  refine lv_iconst (v := (0 : Int32)) hx hb dX5_find_1 (by decide) ?_
  refine g_PI hx hb hts hown hK X o0 hN fl_X5_44 ft_5_8 (by decide) rfl dX5_find_2 (fun H locs X => ?_)
  obtain ⟨h1, e2, hf⟩ := lt_e hf
  rw [← e2] at X
  refine lv_iload_n hx hb dX5_find_5 rfl (lv_at hl 2 rfl) ?_
  refine lv_iconst (v := (1 : Int32)) hx hb dX5_find_6 (by decide) ?_
  refine lv_icmp_lt (tgt := 16) hx hb dX5_find_7 (by decide) (fun c7 => ?_) (fun c7 => ?_)
  · have hf := ite_t hf c7
    refine lv_iconst (v := (0 : Int32)) hx hb dX5_find_16 (by decide) ?_
    exact r_I hx hb hr hlocks X hf dX5_find_17
  · have hf := ite_f hf c7
    refine lv_iload_n hx hb dX5_find_10 rfl (lv_at hl 2 rfl) ?_
    refine lv_bipush (v := (99 : Int32)) hx hb dX5_find_11 (by decide) ?_
    refine lv_icmp_le (tgt := 18) hx hb dX5_find_13 (by decide) (fun c13 => ?_) (fun c13 => ?_)
    · have hf := ite_t hf c13
      refine lv_iload_n hx hb dX5_find_18 rfl (lv_at hl 2 rfl) ?_
      refine lv_bipush (v := (8 : Int32)) hx hb dX5_find_19 (by decide) ?_
      refine lv_imul hx hb dX5_find_21 ?_
      refine lv_istore (lv' := [(4, .int (x2 * (8 : Int32))), (0, .ref (bs G + x0)), (1, .int x1), (2, .int x2), (3, .int x3)]) hx hb dX5_find_22 hl (by decide) rfl (fun ls hl => ?_)
      refine lv_iload hx hb dX5_find_24 (lv_at hl 0 rfl) ?_
      refine lv_istore (lv' := [(5, .int (x2 * (8 : Int32))), (4, .int (x2 * (8 : Int32))), (0, .ref (bs G + x0)), (1, .int x1), (2, .int x2), (3, .int x3)]) hx hb dX5_find_26 hl (by decide) rfl (fun ls hl => ?_)
      exact j_X5_find_28 C0 hN FU X (lv_sub hl [2, 3, 4, 5, 1, 0] rfl) o0 hf
    · have hf := ite_f hf c13
      refine lv_iconst (v := (0 : Int32)) hx hb dX5_find_16 (by decide) ?_
      exact r_I hx hb hr hlocks X hf dX5_find_17
end
theorem dX6_mayUse_0 : decode bX6_mayUse 0 = .ok (.iload_n 1, 1) := by decide +kernel
theorem dX6_mayUse_1 : decode bX6_mayUse 1 = .ok (.ifCond .lt 9, 3) := by decide +kernel
theorem dX6_mayUse_4 : decode bX6_mayUse 4 = .ok (.iload_n 1, 1) := by decide +kernel
theorem dX6_mayUse_5 : decode bX6_mayUse 5 = .ok (.bipush 6, 2) := by decide +kernel
theorem dX6_mayUse_7 : decode bX6_mayUse 7 = .ok (.if_icmp .lt 7, 3) := by decide +kernel
theorem dX6_mayUse_10 : decode bX6_mayUse 10 = .ok (.iconst 0, 1) := by decide +kernel
theorem dX6_mayUse_11 : decode bX6_mayUse 11 = .ok (.goto 18, 3) := by decide +kernel
theorem dX6_mayUse_14 : decode bX6_mayUse 14 = .ok (.aload_n 0, 1) := by decide +kernel
theorem dX6_mayUse_15 : decode bX6_mayUse 15 = .ok (.getfield 53, 3) := by decide +kernel
theorem dX6_mayUse_18 : decode bX6_mayUse 18 = .ok (.aload_n 0, 1) := by decide +kernel
theorem dX6_mayUse_19 : decode bX6_mayUse 19 = .ok (.getfield 15, 3) := by decide +kernel
theorem dX6_mayUse_22 : decode bX6_mayUse 22 = .ok (.iload_n 1, 1) := by decide +kernel
theorem dX6_mayUse_23 : decode bX6_mayUse 23 = .ok (.iaload, 1) := by decide +kernel
theorem dX6_mayUse_24 : decode bX6_mayUse 24 = .ok (.ior, 1) := by decide +kernel
theorem dX6_mayUse_25 : decode bX6_mayUse 25 = .ok (.iload_n 2, 1) := by decide +kernel
theorem dX6_mayUse_26 : decode bX6_mayUse 26 = .ok (.iconst (-1), 1) := by decide +kernel
theorem dX6_mayUse_27 : decode bX6_mayUse 27 = .ok (.ixor, 1) := by decide +kernel
theorem dX6_mayUse_28 : decode bX6_mayUse 28 = .ok (.iand, 1) := by decide +kernel
theorem dX6_mayUse_29 : decode bX6_mayUse 29 = .ok (.ireturn, 1) := by decide +kernel
section
variable {p : Program} {l : Launch} {e : Env} {s : State} {m : MethodId} {args : Array Value} {below : List Frame} {meth : Method} {c : Code} {G : GG} {n : Nat} {h' : Hp} {rv : Int32}
set_option maxHeartbeats 4000000
set_option maxRecDepth 100000
theorem k_X6_mayUse (l : Launch) (G : GG) (n : Nat) (hN : NX ≤ n) {h h' : Hp} {x0 : Nat} {x1 : Int32} {x2 : Int32} {rv : Int32} (hf : f_X6_mayUse h x0 x1 x2 = some (rv, h')) : CT l G n n yX6_mayUse (.code yX6_mayUse bX6_mayUse 3 (some .int)) 0 0 0 [.ref (bs G + x0), .int x1, .int x2] h h' (some (.int rv)) := by
  refine ct_of (maxL := 3) (ret := (some .int)) (bytes := bX6_mayUse) (by decide) (Nat.le_of_ble_eq_true rfl) (fun p e s m below meth c C0 X ls hl => ?_)
  have hl : lv_has ls 3 [(0, .ref (bs G + x0)), (1, .int x1), (2, .int x2)] := hl
  obtain ⟨hx, hb, hr, hml, hown, hts, hK, hlocks, hnm⟩ := id C0
  unfold f_X6_mayUse at hf
  obtain ⟨o0, hf⟩ := gd_e hf
  refine lv_iload_n hx hb dX6_mayUse_0 rfl (lv_at hl 1 rfl) ?_
  refine lv_if_lt (tgt := 10) hx hb dX6_mayUse_1 (by decide) (fun c1 => ?_) (fun c1 => ?_)
  · have hf := ite_t hf c1
    refine lv_iconst (v := (0 : Int32)) hx hb dX6_mayUse_10 (by decide) ?_
    refine lv_goto (tgt := 29) hx hb dX6_mayUse_11 (by decide) ?_
    exact r_I hx hb hr hlocks X hf dX6_mayUse_29
  · have hf := ite_f hf c1
    refine lv_iload_n hx hb dX6_mayUse_4 rfl (lv_at hl 1 rfl) ?_
    refine lv_bipush (v := (6 : Int32)) hx hb dX6_mayUse_5 (by decide) ?_
    refine lv_icmp_lt (tgt := 14) hx hb dX6_mayUse_7 (by decide) (fun c7 => ?_) (fun c7 => ?_)
    · have hf := ite_t hf c7
      refine lv_aload_n hx hb dX6_mayUse_14 rfl (lv_at hl 0 rfl) ?_
      refine g_I hx hb hts hown hK X o0 hN fl_X6_53 (by decide) rfl dX6_mayUse_15 ?_
      refine lv_aload_n hx hb dX6_mayUse_18 rfl (lv_at hl 0 rfl) ?_
      obtain ⟨g1, hf⟩ := gd_e hf
      refine g_R hx hb hts hown hK X o0 hN g1 fl_X6_15 (by decide) rfl (by decide) dX6_mayUse_19 ?_
      refine lv_iload_n hx hb dX6_mayUse_22 rfl (lv_at hl 1 rfl) ?_
      obtain ⟨g2, hf⟩ := gd_e hf
      refine g_ia hx hb hK X g1 hN g2 (by decide) dX6_mayUse_23 ?_
      refine lv_ior hx hb dX6_mayUse_24 ?_
      refine lv_iload_n hx hb dX6_mayUse_25 rfl (lv_at hl 2 rfl) ?_
      refine lv_iconst (v := (-1 : Int32)) hx hb dX6_mayUse_26 (by decide) ?_
      refine lv_ixor hx hb dX6_mayUse_27 ?_
      refine lv_iand hx hb dX6_mayUse_28 ?_
      exact r_I hx hb hr hlocks X hf dX6_mayUse_29
    · have hf := ite_f hf c7
      refine lv_iconst (v := (0 : Int32)) hx hb dX6_mayUse_10 (by decide) ?_
      refine lv_goto (tgt := 29) hx hb dX6_mayUse_11 (by decide) ?_
      exact r_I hx hb hr hlocks X hf dX6_mayUse_29
end
theorem dX1_stuckIn_0 : decode bX1_stuckIn 0 = .ok (.aload_n 1, 1) := by decide +kernel
theorem dX1_stuckIn_1 : decode bX1_stuckIn 1 = .ok (.getfield 28, 3) := by decide +kernel
theorem dX1_stuckIn_4 : decode bX1_stuckIn 4 = .ok (.istore_n 2, 1) := by decide +kernel
theorem dX1_stuckIn_5 : decode bX1_stuckIn 5 = .ok (.iconst 0, 1) := by decide +kernel
theorem dX1_stuckIn_6 : decode bX1_stuckIn 6 = .ok (.istore_n 3, 1) := by decide +kernel
theorem dX1_stuckIn_7 : decode bX1_stuckIn 7 = .ok (.iconst 0, 1) := by decide +kernel
theorem dX1_stuckIn_8 : decode bX1_stuckIn 8 = .ok (.istore 4, 2) := by decide +kernel
theorem dX1_stuckIn_10 : decode bX1_stuckIn 10 = .ok (.iload 4, 2) := by decide +kernel
theorem dX1_stuckIn_12 : decode bX1_stuckIn 12 = .ok (.bipush 6, 2) := by decide +kernel
theorem dX1_stuckIn_14 : decode bX1_stuckIn 14 = .ok (.if_icmp .ge 69, 3) := by decide +kernel
theorem dX1_stuckIn_17 : decode bX1_stuckIn 17 = .ok (.aload_n 1, 1) := by decide +kernel
theorem dX1_stuckIn_18 : decode bX1_stuckIn 18 = .ok (.getfield 34, 3) := by decide +kernel
theorem dX1_stuckIn_21 : decode bX1_stuckIn 21 = .ok (.iload 4, 2) := by decide +kernel
theorem dX1_stuckIn_23 : decode bX1_stuckIn 23 = .ok (.invokestatic 37, 3) := by decide +kernel
theorem dX1_stuckIn_26 : decode bX1_stuckIn 26 = .ok (.ifCond .eq 51, 3) := by decide +kernel
theorem dX1_stuckIn_29 : decode bX1_stuckIn 29 = .ok (.aload_n 0, 1) := by decide +kernel
theorem dX1_stuckIn_30 : decode bX1_stuckIn 30 = .ok (.getfield 24, 3) := by decide +kernel
theorem dX1_stuckIn_33 : decode bX1_stuckIn 33 = .ok (.aload_n 1, 1) := by decide +kernel
theorem dX1_stuckIn_34 : decode bX1_stuckIn 34 = .ok (.iload 4, 2) := by decide +kernel
theorem dX1_stuckIn_36 : decode bX1_stuckIn 36 = .ok (.iload_n 2, 1) := by decide +kernel
theorem dX1_stuckIn_37 : decode bX1_stuckIn 37 = .ok (.invokevirtual 41, 3) := by decide +kernel
theorem dX1_stuckIn_40 : decode bX1_stuckIn 40 = .ok (.aload_n 1, 1) := by decide +kernel
theorem dX1_stuckIn_41 : decode bX1_stuckIn 41 = .ok (.getfield 45, 3) := by decide +kernel
theorem dX1_stuckIn_44 : decode bX1_stuckIn 44 = .ok (.iload 4, 2) := by decide +kernel
theorem dX1_stuckIn_46 : decode bX1_stuckIn 46 = .ok (.iaload, 1) := by decide +kernel
theorem dX1_stuckIn_47 : decode bX1_stuckIn 47 = .ok (.aload_n 1, 1) := by decide +kernel
theorem dX1_stuckIn_48 : decode bX1_stuckIn 48 = .ok (.getfield 48, 3) := by decide +kernel
theorem dX1_stuckIn_51 : decode bX1_stuckIn 51 = .ok (.invokevirtual 51, 3) := by decide +kernel
theorem dX1_stuckIn_54 : decode bX1_stuckIn 54 = .ok (.istore 5, 2) := by decide +kernel
theorem dX1_stuckIn_56 : decode bX1_stuckIn 56 = .ok (.iload_n 2, 1) := by decide +kernel
theorem dX1_stuckIn_57 : decode bX1_stuckIn 57 = .ok (.iload 5, 2) := by decide +kernel
theorem dX1_stuckIn_59 : decode bX1_stuckIn 59 = .ok (.ior, 1) := by decide +kernel
theorem dX1_stuckIn_60 : decode bX1_stuckIn 60 = .ok (.istore_n 2, 1) := by decide +kernel
theorem dX1_stuckIn_61 : decode bX1_stuckIn 61 = .ok (.iload_n 3, 1) := by decide +kernel
theorem dX1_stuckIn_62 : decode bX1_stuckIn 62 = .ok (.iload 5, 2) := by decide +kernel
theorem dX1_stuckIn_64 : decode bX1_stuckIn 64 = .ok (.ifCond .ne 10, 3) := by decide +kernel
theorem dX1_stuckIn_67 : decode bX1_stuckIn 67 = .ok (.iconst 1, 1) := by decide +kernel
theorem dX1_stuckIn_68 : decode bX1_stuckIn 68 = .ok (.iload 4, 2) := by decide +kernel
theorem dX1_stuckIn_70 : decode bX1_stuckIn 70 = .ok (.ishl, 1) := by decide +kernel
theorem dX1_stuckIn_71 : decode bX1_stuckIn 71 = .ok (.goto 4, 3) := by decide +kernel
theorem dX1_stuckIn_74 : decode bX1_stuckIn 74 = .ok (.iconst 0, 1) := by decide +kernel
theorem dX1_stuckIn_75 : decode bX1_stuckIn 75 = .ok (.ior, 1) := by decide +kernel
theorem dX1_stuckIn_76 : decode bX1_stuckIn 76 = .ok (.istore_n 3, 1) := by decide +kernel
theorem dX1_stuckIn_77 : decode bX1_stuckIn 77 = .ok (.iinc 4 1, 3) := by decide +kernel
theorem dX1_stuckIn_80 : decode bX1_stuckIn 80 = .ok (.goto (-70), 3) := by decide +kernel
theorem dX1_stuckIn_83 : decode bX1_stuckIn 83 = .ok (.iload_n 3, 1) := by decide +kernel
theorem dX1_stuckIn_84 : decode bX1_stuckIn 84 = .ok (.ireturn, 1) := by decide +kernel
section
variable {p : Program} {l : Launch} {e : Env} {s : State} {m : MethodId} {args : Array Value} {below : List Frame} {meth : Method} {c : Code} {G : GG} {n : Nat} {h' : Hp} {rv : Int32}
set_option maxHeartbeats 4000000
set_option maxRecDepth 100000
theorem j_X1_stuckIn_10 (C0 : Cx p s m args meth c G bX1_stuckIn RX1 6 (some .int) "stuckIn") (hN : NX ≤ n) : ∀ (fu : Nat), ∀ {H : Heap} {locs : List Loc} {ls : Array Slot} {h : Hp} {x0 : Nat} {x1 : Nat} {x2 : Int32} {x3 : Int32} {x4 : Int32}, XW G n h s 0 H locs → lv_has ls 6 [(0, .ref (bs G + x0)), (1, .ref (bs G + x1)), (2, .int x2), (3, .int x3), (4, .int x4)] → kd x0 = 1 → kd x1 = 6 → f_X1_stuckIn_10 fu h x0 x1 x2 x3 x4 = some (rv, h') → W p l e (rmC 4 0 0) s m args below meth c H locs 0 0 (MQ below (QP G n h' (some (.int rv))) args s 0 0 (Ab G)) (F0 m 10 ls []) := by
  obtain ⟨hx, hb, hr, hml, hown, hts, hK, hlocks, hnm⟩ := id C0
  intro fu
  induction fu with
  | zero => intro H locs ls h x0 x1 x2 x3 x4 X hl o0 o1 hf; cases hf
  | succ fu ih =>
    intro H locs ls h x0 x1 x2 x3 x4 X hl o0 o1 hf
    rw [f_X1_stuckIn_10] at hf
    refine lv_iload hx hb dX1_stuckIn_10 (lv_at hl 4 rfl) ?_
    refine lv_bipush (v := (6 : Int32)) hx hb dX1_stuckIn_12 (by decide) ?_
    refine lv_icmp_ge (tgt := 83) hx hb dX1_stuckIn_14 (by decide) (fun c14 => ?_) (fun c14 => ?_)
    · have hf := ite_t hf c14
      refine lv_iload_n hx hb dX1_stuckIn_83 rfl (lv_at hl 3 rfl) ?_
      exact r_I hx hb hr hlocks X hf dX1_stuckIn_84
    · have hf := ite_f hf c14
      refine lv_aload_n hx hb dX1_stuckIn_17 rfl (lv_at hl 1 rfl) ?_
      refine g_I hx hb hts hown hK X o1 hN fl_X1_34 (by decide) rfl dX1_stuckIn_18 ?_
      refine lv_iload hx hb dX1_stuckIn_21 (lv_at hl 4 rfl) ?_
      obtain ⟨r1, h2, q3, hf⟩ := bd_e hf
      refine c_SN0 (As := [.int (h.1 x1 0), .int x4]) (rest := []) (st1 := [.int r1]) hx hb hml hown hts hK X (k_X11_hasBit l G n hN q3) lc_X11_hasBit ls_X1_37 (by decide) rfl hl.1 (Nat.le_of_ble_eq_true rfl) dX1_stuckIn_23 rfl (fun H locs X => ?_)
      refine lv_if_eq (tgt := 77) hx hb dX1_stuckIn_26 (by decide) (fun c26 => ?_) (fun c26 => ?_)
      · have hf := ite_t hf c26
        refine lv_iinc (v := (x4 + (1 : Int32))) (lv' := [(4, .int (x4 + (1 : Int32))), (0, .ref (bs G + x0)), (1, .ref (bs G + x1)), (2, .int x2), (3, .int x3)]) hx hb dX1_stuckIn_77 hl (k := 4) rfl rfl (by decide) rfl (fun ls hl => ?_)
        refine lv_goto (tgt := 10) hx hb dX1_stuckIn_80 (by decide) ?_
        exact ih X (lv_sub hl [1, 2, 3, 4, 0] rfl) o0 o1 hf
      · have hf := ite_f hf c26
        refine lv_aload_n hx hb dX1_stuckIn_29 rfl (lv_at hl 0 rfl) ?_
        obtain ⟨g4, hf⟩ := gd_e hf
        refine g_R hx hb hts hown hK X o0 hN g4 fl_X1_24 (by decide) rfl (by decide) dX1_stuckIn_30 ?_
        refine lv_aload_n hx hb dX1_stuckIn_33 rfl (lv_at hl 1 rfl) ?_
        refine lv_iload hx hb dX1_stuckIn_34 (lv_at hl 4 rfl) ?_
        refine lv_iload_n hx hb dX1_stuckIn_36 rfl (lv_at hl 2 rfl) ?_
        obtain ⟨r5, h6, q7, hf⟩ := bd_e hf
        refine c_V0 (As := [.int x4, .int x2]) (rest := [.ref (bs G + (h2.2 x0 6))]) (st1 := [.int r5, .ref (bs G + (h2.2 x0 6))]) hx hb hml hown hts hK X (k_X6_mayUse l G n hN q7) o1 hN lc_X6_mayUse lv_X1_41 (ci := 6) rfl rfl (by decide) rfl hl.1 (Nat.le_of_ble_eq_true rfl) dX1_stuckIn_37 rfl (fun H locs X => ?_)
        refine lv_aload_n hx hb dX1_stuckIn_40 rfl (lv_at hl 1 rfl) ?_
        obtain ⟨g8, hf⟩ := gd_e hf
        refine g_R hx hb hts hown hK X o1 hN g8 fl_X1_45 (by decide) rfl (by decide) dX1_stuckIn_41 ?_
        refine lv_iload hx hb dX1_stuckIn_44 (lv_at hl 4 rfl) ?_
        obtain ⟨g9, hf⟩ := gd_e hf
        refine g_ia hx hb hK X g8 hN g9 (by decide) dX1_stuckIn_46 ?_
        refine lv_aload_n hx hb dX1_stuckIn_47 rfl (lv_at hl 1 rfl) ?_
        refine g_I hx hb hts hown hK X o1 hN fl_X1_48 (by decide) rfl dX1_stuckIn_48 ?_
        obtain ⟨r10, h11, q12, hf⟩ := bd_e hf
        refine c_V0 (As := [.int r5, .int (h6.1 (h6.2 x1 5) x4.toNatClampNeg), .int (h6.1 x1 4)]) (rest := []) (st1 := [.int r10]) hx hb hml hown hts hK X (k_X5_find l G n hN q12) g4 hN lc_X5_find lv_X1_51 (ci := 5) rfl rfl (by decide) rfl hl.1 (Nat.le_of_ble_eq_true rfl) dX1_stuckIn_51 rfl (fun H locs X => ?_)
        refine lv_istore (lv' := [(5, .int r10), (0, .ref (bs G + x0)), (1, .ref (bs G + x1)), (2, .int x2), (3, .int x3), (4, .int x4)]) hx hb dX1_stuckIn_54 hl (by decide) rfl (fun ls hl => ?_)
        refine lv_iload_n hx hb dX1_stuckIn_56 rfl (lv_at hl 3 rfl) ?_
        refine lv_iload hx hb dX1_stuckIn_57 (lv_at hl 0 rfl) ?_
        refine lv_ior hx hb dX1_stuckIn_59 ?_
        refine lv_istore_n (lv' := [(2, .int (x2 ||| r10)), (5, .int r10), (0, .ref (bs G + x0)), (1, .ref (bs G + x1)), (3, .int x3), (4, .int x4)]) hx hb dX1_stuckIn_60 rfl hl (by decide) rfl (fun ls hl => ?_)
        refine lv_iload_n hx hb dX1_stuckIn_61 rfl (lv_at hl 4 rfl) ?_
        refine lv_iload hx hb dX1_stuckIn_62 (lv_at hl 1 rfl) ?_
        refine lv_if_ne (tgt := 74) hx hb dX1_stuckIn_64 (by decide) (fun c64 => ?_) (fun c64 => ?_)
        · have hf := ite_f hf c64
          refine lv_iconst (v := (0 : Int32)) hx hb dX1_stuckIn_74 (by decide) ?_
          refine lv_ior hx hb dX1_stuckIn_75 ?_
          refine lv_istore_n (lv' := [(3, .int (x3 ||| (0 : Int32))), (2, .int (x2 ||| r10)), (5, .int r10), (0, .ref (bs G + x0)), (1, .ref (bs G + x1)), (4, .int x4)]) hx hb dX1_stuckIn_76 rfl hl (by decide) rfl (fun ls hl => ?_)
          refine lv_iinc (v := (x4 + (1 : Int32))) (lv' := [(4, .int (x4 + (1 : Int32))), (3, .int (x3 ||| (0 : Int32))), (2, .int (x2 ||| r10)), (5, .int r10), (0, .ref (bs G + x0)), (1, .ref (bs G + x1))]) hx hb dX1_stuckIn_77 hl (k := 5) rfl rfl (by decide) rfl (fun ls hl => ?_)
          refine lv_goto (tgt := 10) hx hb dX1_stuckIn_80 (by decide) ?_
          exact ih X (lv_sub hl [4, 5, 2, 1, 0] rfl) o0 o1 hf
        · have hf := ite_t hf c64
          refine lv_iconst (v := (1 : Int32)) hx hb dX1_stuckIn_67 (by decide) ?_
          refine lv_iload hx hb dX1_stuckIn_68 (lv_at hl 5 rfl) ?_
          refine lv_ishl hx hb dX1_stuckIn_70 ?_
          refine lv_goto (tgt := 75) hx hb dX1_stuckIn_71 (by decide) ?_
          refine lv_ior hx hb dX1_stuckIn_75 ?_
          refine lv_istore_n (lv' := [(3, .int (x3 ||| ((1 : Int32) <<< (x4 &&& 31)))), (2, .int (x2 ||| r10)), (5, .int r10), (0, .ref (bs G + x0)), (1, .ref (bs G + x1)), (4, .int x4)]) hx hb dX1_stuckIn_76 rfl hl (by decide) rfl (fun ls hl => ?_)
          refine lv_iinc (v := (x4 + (1 : Int32))) (lv' := [(4, .int (x4 + (1 : Int32))), (3, .int (x3 ||| ((1 : Int32) <<< (x4 &&& 31)))), (2, .int (x2 ||| r10)), (5, .int r10), (0, .ref (bs G + x0)), (1, .ref (bs G + x1))]) hx hb dX1_stuckIn_77 hl (k := 5) rfl rfl (by decide) rfl (fun ls hl => ?_)
          refine lv_goto (tgt := 10) hx hb dX1_stuckIn_80 (by decide) ?_
          exact ih X (lv_sub hl [4, 5, 2, 1, 0] rfl) o0 o1 hf
theorem k_X1_stuckIn (l : Launch) (G : GG) (n : Nat) (hN : NX ≤ n) {h h' : Hp} {x0 : Nat} {x1 : Nat} {rv : Int32} (hf : f_X1_stuckIn h x0 x1 = some (rv, h')) : CT l G n n yX1_stuckIn (.code yX1_stuckIn bX1_stuckIn 6 (some .int)) 4 0 0 [.ref (bs G + x0), .ref (bs G + x1)] h h' (some (.int rv)) := by
  refine ct_of (maxL := 6) (ret := (some .int)) (bytes := bX1_stuckIn) (by decide) (Nat.le_of_ble_eq_true rfl) (fun p e s m below meth c C0 X ls hl => ?_)
  have hl : lv_has ls 6 [(0, .ref (bs G + x0)), (1, .ref (bs G + x1))] := hl
  obtain ⟨hx, hb, hr, hml, hown, hts, hK, hlocks, hnm⟩ := id C0
  unfold f_X1_stuckIn at hf
  obtain ⟨o0, hf⟩ := gd_e hf
  obtain ⟨o1, hf⟩ := gd_e hf
  refine lv_aload_n hx hb dX1_stuckIn_0 rfl (lv_at hl 1 rfl) ?_
  refine g_I hx hb hts hown hK X o1 hN fl_X1_28 (by decide) rfl dX1_stuckIn_1 ?_
  refine lv_istore_n (lv' := [(2, .int (h.1 x1 2)), (0, .ref (bs G + x0)), (1, .ref (bs G + x1))]) hx hb dX1_stuckIn_4 rfl hl (by decide) rfl (fun ls hl => ?_)
  refine lv_iconst (v := (0 : Int32)) hx hb dX1_stuckIn_5 (by decide) ?_
  refine lv_istore_n (lv' := [(3, .int (0 : Int32)), (2, .int (h.1 x1 2)), (0, .ref (bs G + x0)), (1, .ref (bs G + x1))]) hx hb dX1_stuckIn_6 rfl hl (by decide) rfl (fun ls hl => ?_)
  refine lv_iconst (v := (0 : Int32)) hx hb dX1_stuckIn_7 (by decide) ?_
  refine lv_istore (lv' := [(4, .int (0 : Int32)), (3, .int (0 : Int32)), (2, .int (h.1 x1 2)), (0, .ref (bs G + x0)), (1, .ref (bs G + x1))]) hx hb dX1_stuckIn_8 hl (by decide) rfl (fun ls hl => ?_)
  exact j_X1_stuckIn_10 C0 hN FU X (lv_sub hl [3, 4, 2, 1, 0] rfl) o0 o1 hf
end
theorem dX1_getsWorse_0 : decode bX1_getsWorse 0 = .ok (.aload_n 0, 1) := by decide +kernel
theorem dX1_getsWorse_1 : decode bX1_getsWorse 1 = .ok (.getfield 57, 3) := by decide +kernel
theorem dX1_getsWorse_4 : decode bX1_getsWorse 4 = .ok (.aload_n 1, 1) := by decide +kernel
theorem dX1_getsWorse_5 : decode bX1_getsWorse 5 = .ok (.getfield 34, 3) := by decide +kernel
theorem dX1_getsWorse_8 : decode bX1_getsWorse 8 = .ok (.invokestatic 83, 3) := by decide +kernel
theorem dX1_getsWorse_11 : decode bX1_getsWorse 11 = .ok (.if_icmp .lt 5, 3) := by decide +kernel
theorem dX1_getsWorse_14 : decode bX1_getsWorse 14 = .ok (.iconst 0, 1) := by decide +kernel
theorem dX1_getsWorse_15 : decode bX1_getsWorse 15 = .ok (.ireturn, 1) := by decide +kernel
theorem dX1_getsWorse_16 : decode bX1_getsWorse 16 = .ok (.aload_n 1, 1) := by decide +kernel
theorem dX1_getsWorse_17 : decode bX1_getsWorse 17 = .ok (.iload_n 2, 1) := by decide +kernel
theorem dX1_getsWorse_18 : decode bX1_getsWorse 18 = .ok (.putfield 28, 3) := by decide +kernel
theorem dX1_getsWorse_21 : decode bX1_getsWorse 21 = .ok (.aload_n 0, 1) := by decide +kernel
theorem dX1_getsWorse_22 : decode bX1_getsWorse 22 = .ok (.aload_n 1, 1) := by decide +kernel
theorem dX1_getsWorse_23 : decode bX1_getsWorse 23 = .ok (.invokevirtual 89, 3) := by decide +kernel
theorem dX1_getsWorse_26 : decode bX1_getsWorse 26 = .ok (.invokestatic 83, 3) := by decide +kernel
theorem dX1_getsWorse_29 : decode bX1_getsWorse 29 = .ok (.istore_n 3, 1) := by decide +kernel
theorem dX1_getsWorse_30 : decode bX1_getsWorse 30 = .ok (.iload_n 3, 1) := by decide +kernel
theorem dX1_getsWorse_31 : decode bX1_getsWorse 31 = .ok (.aload_n 0, 1) := by decide +kernel
theorem dX1_getsWorse_32 : decode bX1_getsWorse 32 = .ok (.getfield 57, 3) := by decide +kernel
theorem dX1_getsWorse_35 : decode bX1_getsWorse 35 = .ok (.if_icmp .gt 5, 3) := by decide +kernel
theorem dX1_getsWorse_38 : decode bX1_getsWorse 38 = .ok (.iconst 0, 1) := by decide +kernel
theorem dX1_getsWorse_39 : decode bX1_getsWorse 39 = .ok (.ireturn, 1) := by decide +kernel
theorem dX1_getsWorse_40 : decode bX1_getsWorse 40 = .ok (.aload_n 0, 1) := by decide +kernel
theorem dX1_getsWorse_41 : decode bX1_getsWorse 41 = .ok (.iload_n 3, 1) := by decide +kernel
theorem dX1_getsWorse_42 : decode bX1_getsWorse 42 = .ok (.putfield 57, 3) := by decide +kernel
theorem dX1_getsWorse_45 : decode bX1_getsWorse 45 = .ok (.iconst 1, 1) := by decide +kernel
theorem dX1_getsWorse_46 : decode bX1_getsWorse 46 = .ok (.ireturn, 1) := by decide +kernel
section
variable {p : Program} {l : Launch} {e : Env} {s : State} {m : MethodId} {args : Array Value} {below : List Frame} {meth : Method} {c : Code} {G : GG} {n : Nat} {h' : Hp} {rv : Int32}
set_option maxHeartbeats 4000000
set_option maxRecDepth 100000
theorem k_X1_getsWorse (l : Launch) (G : GG) (n : Nat) (hN : NX ≤ n) {h h' : Hp} {x0 : Nat} {x1 : Nat} {x2 : Int32} {rv : Int32} (hf : f_X1_getsWorse h x0 x1 x2 = some (rv, h')) : CT l G n n yX1_getsWorse (.code yX1_getsWorse bX1_getsWorse 4 (some .boolean)) 5 0 0 [.ref (bs G + x0), .ref (bs G + x1), .int x2] h h' (some (.int rv)) := by
  refine ct_of (maxL := 4) (ret := (some .boolean)) (bytes := bX1_getsWorse) (by decide) (Nat.le_of_ble_eq_true rfl) (fun p e s m below meth c C0 X ls hl => ?_)
  have hl : lv_has ls 4 [(0, .ref (bs G + x0)), (1, .ref (bs G + x1)), (2, .int x2)] := hl
  obtain ⟨hx, hb, hr, hml, hown, hts, hK, hlocks, hnm⟩ := id C0
  unfold f_X1_getsWorse at hf
  obtain ⟨o0, hf⟩ := gd_e hf
  obtain ⟨o1, hf⟩ := gd_e hf
  refine lv_aload_n hx hb dX1_getsWorse_0 rfl (lv_at hl 0 rfl) ?_
  refine g_I hx hb hts hown hK X o0 hN fl_X1_57 (by decide) rfl dX1_getsWorse_1 ?_
  refine lv_aload_n hx hb dX1_getsWorse_4 rfl (lv_at hl 1 rfl) ?_
  refine g_I hx hb hts hown hK X o1 hN fl_X1_34 (by decide) rfl dX1_getsWorse_5 ?_
  obtain ⟨r1, h2, q3, hf⟩ := bd_e hf
  refine c_S0 (As := [.int (h.1 x1 0)]) (rest := [.int (h.1 x0 0)]) (st1 := [.int r1, .int (h.1 x0 0)]) hx hb hml hown hts hK X (k_J6_bitCount_0f7a4 l G n hN q3) lc_J6_bitCount_0f7a4 ls_X1_83 (by decide) rfl hl.1 (Nat.le_of_ble_eq_true rfl) dX1_getsWorse_8 rfl (fun H locs X => ?_)
  refine lv_icmp_lt (tgt := 16) hx hb dX1_getsWorse_11 (by decide) (fun c11 => ?_) (fun c11 => ?_)
  · have hf := ite_t hf c11
    refine lv_aload_n hx hb dX1_getsWorse_16 rfl (lv_at hl 1 rfl) ?_
    refine lv_iload_n hx hb dX1_getsWorse_17 rfl (lv_at hl 2 rfl) ?_
    refine g_PI hx hb hts hown hK X o1 hN fl_X1_28 ft_6_2 (by decide) rfl dX1_getsWorse_18 (fun H locs X => ?_)
    obtain ⟨h4, e5, hf⟩ := lt_e hf
    rw [← e5] at X
    refine lv_aload_n hx hb dX1_getsWorse_21 rfl (lv_at hl 0 rfl) ?_
    refine lv_aload_n hx hb dX1_getsWorse_22 rfl (lv_at hl 1 rfl) ?_
    obtain ⟨r6, h7, q8, hf⟩ := bd_e hf
    refine c_V0 (As := [.ref (bs G + x1)]) (rest := []) (st1 := [.int r6]) hx hb hml hown hts hK X (k_X1_stuckIn l G n hN q8) o0 hN lc_X1_stuckIn lv_X1_89 (ci := 1) rfl rfl (by decide) rfl hl.1 (Nat.le_of_ble_eq_true rfl) dX1_getsWorse_23 rfl (fun H locs X => ?_)
    obtain ⟨r9, h10, q11, hf⟩ := bd_e hf
    refine c_S0 (As := [.int r6]) (rest := []) (st1 := [.int r9]) hx hb hml hown hts hK X (k_J6_bitCount_0f7a4 l G n hN q11) lc_J6_bitCount_0f7a4 ls_X1_83 (by decide) rfl hl.1 (Nat.le_of_ble_eq_true rfl) dX1_getsWorse_26 rfl (fun H locs X => ?_)
    refine lv_istore_n (lv' := [(3, .int r9), (0, .ref (bs G + x0)), (1, .ref (bs G + x1)), (2, .int x2)]) hx hb dX1_getsWorse_29 rfl hl (by decide) rfl (fun ls hl => ?_)
    refine lv_iload_n hx hb dX1_getsWorse_30 rfl (lv_at hl 0 rfl) ?_
    refine lv_aload_n hx hb dX1_getsWorse_31 rfl (lv_at hl 1 rfl) ?_
    refine g_I hx hb hts hown hK X o0 hN fl_X1_57 (by decide) rfl dX1_getsWorse_32 ?_
    refine lv_icmp_gt (tgt := 40) hx hb dX1_getsWorse_35 (by decide) (fun c35 => ?_) (fun c35 => ?_)
    · have hf := ite_t hf c35
      refine lv_aload_n hx hb dX1_getsWorse_40 rfl (lv_at hl 1 rfl) ?_
      refine lv_iload_n hx hb dX1_getsWorse_41 rfl (lv_at hl 0 rfl) ?_
      refine g_PI hx hb hts hown hK X o0 hN fl_X1_57 ft_1_0 (by decide) rfl dX1_getsWorse_42 (fun H locs X => ?_)
      obtain ⟨h12, e13, hf⟩ := lt_e hf
      rw [← e13] at X
      refine lv_iconst (v := (1 : Int32)) hx hb dX1_getsWorse_45 (by decide) ?_
      exact r_Z hx hb hr hlocks X rfl hf dX1_getsWorse_46
    · have hf := ite_f hf c35
      refine lv_iconst (v := (0 : Int32)) hx hb dX1_getsWorse_38 (by decide) ?_
      exact r_Z hx hb hr hlocks X rfl hf dX1_getsWorse_39
  · have hf := ite_f hf c11
    refine lv_iconst (v := (0 : Int32)) hx hb dX1_getsWorse_14 (by decide) ?_
    exact r_Z hx hb hr hlocks X rfl hf dX1_getsWorse_15
end
theorem dX1_denyOne_0 : decode bX1_denyOne 0 = .ok (.aload_n 1, 1) := by decide +kernel
theorem dX1_denyOne_1 : decode bX1_denyOne 1 = .ok (.getfield 28, 3) := by decide +kernel
theorem dX1_denyOne_4 : decode bX1_denyOne 4 = .ok (.istore_n 2, 1) := by decide +kernel
theorem dX1_denyOne_5 : decode bX1_denyOne 5 = .ok (.aload_n 0, 1) := by decide +kernel
theorem dX1_denyOne_6 : decode bX1_denyOne 6 = .ok (.bipush (-4), 2) := by decide +kernel
theorem dX1_denyOne_8 : decode bX1_denyOne 8 = .ok (.putfield 57, 3) := by decide +kernel
theorem dX1_denyOne_11 : decode bX1_denyOne 11 = .ok (.iconst 1, 1) := by decide +kernel
theorem dX1_denyOne_12 : decode bX1_denyOne 12 = .ok (.istore_n 3, 1) := by decide +kernel
theorem dX1_denyOne_13 : decode bX1_denyOne 13 = .ok (.iload_n 3, 1) := by decide +kernel
theorem dX1_denyOne_14 : decode bX1_denyOne 14 = .ok (.bipush 24, 2) := by decide +kernel
theorem dX1_denyOne_16 : decode bX1_denyOne 16 = .ok (.if_icmp .gt 57, 3) := by decide +kernel
theorem dX1_denyOne_19 : decode bX1_denyOne 19 = .ok (.iconst 1, 1) := by decide +kernel
theorem dX1_denyOne_20 : decode bX1_denyOne 20 = .ok (.iload_n 3, 1) := by decide +kernel
theorem dX1_denyOne_21 : decode bX1_denyOne 21 = .ok (.iconst 1, 1) := by decide +kernel
theorem dX1_denyOne_22 : decode bX1_denyOne 22 = .ok (.isub, 1) := by decide +kernel
theorem dX1_denyOne_23 : decode bX1_denyOne 23 = .ok (.ishl, 1) := by decide +kernel
theorem dX1_denyOne_24 : decode bX1_denyOne 24 = .ok (.istore 4, 2) := by decide +kernel
theorem dX1_denyOne_26 : decode bX1_denyOne 26 = .ok (.iload 4, 2) := by decide +kernel
theorem dX1_denyOne_28 : decode bX1_denyOne 28 = .ok (.aload_n 1, 1) := by decide +kernel
theorem dX1_denyOne_29 : decode bX1_denyOne 29 = .ok (.getfield 60, 3) := by decide +kernel
theorem dX1_denyOne_32 : decode bX1_denyOne 32 = .ok (.iconst (-1), 1) := by decide +kernel
theorem dX1_denyOne_33 : decode bX1_denyOne 33 = .ok (.ixor, 1) := by decide +kernel
theorem dX1_denyOne_34 : decode bX1_denyOne 34 = .ok (.iand, 1) := by decide +kernel
theorem dX1_denyOne_35 : decode bX1_denyOne 35 = .ok (.ifCond .ne 32, 3) := by decide +kernel
theorem dX1_denyOne_38 : decode bX1_denyOne 38 = .ok (.iload 4, 2) := by decide +kernel
theorem dX1_denyOne_40 : decode bX1_denyOne 40 = .ok (.iload_n 2, 1) := by decide +kernel
theorem dX1_denyOne_41 : decode bX1_denyOne 41 = .ok (.iand, 1) := by decide +kernel
theorem dX1_denyOne_42 : decode bX1_denyOne 42 = .ok (.ifCond .ne 25, 3) := by decide +kernel
theorem dX1_denyOne_45 : decode bX1_denyOne 45 = .ok (.aload_n 0, 1) := by decide +kernel
theorem dX1_denyOne_46 : decode bX1_denyOne 46 = .ok (.aload_n 1, 1) := by decide +kernel
theorem dX1_denyOne_47 : decode bX1_denyOne 47 = .ok (.iload_n 2, 1) := by decide +kernel
theorem dX1_denyOne_48 : decode bX1_denyOne 48 = .ok (.iload 4, 2) := by decide +kernel
theorem dX1_denyOne_50 : decode bX1_denyOne 50 = .ok (.ior, 1) := by decide +kernel
theorem dX1_denyOne_51 : decode bX1_denyOne 51 = .ok (.invokevirtual 63, 3) := by decide +kernel
theorem dX1_denyOne_54 : decode bX1_denyOne 54 = .ok (.ifCond .eq 13, 3) := by decide +kernel
theorem dX1_denyOne_57 : decode bX1_denyOne 57 = .ok (.aload_n 0, 1) := by decide +kernel
theorem dX1_denyOne_58 : decode bX1_denyOne 58 = .ok (.iload_n 3, 1) := by decide +kernel
theorem dX1_denyOne_59 : decode bX1_denyOne 59 = .ok (.putfield 67, 3) := by decide +kernel
theorem dX1_denyOne_62 : decode bX1_denyOne 62 = .ok (.aload_n 0, 1) := by decide +kernel
theorem dX1_denyOne_63 : decode bX1_denyOne 63 = .ok (.iload_n 3, 1) := by decide +kernel
theorem dX1_denyOne_64 : decode bX1_denyOne 64 = .ok (.putfield 70, 3) := by decide +kernel
theorem dX1_denyOne_67 : decode bX1_denyOne 67 = .ok (.iinc 3 1, 3) := by decide +kernel
theorem dX1_denyOne_70 : decode bX1_denyOne 70 = .ok (.goto (-57), 3) := by decide +kernel
theorem dX1_denyOne_73 : decode bX1_denyOne 73 = .ok (.aload_n 0, 1) := by decide +kernel
theorem dX1_denyOne_74 : decode bX1_denyOne 74 = .ok (.getfield 57, 3) := by decide +kernel
theorem dX1_denyOne_77 : decode bX1_denyOne 77 = .ok (.bipush (-4), 2) := by decide +kernel
theorem dX1_denyOne_79 : decode bX1_denyOne 79 = .ok (.if_icmp .eq 7, 3) := by decide +kernel
theorem dX1_denyOne_82 : decode bX1_denyOne 82 = .ok (.iconst 1, 1) := by decide +kernel
theorem dX1_denyOne_83 : decode bX1_denyOne 83 = .ok (.goto 4, 3) := by decide +kernel
theorem dX1_denyOne_86 : decode bX1_denyOne 86 = .ok (.iconst 0, 1) := by decide +kernel
theorem dX1_denyOne_87 : decode bX1_denyOne 87 = .ok (.ireturn, 1) := by decide +kernel
section
variable {p : Program} {l : Launch} {e : Env} {s : State} {m : MethodId} {args : Array Value} {below : List Frame} {meth : Method} {c : Code} {G : GG} {n : Nat} {h' : Hp} {rv : Int32}
set_option maxHeartbeats 4000000
set_option maxRecDepth 100000
theorem j_X1_denyOne_13 (C0 : Cx p s m args meth c G bX1_denyOne RX1 5 (some .boolean) "denyOne") (hN : NX ≤ n) : ∀ (fu : Nat), ∀ {H : Heap} {locs : List Loc} {ls : Array Slot} {h : Hp} {x0 : Nat} {x1 : Nat} {x2 : Int32} {x3 : Int32}, XW G n h s 0 H locs → lv_has ls 5 [(0, .ref (bs G + x0)), (1, .ref (bs G + x1)), (2, .int x2), (3, .int x3)] → kd x0 = 1 → kd x1 = 6 → f_X1_denyOne_13 fu h x0 x1 x2 x3 = some (rv, h') → W p l e (rmC 6 0 0) s m args below meth c H locs 0 0 (MQ below (QP G n h' (some (.int rv))) args s 0 0 (Ab G)) (F0 m 13 ls []) := by
  obtain ⟨hx, hb, hr, hml, hown, hts, hK, hlocks, hnm⟩ := id C0
  intro fu
  induction fu with
  | zero => intro H locs ls h x0 x1 x2 x3 X hl o0 o1 hf; cases hf
  | succ fu ih =>
    intro H locs ls h x0 x1 x2 x3 X hl o0 o1 hf
    rw [f_X1_denyOne_13] at hf
    refine lv_iload_n hx hb dX1_denyOne_13 rfl (lv_at hl 3 rfl) ?_
    refine lv_bipush (v := (24 : Int32)) hx hb dX1_denyOne_14 (by decide) ?_
    refine lv_icmp_gt (tgt := 73) hx hb dX1_denyOne_16 (by decide) (fun c16 => ?_) (fun c16 => ?_)
    · have hf := ite_t hf c16
      refine lv_aload_n hx hb dX1_denyOne_73 rfl (lv_at hl 0 rfl) ?_
      refine g_I hx hb hts hown hK X o0 hN fl_X1_57 (by decide) rfl dX1_denyOne_74 ?_
      refine lv_bipush (v := (-4 : Int32)) hx hb dX1_denyOne_77 (by decide) ?_
      refine lv_icmp_eq (tgt := 86) hx hb dX1_denyOne_79 (by decide) (fun c79 => ?_) (fun c79 => ?_)
      · have hf := ite_t hf c79
        refine lv_iconst (v := (0 : Int32)) hx hb dX1_denyOne_86 (by decide) ?_
        exact r_Z hx hb hr hlocks X rfl hf dX1_denyOne_87
      · have hf := ite_f hf c79
        refine lv_iconst (v := (1 : Int32)) hx hb dX1_denyOne_82 (by decide) ?_
        refine lv_goto (tgt := 87) hx hb dX1_denyOne_83 (by decide) ?_
        exact r_Z hx hb hr hlocks X rfl hf dX1_denyOne_87
    · have hf := ite_f hf c16
      refine lv_iconst (v := (1 : Int32)) hx hb dX1_denyOne_19 (by decide) ?_
      refine lv_iload_n hx hb dX1_denyOne_20 rfl (lv_at hl 3 rfl) ?_
      refine lv_iconst (v := (1 : Int32)) hx hb dX1_denyOne_21 (by decide) ?_
      refine lv_isub hx hb dX1_denyOne_22 ?_
      refine lv_ishl hx hb dX1_denyOne_23 ?_
      refine lv_istore (lv' := [(4, .int ((1 : Int32) <<< ((x3 - (1 : Int32)) &&& 31))), (0, .ref (bs G + x0)), (1, .ref (bs G + x1)), (2, .int x2), (3, .int x3)]) hx hb dX1_denyOne_24 hl (by decide) rfl (fun ls hl => ?_)
      refine lv_iload hx hb dX1_denyOne_26 (lv_at hl 0 rfl) ?_
      refine lv_aload_n hx hb dX1_denyOne_28 rfl (lv_at hl 2 rfl) ?_
      refine g_I hx hb hts hown hK X o1 hN fl_X1_60 (by decide) rfl dX1_denyOne_29 ?_
      refine lv_iconst (v := (-1 : Int32)) hx hb dX1_denyOne_32 (by decide) ?_
      refine lv_ixor hx hb dX1_denyOne_33 ?_
      refine lv_iand hx hb dX1_denyOne_34 ?_
      refine lv_if_ne (tgt := 67) hx hb dX1_denyOne_35 (by decide) (fun c35 => ?_) (fun c35 => ?_)
      · have hf := ite_f hf c35
        refine lv_iinc (v := (x3 + (1 : Int32))) (lv' := [(3, .int (x3 + (1 : Int32))), (4, .int ((1 : Int32) <<< ((x3 - (1 : Int32)) &&& 31))), (0, .ref (bs G + x0)), (1, .ref (bs G + x1)), (2, .int x2)]) hx hb dX1_denyOne_67 hl (k := 4) rfl rfl (by decide) rfl (fun ls hl => ?_)
        refine lv_goto (tgt := 13) hx hb dX1_denyOne_70 (by decide) ?_
        exact ih X (lv_sub hl [2, 3, 4, 0] rfl) o0 o1 hf
      · have hf := ite_t hf c35
        refine lv_iload hx hb dX1_denyOne_38 (lv_at hl 0 rfl) ?_
        refine lv_iload_n hx hb dX1_denyOne_40 rfl (lv_at hl 3 rfl) ?_
        refine lv_iand hx hb dX1_denyOne_41 ?_
        refine lv_if_ne (tgt := 67) hx hb dX1_denyOne_42 (by decide) (fun c42 => ?_) (fun c42 => ?_)
        · have hf := ite_f hf c42
          refine lv_iinc (v := (x3 + (1 : Int32))) (lv' := [(3, .int (x3 + (1 : Int32))), (4, .int ((1 : Int32) <<< ((x3 - (1 : Int32)) &&& 31))), (0, .ref (bs G + x0)), (1, .ref (bs G + x1)), (2, .int x2)]) hx hb dX1_denyOne_67 hl (k := 4) rfl rfl (by decide) rfl (fun ls hl => ?_)
          refine lv_goto (tgt := 13) hx hb dX1_denyOne_70 (by decide) ?_
          exact ih X (lv_sub hl [2, 3, 4, 0] rfl) o0 o1 hf
        · have hf := ite_t hf c42
          refine lv_aload_n hx hb dX1_denyOne_45 rfl (lv_at hl 1 rfl) ?_
          refine lv_aload_n hx hb dX1_denyOne_46 rfl (lv_at hl 2 rfl) ?_
          refine lv_iload_n hx hb dX1_denyOne_47 rfl (lv_at hl 3 rfl) ?_
          refine lv_iload hx hb dX1_denyOne_48 (lv_at hl 0 rfl) ?_
          refine lv_ior hx hb dX1_denyOne_50 ?_
          obtain ⟨r1, h2, q3, hf⟩ := bd_e hf
          refine c_V0 (As := [.ref (bs G + x1), .int (x2 ||| ((1 : Int32) <<< ((x3 - (1 : Int32)) &&& 31)))]) (rest := []) (st1 := [.int r1]) hx hb hml hown hts hK X (k_X1_getsWorse l G n hN q3) o0 hN lc_X1_getsWorse lv_X1_63 (ci := 1) rfl rfl (by decide) rfl hl.1 (Nat.le_of_ble_eq_true rfl) dX1_denyOne_51 rfl (fun H locs X => ?_)
          refine lv_if_eq (tgt := 67) hx hb dX1_denyOne_54 (by decide) (fun c54 => ?_) (fun c54 => ?_)
          · have hf := ite_t hf c54
            refine lv_iinc (v := (x3 + (1 : Int32))) (lv' := [(3, .int (x3 + (1 : Int32))), (4, .int ((1 : Int32) <<< ((x3 - (1 : Int32)) &&& 31))), (0, .ref (bs G + x0)), (1, .ref (bs G + x1)), (2, .int x2)]) hx hb dX1_denyOne_67 hl (k := 4) rfl rfl (by decide) rfl (fun ls hl => ?_)
            refine lv_goto (tgt := 13) hx hb dX1_denyOne_70 (by decide) ?_
            exact ih X (lv_sub hl [2, 3, 4, 0] rfl) o0 o1 hf
          · have hf := ite_f hf c54
            refine lv_aload_n hx hb dX1_denyOne_57 rfl (lv_at hl 1 rfl) ?_
            refine lv_iload_n hx hb dX1_denyOne_58 rfl (lv_at hl 4 rfl) ?_
            refine g_PI hx hb hts hown hK X o0 hN fl_X1_67 ft_1_1 (by decide) rfl dX1_denyOne_59 (fun H locs X => ?_)
            obtain ⟨h4, e5, hf⟩ := lt_e hf
            rw [← e5] at X
            refine lv_aload_n hx hb dX1_denyOne_62 rfl (lv_at hl 1 rfl) ?_
            refine lv_iload_n hx hb dX1_denyOne_63 rfl (lv_at hl 4 rfl) ?_
            refine g_PI hx hb hts hown hK X o0 hN fl_X1_70 ft_1_2 (by decide) rfl dX1_denyOne_64 (fun H locs X => ?_)
            obtain ⟨h6, e7, hf⟩ := lt_e hf
            rw [← e7] at X
            refine lv_iinc (v := (x3 + (1 : Int32))) (lv' := [(3, .int (x3 + (1 : Int32))), (4, .int ((1 : Int32) <<< ((x3 - (1 : Int32)) &&& 31))), (0, .ref (bs G + x0)), (1, .ref (bs G + x1)), (2, .int x2)]) hx hb dX1_denyOne_67 hl (k := 4) rfl rfl (by decide) rfl (fun ls hl => ?_)
            refine lv_goto (tgt := 13) hx hb dX1_denyOne_70 (by decide) ?_
            exact ih X (lv_sub hl [2, 3, 4, 0] rfl) o0 o1 hf
theorem k_X1_denyOne (l : Launch) (G : GG) (n : Nat) (hN : NX ≤ n) {h h' : Hp} {x0 : Nat} {x1 : Nat} {rv : Int32} (hf : f_X1_denyOne h x0 x1 = some (rv, h')) : CT l G n n yX1_denyOne (.code yX1_denyOne bX1_denyOne 5 (some .boolean)) 6 0 0 [.ref (bs G + x0), .ref (bs G + x1)] h h' (some (.int rv)) := by
  refine ct_of (maxL := 5) (ret := (some .boolean)) (bytes := bX1_denyOne) (by decide) (Nat.le_of_ble_eq_true rfl) (fun p e s m below meth c C0 X ls hl => ?_)
  have hl : lv_has ls 5 [(0, .ref (bs G + x0)), (1, .ref (bs G + x1))] := hl
  obtain ⟨hx, hb, hr, hml, hown, hts, hK, hlocks, hnm⟩ := id C0
  unfold f_X1_denyOne at hf
  obtain ⟨o0, hf⟩ := gd_e hf
  obtain ⟨o1, hf⟩ := gd_e hf
  refine lv_aload_n hx hb dX1_denyOne_0 rfl (lv_at hl 1 rfl) ?_
  refine g_I hx hb hts hown hK X o1 hN fl_X1_28 (by decide) rfl dX1_denyOne_1 ?_
  refine lv_istore_n (lv' := [(2, .int (h.1 x1 2)), (0, .ref (bs G + x0)), (1, .ref (bs G + x1))]) hx hb dX1_denyOne_4 rfl hl (by decide) rfl (fun ls hl => ?_)
  refine lv_aload_n hx hb dX1_denyOne_5 rfl (lv_at hl 1 rfl) ?_
  refine lv_bipush (v := (-4 : Int32)) hx hb dX1_denyOne_6 (by decide) ?_
  refine g_PI hx hb hts hown hK X o0 hN fl_X1_57 ft_1_0 (by decide) rfl dX1_denyOne_8 (fun H locs X => ?_)
  obtain ⟨h1, e2, hf⟩ := lt_e hf
  rw [← e2] at X
  refine lv_iconst (v := (1 : Int32)) hx hb dX1_denyOne_11 (by decide) ?_
  refine lv_istore_n (lv' := [(3, .int (1 : Int32)), (2, .int (h.1 x1 2)), (0, .ref (bs G + x0)), (1, .ref (bs G + x1))]) hx hb dX1_denyOne_12 rfl hl (by decide) rfl (fun ls hl => ?_)
  exact j_X1_denyOne_13 C0 hN FU X (lv_sub hl [2, 3, 1, 0] rfl) o0 o1 hf
end
