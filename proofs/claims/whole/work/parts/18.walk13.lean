theorem dX12_back_0 : decode bX12_back 0 = .ok (.aload_n 0, 1) := by decide +kernel
theorem dX12_back_1 : decode bX12_back 1 = .ok (.iconst 0, 1) := by decide +kernel
theorem dX12_back_2 : decode bX12_back 2 = .ok (.putfield 1, 3) := by decide +kernel
theorem dX12_back_5 : decode bX12_back 5 = .ok (.aload_n 0, 1) := by decide +kernel
theorem dX12_back_6 : decode bX12_back 6 = .ok (.getfield 122, 3) := by decide +kernel
theorem dX12_back_9 : decode bX12_back 9 = .ok (.ifCond .ne 6, 3) := by decide +kernel
theorem dX12_back_12 : decode bX12_back 12 = .ok (.bipush (-2), 2) := by decide +kernel
theorem dX12_back_14 : decode bX12_back 14 = .ok (.ireturn, 1) := by decide +kernel
theorem dX12_back_15 : decode bX12_back 15 = .ok (.aload_n 0, 1) := by decide +kernel
theorem dX12_back_16 : decode bX12_back 16 = .ok (.dup, 1) := by decide +kernel
theorem dX12_back_17 : decode bX12_back 17 = .ok (.getfield 122, 3) := by decide +kernel
theorem dX12_back_20 : decode bX12_back 20 = .ok (.iconst 1, 1) := by decide +kernel
theorem dX12_back_21 : decode bX12_back 21 = .ok (.isub, 1) := by decide +kernel
theorem dX12_back_22 : decode bX12_back 22 = .ok (.putfield 122, 3) := by decide +kernel
theorem dX12_back_25 : decode bX12_back 25 = .ok (.iconst 0, 1) := by decide +kernel
theorem dX12_back_26 : decode bX12_back 26 = .ok (.istore_n 1, 1) := by decide +kernel
theorem dX12_back_27 : decode bX12_back 27 = .ok (.iload_n 1, 1) := by decide +kernel
theorem dX12_back_28 : decode bX12_back 28 = .ok (.bipush 51, 2) := by decide +kernel
theorem dX12_back_30 : decode bX12_back 30 = .ok (.if_icmp .ge 29, 3) := by decide +kernel
theorem dX12_back_33 : decode bX12_back 33 = .ok (.aload_n 0, 1) := by decide +kernel
theorem dX12_back_34 : decode bX12_back 34 = .ok (.getfield 20, 3) := by decide +kernel
theorem dX12_back_37 : decode bX12_back 37 = .ok (.iload_n 1, 1) := by decide +kernel
theorem dX12_back_38 : decode bX12_back 38 = .ok (.aload_n 0, 1) := by decide +kernel
theorem dX12_back_39 : decode bX12_back 39 = .ok (.getfield 26, 3) := by decide +kernel
theorem dX12_back_42 : decode bX12_back 42 = .ok (.bipush 51, 2) := by decide +kernel
theorem dX12_back_44 : decode bX12_back 44 = .ok (.aload_n 0, 1) := by decide +kernel
theorem dX12_back_45 : decode bX12_back 45 = .ok (.getfield 122, 3) := by decide +kernel
theorem dX12_back_48 : decode bX12_back 48 = .ok (.imul, 1) := by decide +kernel
theorem dX12_back_49 : decode bX12_back 49 = .ok (.iload_n 1, 1) := by decide +kernel
theorem dX12_back_50 : decode bX12_back 50 = .ok (.iadd, 1) := by decide +kernel
theorem dX12_back_51 : decode bX12_back 51 = .ok (.iaload, 1) := by decide +kernel
theorem dX12_back_52 : decode bX12_back 52 = .ok (.iastore, 1) := by decide +kernel
theorem dX12_back_53 : decode bX12_back 53 = .ok (.iinc 1 1, 3) := by decide +kernel
theorem dX12_back_56 : decode bX12_back 56 = .ok (.goto (-29), 3) := by decide +kernel
theorem dX12_back_59 : decode bX12_back 59 = .ok (.aload_n 0, 1) := by decide +kernel
theorem dX12_back_60 : decode bX12_back 60 = .ok (.iconst 0, 1) := by decide +kernel
theorem dX12_back_61 : decode bX12_back 61 = .ok (.putfield 119, 3) := by decide +kernel
theorem dX12_back_64 : decode bX12_back 64 = .ok (.aload_n 0, 1) := by decide +kernel
theorem dX12_back_65 : decode bX12_back 65 = .ok (.getfield 122, 3) := by decide +kernel
theorem dX12_back_68 : decode bX12_back 68 = .ok (.ireturn, 1) := by decide +kernel
section
variable {p : Program} {l : Launch} {e : Env} {s : State} {m : MethodId} {args : Array Value} {below : List Frame} {meth : Method} {c : Code} {G : GG} {n : Nat} {h' : Hp} {rv : Int32}
set_option maxHeartbeats 4000000
set_option maxRecDepth 100000
theorem j_X12_back_27 (C0 : Cx p s m args meth c G bX12_back RX12 2 (some .int) "back") (hN : NT ≤ n) : ∀ (fu : Nat), ∀ {H : Heap} {locs : List Loc} {ls : Array Slot} {h : Hp} {x0 : Nat} {x1 : Int32}, XW G n h s 0 H locs → lv_has ls 2 [(0, .ref (bs G + x0)), (1, .int x1)] → kd x0 = 12 → f_X12_back_27 fu h x0 x1 = some (rv, h') → W p l e (rmC 0 0 0) s m args below meth c H locs 0 0 (MQ below (QP G n h' (some (.int rv))) args s 0 0 (Ab G)) (F0 m 27 ls []) := by
  obtain ⟨hx, hb, hr, hml, hown, hts, hK, hlocks, hnm⟩ := id C0
  intro fu
  induction fu with
  | zero => intro H locs ls h x0 x1 X hl o0 hf; cases hf
  | succ fu ih =>
    intro H locs ls h x0 x1 X hl o0 hf
    rw [f_X12_back_27] at hf
    refine lv_iload_n hx hb dX12_back_27 rfl (lv_at hl 1 rfl) ?_
    refine lv_bipush (v := (51 : Int32)) hx hb dX12_back_28 (by decide) ?_
    refine lv_icmp_ge (tgt := 59) hx hb dX12_back_30 (by decide) (fun c30 => ?_) (fun c30 => ?_)
    · have hf := ite_t hf c30
      refine lv_aload_n hx hb dX12_back_59 rfl (lv_at hl 0 rfl) ?_
      refine lv_iconst (v := (0 : Int32)) hx hb dX12_back_60 (by decide) ?_
      refine g_PI hx hb hts hown hK X o0 hN fl_X12_119 ft_12_5 (by decide) rfl dX12_back_61 (fun H locs X => ?_)
      obtain ⟨h1, e2, hf⟩ := lt_e hf
      rw [← e2] at X
      refine lv_aload_n hx hb dX12_back_64 rfl (lv_at hl 0 rfl) ?_
      refine g_I hx hb hts hown hK X o0 hN fl_X12_122 (by decide) rfl dX12_back_65 ?_
      exact r_I hx hb hr hlocks X hf dX12_back_68
    · have hf := ite_f hf c30
      refine lv_aload_n hx hb dX12_back_33 rfl (lv_at hl 0 rfl) ?_
      obtain ⟨g3, hf⟩ := gd_e hf
      refine g_R hx hb hts hown hK X o0 hN g3 fl_X12_20 (by decide) rfl (by decide) dX12_back_34 ?_
      refine lv_iload_n hx hb dX12_back_37 rfl (lv_at hl 1 rfl) ?_
      refine lv_aload_n hx hb dX12_back_38 rfl (lv_at hl 0 rfl) ?_
      obtain ⟨g4, hf⟩ := gd_e hf
      refine g_R hx hb hts hown hK X o0 hN g4 fl_X12_26 (by decide) rfl (by decide) dX12_back_39 ?_
      refine lv_bipush (v := (51 : Int32)) hx hb dX12_back_42 (by decide) ?_
      refine lv_aload_n hx hb dX12_back_44 rfl (lv_at hl 0 rfl) ?_
      refine g_I hx hb hts hown hK X o0 hN fl_X12_122 (by decide) rfl dX12_back_45 ?_
      refine lv_imul hx hb dX12_back_48 ?_
      refine lv_iload_n hx hb dX12_back_49 rfl (lv_at hl 1 rfl) ?_
      refine lv_iadd hx hb dX12_back_50 ?_
      obtain ⟨g5, hf⟩ := gd_e hf
      refine g_ia hx hb hK X g4 hN g5 (by decide) dX12_back_51 ?_
      obtain ⟨g6, hf⟩ := gd_e hf
      refine g_is hx hb hK X g3 hN g6 (by decide) dX12_back_52 (fun H locs X => ?_)
      obtain ⟨h7, e8, hf⟩ := lt_e hf
      rw [← e8] at X
      refine lv_iinc (v := (x1 + (1 : Int32))) (lv' := [(1, .int (x1 + (1 : Int32))), (0, .ref (bs G + x0))]) hx hb dX12_back_53 hl (k := 1) rfl rfl (by decide) rfl (fun ls hl => ?_)
      refine lv_goto (tgt := 27) hx hb dX12_back_56 (by decide) ?_
      exact ih X (lv_sub hl [1, 0] rfl) o0 hf
theorem k_X12_back (l : Launch) (G : GG) (n : Nat) (hN : NT ≤ n) {h h' : Hp} {x0 : Nat} {rv : Int32} (hf : f_X12_back h x0 = some (rv, h')) : CT l G n n yX12_back (.code yX12_back bX12_back 2 (some .int)) 0 0 0 [.ref (bs G + x0)] h h' (some (.int rv)) := by
  refine ct_of (maxL := 2) (ret := (some .int)) (bytes := bX12_back) (by decide) (Nat.le_of_ble_eq_true rfl) (fun p e s m below meth c C0 X ls hl => ?_)
  have hl : lv_has ls 2 [(0, .ref (bs G + x0))] := hl
  obtain ⟨hx, hb, hr, hml, hown, hts, hK, hlocks, hnm⟩ := id C0
  unfold f_X12_back at hf
  obtain ⟨o0, hf⟩ := gd_e hf
  refine lv_aload_n hx hb dX12_back_0 rfl (lv_at hl 0 rfl) ?_
  refine lv_iconst (v := (0 : Int32)) hx hb dX12_back_1 (by decide) ?_
  refine g_PI hx hb hts hown hK X o0 hN fl_X12_1 ft_12_0 (by decide) rfl dX12_back_2 (fun H locs X => ?_)
  obtain ⟨h1, e2, hf⟩ := lt_e hf
  rw [← e2] at X
  refine lv_aload_n hx hb dX12_back_5 rfl (lv_at hl 0 rfl) ?_
  refine g_I hx hb hts hown hK X o0 hN fl_X12_122 (by decide) rfl dX12_back_6 ?_
  refine lv_if_ne (tgt := 15) hx hb dX12_back_9 (by decide) (fun c9 => ?_) (fun c9 => ?_)
  · have hf := ite_f hf c9
    refine lv_aload_n hx hb dX12_back_15 rfl (lv_at hl 0 rfl) ?_
    refine lv_dup hx hb dX12_back_16 rfl ?_
    refine g_I hx hb hts hown hK X o0 hN fl_X12_122 (by decide) rfl dX12_back_17 ?_
    refine lv_iconst (v := (1 : Int32)) hx hb dX12_back_20 (by decide) ?_
    refine lv_isub hx hb dX12_back_21 ?_
    refine g_PI hx hb hts hown hK X o0 hN fl_X12_122 ft_12_7 (by decide) rfl dX12_back_22 (fun H locs X => ?_)
    obtain ⟨h3, e4, hf⟩ := lt_e hf
    rw [← e4] at X
    refine lv_iconst (v := (0 : Int32)) hx hb dX12_back_25 (by decide) ?_
    refine lv_istore_n (lv' := [(1, .int (0 : Int32)), (0, .ref (bs G + x0))]) hx hb dX12_back_26 rfl hl (by decide) rfl (fun ls hl => ?_)
    exact j_X12_back_27 C0 hN FU X (lv_sub hl [1, 0] rfl) o0 hf
  · have hf := ite_t hf c9
    refine lv_bipush (v := (-2 : Int32)) hx hb dX12_back_12 (by decide) ?_
    exact r_I hx hb hr hlocks X hf dX12_back_14
end
theorem dX12_count_0 : decode bX12_count 0 = .ok (.aload_n 0, 1) := by decide +kernel
theorem dX12_count_1 : decode bX12_count 1 = .ok (.iconst 0, 1) := by decide +kernel
theorem dX12_count_2 : decode bX12_count 2 = .ok (.putfield 1, 3) := by decide +kernel
theorem dX12_count_5 : decode bX12_count 5 = .ok (.iload_n 1, 1) := by decide +kernel
theorem dX12_count_6 : decode bX12_count 6 = .ok (.tableswitch 129 0 10 #[58, 65, 72, 80, 90, 97, 104, 109, 114, 119, 124], 58) := by decide +kernel
theorem dX12_count_64 : decode bX12_count 64 = .ok (.aload_n 0, 1) := by decide +kernel
theorem dX12_count_65 : decode bX12_count 65 = .ok (.getfield 13, 3) := by decide +kernel
theorem dX12_count_68 : decode bX12_count 68 = .ok (.iconst 0, 1) := by decide +kernel
theorem dX12_count_69 : decode bX12_count 69 = .ok (.iaload, 1) := by decide +kernel
theorem dX12_count_70 : decode bX12_count 70 = .ok (.ireturn, 1) := by decide +kernel
theorem dX12_count_71 : decode bX12_count 71 = .ok (.aload_n 0, 1) := by decide +kernel
theorem dX12_count_72 : decode bX12_count 72 = .ok (.getfield 13, 3) := by decide +kernel
theorem dX12_count_75 : decode bX12_count 75 = .ok (.iconst 1, 1) := by decide +kernel
theorem dX12_count_76 : decode bX12_count 76 = .ok (.iaload, 1) := by decide +kernel
theorem dX12_count_77 : decode bX12_count 77 = .ok (.ireturn, 1) := by decide +kernel
theorem dX12_count_78 : decode bX12_count 78 = .ok (.aload_n 0, 1) := by decide +kernel
theorem dX12_count_79 : decode bX12_count 79 = .ok (.invokevirtual 135, 3) := by decide +kernel
theorem dX12_count_82 : decode bX12_count 82 = .ok (.invokestatic 204, 3) := by decide +kernel
theorem dX12_count_85 : decode bX12_count 85 = .ok (.ireturn, 1) := by decide +kernel
theorem dX12_count_86 : decode bX12_count 86 = .ok (.aload_n 0, 1) := by decide +kernel
theorem dX12_count_87 : decode bX12_count 87 = .ok (.getfield 20, 3) := by decide +kernel
theorem dX12_count_90 : decode bX12_count 90 = .ok (.iconst 2, 1) := by decide +kernel
theorem dX12_count_91 : decode bX12_count 91 = .ok (.iaload, 1) := by decide +kernel
theorem dX12_count_92 : decode bX12_count 92 = .ok (.invokestatic 204, 3) := by decide +kernel
theorem dX12_count_95 : decode bX12_count 95 = .ok (.ireturn, 1) := by decide +kernel
theorem dX12_count_96 : decode bX12_count 96 = .ok (.aload_n 0, 1) := by decide +kernel
theorem dX12_count_97 : decode bX12_count 97 = .ok (.getfield 20, 3) := by decide +kernel
theorem dX12_count_100 : decode bX12_count 100 = .ok (.iconst 0, 1) := by decide +kernel
theorem dX12_count_101 : decode bX12_count 101 = .ok (.iaload, 1) := by decide +kernel
theorem dX12_count_102 : decode bX12_count 102 = .ok (.ireturn, 1) := by decide +kernel
theorem dX12_count_103 : decode bX12_count 103 = .ok (.aload_n 0, 1) := by decide +kernel
theorem dX12_count_104 : decode bX12_count 104 = .ok (.getfield 20, 3) := by decide +kernel
theorem dX12_count_107 : decode bX12_count 107 = .ok (.iconst 1, 1) := by decide +kernel
theorem dX12_count_108 : decode bX12_count 108 = .ok (.iaload, 1) := by decide +kernel
theorem dX12_count_109 : decode bX12_count 109 = .ok (.ireturn, 1) := by decide +kernel
theorem dX12_count_110 : decode bX12_count 110 = .ok (.aload_n 0, 1) := by decide +kernel
theorem dX12_count_111 : decode bX12_count 111 = .ok (.getfield 113, 3) := by decide +kernel
theorem dX12_count_114 : decode bX12_count 114 = .ok (.ireturn, 1) := by decide +kernel
theorem dX12_count_115 : decode bX12_count 115 = .ok (.aload_n 0, 1) := by decide +kernel
theorem dX12_count_116 : decode bX12_count 116 = .ok (.getfield 116, 3) := by decide +kernel
theorem dX12_count_119 : decode bX12_count 119 = .ok (.ireturn, 1) := by decide +kernel
theorem dX12_count_120 : decode bX12_count 120 = .ok (.aload_n 0, 1) := by decide +kernel
theorem dX12_count_121 : decode bX12_count 121 = .ok (.getfield 119, 3) := by decide +kernel
theorem dX12_count_124 : decode bX12_count 124 = .ok (.ireturn, 1) := by decide +kernel
theorem dX12_count_125 : decode bX12_count 125 = .ok (.aload_n 0, 1) := by decide +kernel
theorem dX12_count_126 : decode bX12_count 126 = .ok (.getfield 122, 3) := by decide +kernel
theorem dX12_count_129 : decode bX12_count 129 = .ok (.ireturn, 1) := by decide +kernel
theorem dX12_count_130 : decode bX12_count 130 = .ok (.aload_n 0, 1) := by decide +kernel
theorem dX12_count_131 : decode bX12_count 131 = .ok (.getfield 83, 3) := by decide +kernel
theorem dX12_count_134 : decode bX12_count 134 = .ok (.ireturn, 1) := by decide +kernel
theorem dX12_count_135 : decode bX12_count 135 = .ok (.iconst (-1), 1) := by decide +kernel
theorem dX12_count_136 : decode bX12_count 136 = .ok (.ireturn, 1) := by decide +kernel
section
variable {p : Program} {l : Launch} {e : Env} {s : State} {m : MethodId} {args : Array Value} {below : List Frame} {meth : Method} {c : Code} {G : GG} {n : Nat} {h' : Hp} {rv : Int32}
set_option maxHeartbeats 4000000
set_option maxRecDepth 100000
theorem k_X12_count (l : Launch) (G : GG) (n : Nat) (hN : NT ≤ n) {h h' : Hp} {x0 : Nat} {x1 : Int32} {rv : Int32} (hf : f_X12_count h x0 x1 = some (rv, h')) : CT l G n n yX12_count (.code yX12_count bX12_count 2 (some .int)) 1 0 0 [.ref (bs G + x0), .int x1] h h' (some (.int rv)) := by
  refine ct_of (maxL := 2) (ret := (some .int)) (bytes := bX12_count) (by decide) (Nat.le_of_ble_eq_true rfl) (fun p e s m below meth c C0 X ls hl => ?_)
  have hl : lv_has ls 2 [(0, .ref (bs G + x0)), (1, .int x1)] := hl
  obtain ⟨hx, hb, hr, hml, hown, hts, hK, hlocks, hnm⟩ := id C0
  unfold f_X12_count at hf
  obtain ⟨o0, hf⟩ := gd_e hf
  refine lv_aload_n hx hb dX12_count_0 rfl (lv_at hl 0 rfl) ?_
  refine lv_iconst (v := (0 : Int32)) hx hb dX12_count_1 (by decide) ?_
  refine g_PI hx hb hts hown hK X o0 hN fl_X12_1 ft_12_0 (by decide) rfl dX12_count_2 (fun H locs X => ?_)
  obtain ⟨h1, e2, hf⟩ := lt_e hf
  rw [← e2] at X
  refine lv_iload_n hx hb dX12_count_5 rfl (lv_at hl 1 rfl) ?_
  by_cases s6_0 : x1 = (0 : Int32)
  · have hf := ite_t hf s6_0
    refine sw_in (k := (0 : Int32)) (off := 58) (tgt := 64) hx hb dX12_count_6 s6_0 (by decide) (by decide) (by decide) (by decide) ?_
    refine lv_aload_n hx hb dX12_count_64 rfl (lv_at hl 0 rfl) ?_
    obtain ⟨g3, hf⟩ := gd_e hf
    refine g_R hx hb hts hown hK X o0 hN g3 fl_X12_13 (by decide) rfl (by decide) dX12_count_65 ?_
    refine lv_iconst (v := (0 : Int32)) hx hb dX12_count_68 (by decide) ?_
    obtain ⟨g4, hf⟩ := gd_e hf
    refine g_ia hx hb hK X g3 hN g4 (by decide) dX12_count_69 ?_
    exact r_I hx hb hr hlocks X hf dX12_count_70
  have hf := ite_f hf s6_0
  by_cases s6_1 : x1 = (1 : Int32)
  · have hf := ite_t hf s6_1
    refine sw_in (k := (1 : Int32)) (off := 65) (tgt := 71) hx hb dX12_count_6 s6_1 (by decide) (by decide) (by decide) (by decide) ?_
    refine lv_aload_n hx hb dX12_count_71 rfl (lv_at hl 0 rfl) ?_
    obtain ⟨g5, hf⟩ := gd_e hf
    refine g_R hx hb hts hown hK X o0 hN g5 fl_X12_13 (by decide) rfl (by decide) dX12_count_72 ?_
    refine lv_iconst (v := (1 : Int32)) hx hb dX12_count_75 (by decide) ?_
    obtain ⟨g6, hf⟩ := gd_e hf
    refine g_ia hx hb hK X g5 hN g6 (by decide) dX12_count_76 ?_
    exact r_I hx hb hr hlocks X hf dX12_count_77
  have hf := ite_f hf s6_1
  by_cases s6_2 : x1 = (2 : Int32)
  · have hf := ite_t hf s6_2
    refine sw_in (k := (2 : Int32)) (off := 72) (tgt := 78) hx hb dX12_count_6 s6_2 (by decide) (by decide) (by decide) (by decide) ?_
    refine lv_aload_n hx hb dX12_count_78 rfl (lv_at hl 0 rfl) ?_
    obtain ⟨r7, h8, q9, hf⟩ := bd_e hf
    refine c_V0 (As := []) (rest := []) (st1 := [.int r7]) hx hb hml hown hts hK X (k_X12_taken l G n hN q9) o0 hN lc_X12_taken lv_X12_135 (ci := 12) rfl rfl (by decide) rfl hl.1 (Nat.le_of_ble_eq_true rfl) dX12_count_79 rfl (fun H locs X => ?_)
    obtain ⟨r10, h11, q12, hf⟩ := bd_e hf
    refine c_S0 (As := [.int r7]) (rest := []) (st1 := [.int r10]) hx hb hml hown hts hK X (k_X12_bits l G n hN q12) lc_X12_bits ls_X12_204 (by decide) rfl hl.1 (Nat.le_of_ble_eq_true rfl) dX12_count_82 rfl (fun H locs X => ?_)
    exact r_I hx hb hr hlocks X hf dX12_count_85
  have hf := ite_f hf s6_2
  by_cases s6_3 : x1 = (3 : Int32)
  · have hf := ite_t hf s6_3
    refine sw_in (k := (3 : Int32)) (off := 80) (tgt := 86) hx hb dX12_count_6 s6_3 (by decide) (by decide) (by decide) (by decide) ?_
    refine lv_aload_n hx hb dX12_count_86 rfl (lv_at hl 0 rfl) ?_
    obtain ⟨g13, hf⟩ := gd_e hf
    refine g_R hx hb hts hown hK X o0 hN g13 fl_X12_20 (by decide) rfl (by decide) dX12_count_87 ?_
    refine lv_iconst (v := (2 : Int32)) hx hb dX12_count_90 (by decide) ?_
    obtain ⟨g14, hf⟩ := gd_e hf
    refine g_ia hx hb hK X g13 hN g14 (by decide) dX12_count_91 ?_
    obtain ⟨r15, h16, q17, hf⟩ := bd_e hf
    refine c_S0 (As := [.int (h1.1 (h1.2 x0 3) (2 : Int32).toNatClampNeg)]) (rest := []) (st1 := [.int r15]) hx hb hml hown hts hK X (k_X12_bits l G n hN q17) lc_X12_bits ls_X12_204 (by decide) rfl hl.1 (Nat.le_of_ble_eq_true rfl) dX12_count_92 rfl (fun H locs X => ?_)
    exact r_I hx hb hr hlocks X hf dX12_count_95
  have hf := ite_f hf s6_3
  by_cases s6_4 : x1 = (4 : Int32)
  · have hf := ite_t hf s6_4
    refine sw_in (k := (4 : Int32)) (off := 90) (tgt := 96) hx hb dX12_count_6 s6_4 (by decide) (by decide) (by decide) (by decide) ?_
    refine lv_aload_n hx hb dX12_count_96 rfl (lv_at hl 0 rfl) ?_
    obtain ⟨g18, hf⟩ := gd_e hf
    refine g_R hx hb hts hown hK X o0 hN g18 fl_X12_20 (by decide) rfl (by decide) dX12_count_97 ?_
    refine lv_iconst (v := (0 : Int32)) hx hb dX12_count_100 (by decide) ?_
    obtain ⟨g19, hf⟩ := gd_e hf
    refine g_ia hx hb hK X g18 hN g19 (by decide) dX12_count_101 ?_
    exact r_I hx hb hr hlocks X hf dX12_count_102
  have hf := ite_f hf s6_4
  by_cases s6_5 : x1 = (5 : Int32)
  · have hf := ite_t hf s6_5
    refine sw_in (k := (5 : Int32)) (off := 97) (tgt := 103) hx hb dX12_count_6 s6_5 (by decide) (by decide) (by decide) (by decide) ?_
    refine lv_aload_n hx hb dX12_count_103 rfl (lv_at hl 0 rfl) ?_
    obtain ⟨g20, hf⟩ := gd_e hf
    refine g_R hx hb hts hown hK X o0 hN g20 fl_X12_20 (by decide) rfl (by decide) dX12_count_104 ?_
    refine lv_iconst (v := (1 : Int32)) hx hb dX12_count_107 (by decide) ?_
    obtain ⟨g21, hf⟩ := gd_e hf
    refine g_ia hx hb hK X g20 hN g21 (by decide) dX12_count_108 ?_
    exact r_I hx hb hr hlocks X hf dX12_count_109
  have hf := ite_f hf s6_5
  by_cases s6_6 : x1 = (6 : Int32)
  · have hf := ite_t hf s6_6
    refine sw_in (k := (6 : Int32)) (off := 104) (tgt := 110) hx hb dX12_count_6 s6_6 (by decide) (by decide) (by decide) (by decide) ?_
    refine lv_aload_n hx hb dX12_count_110 rfl (lv_at hl 0 rfl) ?_
    refine g_I hx hb hts hown hK X o0 hN fl_X12_113 (by decide) rfl dX12_count_111 ?_
    exact r_I hx hb hr hlocks X hf dX12_count_114
  have hf := ite_f hf s6_6
  by_cases s6_7 : x1 = (7 : Int32)
  · have hf := ite_t hf s6_7
    refine sw_in (k := (7 : Int32)) (off := 109) (tgt := 115) hx hb dX12_count_6 s6_7 (by decide) (by decide) (by decide) (by decide) ?_
    refine lv_aload_n hx hb dX12_count_115 rfl (lv_at hl 0 rfl) ?_
    refine g_I hx hb hts hown hK X o0 hN fl_X12_116 (by decide) rfl dX12_count_116 ?_
    exact r_I hx hb hr hlocks X hf dX12_count_119
  have hf := ite_f hf s6_7
  by_cases s6_8 : x1 = (8 : Int32)
  · have hf := ite_t hf s6_8
    refine sw_in (k := (8 : Int32)) (off := 114) (tgt := 120) hx hb dX12_count_6 s6_8 (by decide) (by decide) (by decide) (by decide) ?_
    refine lv_aload_n hx hb dX12_count_120 rfl (lv_at hl 0 rfl) ?_
    refine g_I hx hb hts hown hK X o0 hN fl_X12_119 (by decide) rfl dX12_count_121 ?_
    exact r_I hx hb hr hlocks X hf dX12_count_124
  have hf := ite_f hf s6_8
  by_cases s6_9 : x1 = (9 : Int32)
  · have hf := ite_t hf s6_9
    refine sw_in (k := (9 : Int32)) (off := 119) (tgt := 125) hx hb dX12_count_6 s6_9 (by decide) (by decide) (by decide) (by decide) ?_
    refine lv_aload_n hx hb dX12_count_125 rfl (lv_at hl 0 rfl) ?_
    refine g_I hx hb hts hown hK X o0 hN fl_X12_122 (by decide) rfl dX12_count_126 ?_
    exact r_I hx hb hr hlocks X hf dX12_count_129
  have hf := ite_f hf s6_9
  by_cases s6_10 : x1 = (10 : Int32)
  · have hf := ite_t hf s6_10
    refine sw_in (k := (10 : Int32)) (off := 124) (tgt := 130) hx hb dX12_count_6 s6_10 (by decide) (by decide) (by decide) (by decide) ?_
    refine lv_aload_n hx hb dX12_count_130 rfl (lv_at hl 0 rfl) ?_
    refine g_I hx hb hts hown hK X o0 hN fl_X12_83 (by decide) rfl dX12_count_131 ?_
    exact r_I hx hb hr hlocks X hf dX12_count_134
  have hf := ite_f hf s6_10
  refine sw_df (ex := [(0 : Int32), (1 : Int32), (2 : Int32), (3 : Int32), (4 : Int32), (5 : Int32), (6 : Int32), (7 : Int32), (8 : Int32), (9 : Int32), (10 : Int32)]) (tgt := 135) hx hb dX12_count_6 (by decide) (by decide) (List.forall_mem_cons.mpr ⟨s6_0, List.forall_mem_cons.mpr ⟨s6_1, List.forall_mem_cons.mpr ⟨s6_2, List.forall_mem_cons.mpr ⟨s6_3, List.forall_mem_cons.mpr ⟨s6_4, List.forall_mem_cons.mpr ⟨s6_5, List.forall_mem_cons.mpr ⟨s6_6, List.forall_mem_cons.mpr ⟨s6_7, List.forall_mem_cons.mpr ⟨s6_8, List.forall_mem_cons.mpr ⟨s6_9, List.forall_mem_cons.mpr ⟨s6_10, (fun _ hz => absurd hz List.not_mem_nil)⟩⟩⟩⟩⟩⟩⟩⟩⟩⟩⟩) (by decide) ?_
  refine lv_iconst (v := (-1 : Int32)) hx hb dX12_count_135 (by decide) ?_
  exact r_I hx hb hr hlocks X hf dX12_count_136
end
