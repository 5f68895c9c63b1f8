theorem dX11_keep_0 : decode bX11_keep 0 = .ok (.aload_n 0, 1) := by decide +kernel
theorem dX11_keep_1 : decode bX11_keep 1 = .ok (.getfield 42, 3) := by decide +kernel
theorem dX11_keep_4 : decode bX11_keep 4 = .ok (.getfield 123, 3) := by decide +kernel
theorem dX11_keep_7 : decode bX11_keep 7 = .ok (.iconst 2, 1) := by decide +kernel
theorem dX11_keep_8 : decode bX11_keep 8 = .ok (.if_icmp .lt 6, 3) := by decide +kernel
theorem dX11_keep_11 : decode bX11_keep 11 = .ok (.bipush (-3), 2) := by decide +kernel
theorem dX11_keep_13 : decode bX11_keep 13 = .ok (.ireturn, 1) := by decide +kernel
theorem dX11_keep_14 : decode bX11_keep 14 = .ok (.aload_n 0, 1) := by decide +kernel
theorem dX11_keep_15 : decode bX11_keep 15 = .ok (.getfield 42, 3) := by decide +kernel
theorem dX11_keep_18 : decode bX11_keep 18 = .ok (.aload_n 0, 1) := by decide +kernel
theorem dX11_keep_19 : decode bX11_keep 19 = .ok (.getfield 29, 3) := by decide +kernel
theorem dX11_keep_22 : decode bX11_keep 22 = .ok (.invokevirtual 202, 3) := by decide +kernel
theorem dX11_keep_25 : decode bX11_keep 25 = .ok (.aload_n 0, 1) := by decide +kernel
theorem dX11_keep_26 : decode bX11_keep 26 = .ok (.getfield 42, 3) := by decide +kernel
theorem dX11_keep_29 : decode bX11_keep 29 = .ok (.getfield 123, 3) := by decide +kernel
theorem dX11_keep_32 : decode bX11_keep 32 = .ok (.ireturn, 1) := by decide +kernel
section
variable {p : Program} {l : Launch} {e : Env} {s : State} {m : MethodId} {args : Array Value} {below : List Frame} {meth : Method} {c : Code} {G : GG} {n : Nat} {h' : Hp} {rv : Int32}
set_option maxHeartbeats 4000000
set_option maxRecDepth 100000
theorem k_X11_keep (l : Launch) (G : GG) (n : Nat) (hN : NX ≤ n) {h h' : Hp} {x0 : Nat} {rv : Int32} (hf : f_X11_keep h x0 = some (rv, h')) : CT l G n n yX11_keep (.code yX11_keep bX11_keep 1 (some .int)) 3 0 0 [.ref (bs G + x0)] h h' (some (.int rv)) := by
  refine ct_of (maxL := 1) (ret := (some .int)) (bytes := bX11_keep) (by decide) (Nat.le_of_ble_eq_true rfl) (fun p e s m below meth c C0 X ls hl => ?_)
  have hl : lv_has ls 1 [(0, .ref (bs G + x0))] := hl
  obtain ⟨hx, hb, hr, hml, hown, hts, hK, hlocks, hnm⟩ := id C0
  unfold f_X11_keep at hf
  obtain ⟨o0, hf⟩ := gd_e hf
  refine lv_aload_n hx hb dX11_keep_0 rfl (lv_at hl 0 rfl) ?_
  obtain ⟨g1, hf⟩ := gd_e hf
  refine g_R hx hb hts hown hK X o0 hN g1 fl_X11_42 (by decide) rfl (by decide) dX11_keep_1 ?_
  refine g_I hx hb hts hown hK X g1 hN fl_X11_123 (by decide) rfl dX11_keep_4 ?_
  refine lv_iconst (v := (2 : Int32)) hx hb dX11_keep_7 (by decide) ?_
  refine lv_icmp_lt (tgt := 14) hx hb dX11_keep_8 (by decide) (fun c8 => ?_) (fun c8 => ?_)
  · have hf := ite_t hf c8
    refine lv_aload_n hx hb dX11_keep_14 rfl (lv_at hl 0 rfl) ?_
    obtain ⟨g2, hf⟩ := gd_e hf
    refine g_R hx hb hts hown hK X o0 hN g2 fl_X11_42 (by decide) rfl (by decide) dX11_keep_15 ?_
    refine lv_aload_n hx hb dX11_keep_18 rfl (lv_at hl 0 rfl) ?_
    obtain ⟨g3, hf⟩ := gd_e hf
    refine g_R hx hb hts hown hK X o0 hN g3 fl_X11_29 (by decide) rfl (by decide) dX11_keep_19 ?_
    obtain ⟨r4, h5, q6, hf⟩ := bd_e hf
    refine c_V0 (As := [.ref (bs G + (h.2 x0 3))]) (rest := []) (st1 := []) hx hb hml hown hts hK X (k_X3_push l G n hN q6) g2 hN lc_X3_push lv_X11_202 (ci := 3) rfl rfl (by decide) rfl hl.1 (Nat.le_of_ble_eq_true rfl) dX11_keep_22 rfl (fun H locs X => ?_)
    refine lv_aload_n hx hb dX11_keep_25 rfl (lv_at hl 0 rfl) ?_
    obtain ⟨g7, hf⟩ := gd_e hf
    refine g_R hx hb hts hown hK X o0 hN g7 fl_X11_42 (by decide) rfl (by decide) dX11_keep_26 ?_
    refine g_I hx hb hts hown hK X g7 hN fl_X11_123 (by decide) rfl dX11_keep_29 ?_
    exact r_I hx hb hr hlocks X hf dX11_keep_32
  · have hf := ite_f hf c8
    refine lv_bipush (v := (-3 : Int32)) hx hb dX11_keep_11 (by decide) ?_
    exact r_I hx hb hr hlocks X hf dX11_keep_13
end
theorem dX11_back_0 : decode bX11_back 0 = .ok (.aload_n 0, 1) := by decide +kernel
theorem dX11_back_1 : decode bX11_back 1 = .ok (.getfield 42, 3) := by decide +kernel
theorem dX11_back_4 : decode bX11_back 4 = .ok (.aload_n 0, 1) := by decide +kernel
theorem dX11_back_5 : decode bX11_back 5 = .ok (.getfield 29, 3) := by decide +kernel
theorem dX11_back_8 : decode bX11_back 8 = .ok (.invokevirtual 229, 3) := by decide +kernel
theorem dX11_back_11 : decode bX11_back 11 = .ok (.ifCond .ne 6, 3) := by decide +kernel
theorem dX11_back_14 : decode bX11_back 14 = .ok (.bipush (-2), 2) := by decide +kernel
theorem dX11_back_16 : decode bX11_back 16 = .ok (.ireturn, 1) := by decide +kernel
theorem dX11_back_17 : decode bX11_back 17 = .ok (.aload_n 0, 1) := by decide +kernel
theorem dX11_back_18 : decode bX11_back 18 = .ok (.getfield 38, 3) := by decide +kernel
theorem dX11_back_21 : decode bX11_back 21 = .ok (.iconst 0, 1) := by decide +kernel
theorem dX11_back_22 : decode bX11_back 22 = .ok (.putfield 123, 3) := by decide +kernel
theorem dX11_back_25 : decode bX11_back 25 = .ok (.aload_n 0, 1) := by decide +kernel
theorem dX11_back_26 : decode bX11_back 26 = .ok (.getfield 42, 3) := by decide +kernel
theorem dX11_back_29 : decode bX11_back 29 = .ok (.getfield 123, 3) := by decide +kernel
theorem dX11_back_32 : decode bX11_back 32 = .ok (.ireturn, 1) := by decide +kernel
section
variable {p : Program} {l : Launch} {e : Env} {s : State} {m : MethodId} {args : Array Value} {below : List Frame} {meth : Method} {c : Code} {G : GG} {n : Nat} {h' : Hp} {rv : Int32}
set_option maxHeartbeats 4000000
set_option maxRecDepth 100000
theorem k_X11_back (l : Launch) (G : GG) (n : Nat) (hN : NX ≤ n) {h h' : Hp} {x0 : Nat} {rv : Int32} (hf : f_X11_back h x0 = some (rv, h')) : CT l G n n yX11_back (.code yX11_back bX11_back 1 (some .int)) 3 0 0 [.ref (bs G + x0)] h h' (some (.int rv)) := by
  refine ct_of (maxL := 1) (ret := (some .int)) (bytes := bX11_back) (by decide) (Nat.le_of_ble_eq_true rfl) (fun p e s m below meth c C0 X ls hl => ?_)
  have hl : lv_has ls 1 [(0, .ref (bs G + x0))] := hl
  obtain ⟨hx, hb, hr, hml, hown, hts, hK, hlocks, hnm⟩ := id C0
  unfold f_X11_back at hf
  obtain ⟨o0, hf⟩ := gd_e hf
  refine lv_aload_n hx hb dX11_back_0 rfl (lv_at hl 0 rfl) ?_
  obtain ⟨g1, hf⟩ := gd_e hf
  refine g_R hx hb hts hown hK X o0 hN g1 fl_X11_42 (by decide) rfl (by decide) dX11_back_1 ?_
  refine lv_aload_n hx hb dX11_back_4 rfl (lv_at hl 0 rfl) ?_
  obtain ⟨g2, hf⟩ := gd_e hf
  refine g_R hx hb hts hown hK X o0 hN g2 fl_X11_29 (by decide) rfl (by decide) dX11_back_5 ?_
  obtain ⟨r3, h4, q5, hf⟩ := bd_e hf
  refine c_V0 (As := [.ref (bs G + (h.2 x0 3))]) (rest := []) (st1 := [.int r3]) hx hb hml hown hts hK X (k_X3_pop l G n hN q5) g1 hN lc_X3_pop lv_X11_229 (ci := 3) rfl rfl (by decide) rfl hl.1 (Nat.le_of_ble_eq_true rfl) dX11_back_8 rfl (fun H locs X => ?_)
  refine lv_if_ne (tgt := 17) hx hb dX11_back_11 (by decide) (fun c11 => ?_) (fun c11 => ?_)
  · have hf := ite_f hf c11
    refine lv_aload_n hx hb dX11_back_17 rfl (lv_at hl 0 rfl) ?_
    obtain ⟨g6, hf⟩ := gd_e hf
    refine g_R hx hb hts hown hK X o0 hN g6 fl_X11_38 (by decide) rfl (by decide) dX11_back_18 ?_
    refine lv_iconst (v := (0 : Int32)) hx hb dX11_back_21 (by decide) ?_
    refine g_PI hx hb hts hown hK X g6 hN fl_X11_123 ft_3_0 (by decide) rfl dX11_back_22 (fun H locs X => ?_)
    obtain ⟨h7, e8, hf⟩ := lt_e hf
    rw [← e8] at X
    refine lv_aload_n hx hb dX11_back_25 rfl (lv_at hl 0 rfl) ?_
    obtain ⟨g9, hf⟩ := gd_e hf
    refine g_R hx hb hts hown hK X o0 hN g9 fl_X11_42 (by decide) rfl (by decide) dX11_back_26 ?_
    refine g_I hx hb hts hown hK X g9 hN fl_X11_123 (by decide) rfl dX11_back_29 ?_
    exact r_I hx hb hr hlocks X hf dX11_back_32
  · have hf := ite_t hf c11
    refine lv_bipush (v := (-2 : Int32)) hx hb dX11_back_14 (by decide) ?_
    exact r_I hx hb hr hlocks X hf dX11_back_16
end
theorem dX11_count_0 : decode bX11_count 0 = .ok (.iload_n 1, 1) := by decide +kernel
theorem dX11_count_1 : decode bX11_count 1 = .ok (.tableswitch 161 0 10 #[59, 67, 75, 86, 97, 105, 121, 129, 137, 145, 153], 59) := by decide +kernel
theorem dX11_count_60 : decode bX11_count 60 = .ok (.aload_n 0, 1) := by decide +kernel
theorem dX11_count_61 : decode bX11_count 61 = .ok (.getfield 19, 3) := by decide +kernel
theorem dX11_count_64 : decode bX11_count 64 = .ok (.getfield 128, 3) := by decide +kernel
theorem dX11_count_67 : decode bX11_count 67 = .ok (.ireturn, 1) := by decide +kernel
theorem dX11_count_68 : decode bX11_count 68 = .ok (.aload_n 0, 1) := by decide +kernel
theorem dX11_count_69 : decode bX11_count 69 = .ok (.getfield 19, 3) := by decide +kernel
theorem dX11_count_72 : decode bX11_count 72 = .ok (.getfield 116, 3) := by decide +kernel
theorem dX11_count_75 : decode bX11_count 75 = .ok (.ireturn, 1) := by decide +kernel
theorem dX11_count_76 : decode bX11_count 76 = .ok (.aload_n 0, 1) := by decide +kernel
theorem dX11_count_77 : decode bX11_count 77 = .ok (.getfield 29, 3) := by decide +kernel
theorem dX11_count_80 : decode bX11_count 80 = .ok (.invokevirtual 165, 3) := by decide +kernel
theorem dX11_count_83 : decode bX11_count 83 = .ok (.invokestatic 213, 3) := by decide +kernel
theorem dX11_count_86 : decode bX11_count 86 = .ok (.ireturn, 1) := by decide +kernel
theorem dX11_count_87 : decode bX11_count 87 = .ok (.aload_n 0, 1) := by decide +kernel
theorem dX11_count_88 : decode bX11_count 88 = .ok (.getfield 29, 3) := by decide +kernel
theorem dX11_count_91 : decode bX11_count 91 = .ok (.getfield 158, 3) := by decide +kernel
theorem dX11_count_94 : decode bX11_count 94 = .ok (.invokestatic 213, 3) := by decide +kernel
theorem dX11_count_97 : decode bX11_count 97 = .ok (.ireturn, 1) := by decide +kernel
theorem dX11_count_98 : decode bX11_count 98 = .ok (.aload_n 0, 1) := by decide +kernel
theorem dX11_count_99 : decode bX11_count 99 = .ok (.getfield 29, 3) := by decide +kernel
theorem dX11_count_102 : decode bX11_count 102 = .ok (.getfield 222, 3) := by decide +kernel
theorem dX11_count_105 : decode bX11_count 105 = .ok (.ireturn, 1) := by decide +kernel
theorem dX11_count_106 : decode bX11_count 106 = .ok (.aload_n 0, 1) := by decide +kernel
theorem dX11_count_107 : decode bX11_count 107 = .ok (.getfield 29, 3) := by decide +kernel
theorem dX11_count_110 : decode bX11_count 110 = .ok (.getfield 225, 3) := by decide +kernel
theorem dX11_count_113 : decode bX11_count 113 = .ok (.ifCond .eq 7, 3) := by decide +kernel
theorem dX11_count_116 : decode bX11_count 116 = .ok (.iconst 1, 1) := by decide +kernel
theorem dX11_count_117 : decode bX11_count 117 = .ok (.goto 4, 3) := by decide +kernel
theorem dX11_count_120 : decode bX11_count 120 = .ok (.iconst 0, 1) := by decide +kernel
theorem dX11_count_121 : decode bX11_count 121 = .ok (.ireturn, 1) := by decide +kernel
theorem dX11_count_122 : decode bX11_count 122 = .ok (.aload_n 0, 1) := by decide +kernel
theorem dX11_count_123 : decode bX11_count 123 = .ok (.getfield 48, 3) := by decide +kernel
theorem dX11_count_126 : decode bX11_count 126 = .ok (.getfield 126, 3) := by decide +kernel
theorem dX11_count_129 : decode bX11_count 129 = .ok (.ireturn, 1) := by decide +kernel
theorem dX11_count_130 : decode bX11_count 130 = .ok (.aload_n 0, 1) := by decide +kernel
theorem dX11_count_131 : decode bX11_count 131 = .ok (.getfield 55, 3) := by decide +kernel
theorem dX11_count_134 : decode bX11_count 134 = .ok (.getfield 127, 3) := by decide +kernel
theorem dX11_count_137 : decode bX11_count 137 = .ok (.ireturn, 1) := by decide +kernel
theorem dX11_count_138 : decode bX11_count 138 = .ok (.aload_n 0, 1) := by decide +kernel
theorem dX11_count_139 : decode bX11_count 139 = .ok (.getfield 38, 3) := by decide +kernel
theorem dX11_count_142 : decode bX11_count 142 = .ok (.getfield 123, 3) := by decide +kernel
theorem dX11_count_145 : decode bX11_count 145 = .ok (.ireturn, 1) := by decide +kernel
theorem dX11_count_146 : decode bX11_count 146 = .ok (.aload_n 0, 1) := by decide +kernel
theorem dX11_count_147 : decode bX11_count 147 = .ok (.getfield 42, 3) := by decide +kernel
theorem dX11_count_150 : decode bX11_count 150 = .ok (.getfield 123, 3) := by decide +kernel
theorem dX11_count_153 : decode bX11_count 153 = .ok (.ireturn, 1) := by decide +kernel
theorem dX11_count_154 : decode bX11_count 154 = .ok (.aload_n 0, 1) := by decide +kernel
theorem dX11_count_155 : decode bX11_count 155 = .ok (.getfield 10, 3) := by decide +kernel
theorem dX11_count_158 : decode bX11_count 158 = .ok (.getfield 109, 3) := by decide +kernel
theorem dX11_count_161 : decode bX11_count 161 = .ok (.ireturn, 1) := by decide +kernel
theorem dX11_count_162 : decode bX11_count 162 = .ok (.iconst (-1), 1) := by decide +kernel
theorem dX11_count_163 : decode bX11_count 163 = .ok (.ireturn, 1) := by decide +kernel
section
variable {p : Program} {l : Launch} {e : Env} {s : State} {m : MethodId} {args : Array Value} {below : List Frame} {meth : Method} {c : Code} {G : GG} {n : Nat} {h' : Hp} {rv : Int32}
set_option maxHeartbeats 4000000
set_option maxRecDepth 100000
theorem k_X11_count (l : Launch) (G : GG) (n : Nat) (hN : NX ≤ n) {h h' : Hp} {x0 : Nat} {x1 : Int32} {rv : Int32} (hf : f_X11_count h x0 x1 = some (rv, h')) : CT l G n n yX11_count (.code yX11_count bX11_count 2 (some .int)) 2 0 0 [.ref (bs G + x0), .int x1] h h' (some (.int rv)) := by
  refine ct_of (maxL := 2) (ret := (some .int)) (bytes := bX11_count) (by decide) (Nat.le_of_ble_eq_true rfl) (fun p e s m below meth c C0 X ls hl => ?_)
  have hl : lv_has ls 2 [(0, .ref (bs G + x0)), (1, .int x1)] := hl
  obtain ⟨hx, hb, hr, hml, hown, hts, hK, hlocks, hnm⟩ := id C0
  unfold f_X11_count at hf
  obtain ⟨o0, hf⟩ := gd_e hf
  refine lv_iload_n hx hb dX11_count_0 rfl (lv_at hl 1 rfl) ?_
  by_cases s1_0 : x1 = (0 : Int32)
  · have hf := ite_t hf s1_0
    refine sw_in (k := (0 : Int32)) (off := 59) (tgt := 60) hx hb dX11_count_1 s1_0 (by decide) (by decide) (by decide) (by decide) ?_
    refine lv_aload_n hx hb dX11_count_60 rfl (lv_at hl 0 rfl) ?_
    obtain ⟨g1, hf⟩ := gd_e hf
    refine g_R hx hb hts hown hK X o0 hN g1 fl_X11_19 (by decide) rfl (by decide) dX11_count_61 ?_
    refine g_I hx hb hts hown hK X g1 hN fl_X11_128 (by decide) rfl dX11_count_64 ?_
    exact r_I hx hb hr hlocks X hf dX11_count_67
  have hf := ite_f hf s1_0
  by_cases s1_1 : x1 = (1 : Int32)
  · have hf := ite_t hf s1_1
    refine sw_in (k := (1 : Int32)) (off := 67) (tgt := 68) hx hb dX11_count_1 s1_1 (by decide) (by decide) (by decide) (by decide) ?_
    refine lv_aload_n hx hb dX11_count_68 rfl (lv_at hl 0 rfl) ?_
    obtain ⟨g2, hf⟩ := gd_e hf
    refine g_R hx hb hts hown hK X o0 hN g2 fl_X11_19 (by decide) rfl (by decide) dX11_count_69 ?_
    refine g_I hx hb hts hown hK X g2 hN fl_X11_116 (by decide) rfl dX11_count_72 ?_
    exact r_I hx hb hr hlocks X hf dX11_count_75
  have hf := ite_f hf s1_1
  by_cases s1_2 : x1 = (2 : Int32)
  · have hf := ite_t hf s1_2
    refine sw_in (k := (2 : Int32)) (off := 75) (tgt := 76) hx hb dX11_count_1 s1_2 (by decide) (by decide) (by decide) (by decide) ?_
    refine lv_aload_n hx hb dX11_count_76 rfl (lv_at hl 0 rfl) ?_
    obtain ⟨g3, hf⟩ := gd_e hf
    refine g_R hx hb hts hown hK X o0 hN g3 fl_X11_29 (by decide) rfl (by decide) dX11_count_77 ?_
    obtain ⟨r4, h5, q6, hf⟩ := bd_e hf
    refine c_V0 (As := []) (rest := []) (st1 := [.int r4]) hx hb hml hown hts hK X (k_X2_taken l G n hN q6) g3 hN lc_X2_taken lv_X11_165 (ci := 2) rfl rfl (by decide) rfl hl.1 (Nat.le_of_ble_eq_true rfl) dX11_count_80 rfl (fun H locs X => ?_)
    obtain ⟨r7, h8, q9, hf⟩ := bd_e hf
    refine c_S0 (As := [.int r4]) (rest := []) (st1 := [.int r7]) hx hb hml hown hts hK X (k_J6_bitCount_0f7a4 l G n hN q9) lc_J6_bitCount_0f7a4 ls_X11_213 (by decide) rfl hl.1 (Nat.le_of_ble_eq_true rfl) dX11_count_83 rfl (fun H locs X => ?_)
    exact r_I hx hb hr hlocks X hf dX11_count_86
  have hf := ite_f hf s1_2
  by_cases s1_3 : x1 = (3 : Int32)
  · have hf := ite_t hf s1_3
    refine sw_in (k := (3 : Int32)) (off := 86) (tgt := 87) hx hb dX11_count_1 s1_3 (by decide) (by decide) (by decide) (by decide) ?_
    refine lv_aload_n hx hb dX11_count_87 rfl (lv_at hl 0 rfl) ?_
    obtain ⟨g10, hf⟩ := gd_e hf
    refine g_R hx hb hts hown hK X o0 hN g10 fl_X11_29 (by decide) rfl (by decide) dX11_count_88 ?_
    refine g_I hx hb hts hown hK X g10 hN fl_X11_158 (by decide) rfl dX11_count_91 ?_
    obtain ⟨r11, h12, q13, hf⟩ := bd_e hf
    refine c_S0 (As := [.int (h.1 (h.2 x0 3) 2)]) (rest := []) (st1 := [.int r11]) hx hb hml hown hts hK X (k_J6_bitCount_0f7a4 l G n hN q13) lc_J6_bitCount_0f7a4 ls_X11_213 (by decide) rfl hl.1 (Nat.le_of_ble_eq_true rfl) dX11_count_94 rfl (fun H locs X => ?_)
    exact r_I hx hb hr hlocks X hf dX11_count_97
  have hf := ite_f hf s1_3
  by_cases s1_4 : x1 = (4 : Int32)
  · have hf := ite_t hf s1_4
    refine sw_in (k := (4 : Int32)) (off := 97) (tgt := 98) hx hb dX11_count_1 s1_4 (by decide) (by decide) (by decide) (by decide) ?_
    refine lv_aload_n hx hb dX11_count_98 rfl (lv_at hl 0 rfl) ?_
    obtain ⟨g14, hf⟩ := gd_e hf
    refine g_R hx hb hts hown hK X o0 hN g14 fl_X11_29 (by decide) rfl (by decide) dX11_count_99 ?_
    refine g_I hx hb hts hown hK X g14 hN fl_X11_222 (by decide) rfl dX11_count_102 ?_
    exact r_I hx hb hr hlocks X hf dX11_count_105
  have hf := ite_f hf s1_4
  by_cases s1_5 : x1 = (5 : Int32)
  · have hf := ite_t hf s1_5
    refine sw_in (k := (5 : Int32)) (off := 105) (tgt := 106) hx hb dX11_count_1 s1_5 (by decide) (by decide) (by decide) (by decide) ?_
    refine lv_aload_n hx hb dX11_count_106 rfl (lv_at hl 0 rfl) ?_
    obtain ⟨g15, hf⟩ := gd_e hf
    refine g_R hx hb hts hown hK X o0 hN g15 fl_X11_29 (by decide) rfl (by decide) dX11_count_107 ?_
    refine g_I hx hb hts hown hK X g15 hN fl_X11_225 (by decide) rfl dX11_count_110 ?_
    refine lv_if_eq (tgt := 120) hx hb dX11_count_113 (by decide) (fun c113 => ?_) (fun c113 => ?_)
    · have hf := ite_t hf c113
      refine lv_iconst (v := (0 : Int32)) hx hb dX11_count_120 (by decide) ?_
      exact r_I hx hb hr hlocks X hf dX11_count_121
    · have hf := ite_f hf c113
      refine lv_iconst (v := (1 : Int32)) hx hb dX11_count_116 (by decide) ?_
      refine lv_goto (tgt := 121) hx hb dX11_count_117 (by decide) ?_
      exact r_I hx hb hr hlocks X hf dX11_count_121
  have hf := ite_f hf s1_5
  by_cases s1_6 : x1 = (6 : Int32)
  · have hf := ite_t hf s1_6
    refine sw_in (k := (6 : Int32)) (off := 121) (tgt := 122) hx hb dX11_count_1 s1_6 (by decide) (by decide) (by decide) (by decide) ?_
    refine lv_aload_n hx hb dX11_count_122 rfl (lv_at hl 0 rfl) ?_
    obtain ⟨g16, hf⟩ := gd_e hf
    refine g_R hx hb hts hown hK X o0 hN g16 fl_X11_48 (by decide) rfl (by decide) dX11_count_123 ?_
    refine g_I hx hb hts hown hK X g16 hN fl_X11_126 (by decide) rfl dX11_count_126 ?_
    exact r_I hx hb hr hlocks X hf dX11_count_129
  have hf := ite_f hf s1_6
  by_cases s1_7 : x1 = (7 : Int32)
  · have hf := ite_t hf s1_7
    refine sw_in (k := (7 : Int32)) (off := 129) (tgt := 130) hx hb dX11_count_1 s1_7 (by decide) (by decide) (by decide) (by decide) ?_
    refine lv_aload_n hx hb dX11_count_130 rfl (lv_at hl 0 rfl) ?_
    obtain ⟨g17, hf⟩ := gd_e hf
    refine g_R hx hb hts hown hK X o0 hN g17 fl_X11_55 (by decide) rfl (by decide) dX11_count_131 ?_
    refine g_I hx hb hts hown hK X g17 hN fl_X11_127 (by decide) rfl dX11_count_134 ?_
    exact r_I hx hb hr hlocks X hf dX11_count_137
  have hf := ite_f hf s1_7
  by_cases s1_8 : x1 = (8 : Int32)
  · have hf := ite_t hf s1_8
    refine sw_in (k := (8 : Int32)) (off := 137) (tgt := 138) hx hb dX11_count_1 s1_8 (by decide) (by decide) (by decide) (by decide) ?_
    refine lv_aload_n hx hb dX11_count_138 rfl (lv_at hl 0 rfl) ?_
    obtain ⟨g18, hf⟩ := gd_e hf
    refine g_R hx hb hts hown hK X o0 hN g18 fl_X11_38 (by decide) rfl (by decide) dX11_count_139 ?_
    refine g_I hx hb hts hown hK X g18 hN fl_X11_123 (by decide) rfl dX11_count_142 ?_
    exact r_I hx hb hr hlocks X hf dX11_count_145
  have hf := ite_f hf s1_8
  by_cases s1_9 : x1 = (9 : Int32)
  · have hf := ite_t hf s1_9
    refine sw_in (k := (9 : Int32)) (off := 145) (tgt := 146) hx hb dX11_count_1 s1_9 (by decide) (by decide) (by decide) (by decide) ?_
    refine lv_aload_n hx hb dX11_count_146 rfl (lv_at hl 0 rfl) ?_
    obtain ⟨g19, hf⟩ := gd_e hf
    refine g_R hx hb hts hown hK X o0 hN g19 fl_X11_42 (by decide) rfl (by decide) dX11_count_147 ?_
    refine g_I hx hb hts hown hK X g19 hN fl_X11_123 (by decide) rfl dX11_count_150 ?_
    exact r_I hx hb hr hlocks X hf dX11_count_153
  have hf := ite_f hf s1_9
  by_cases s1_10 : x1 = (10 : Int32)
  · have hf := ite_t hf s1_10
    refine sw_in (k := (10 : Int32)) (off := 153) (tgt := 154) hx hb dX11_count_1 s1_10 (by decide) (by decide) (by decide) (by decide) ?_
    refine lv_aload_n hx hb dX11_count_154 rfl (lv_at hl 0 rfl) ?_
    obtain ⟨g20, hf⟩ := gd_e hf
    refine g_R hx hb hts hown hK X o0 hN g20 fl_X11_10 (by decide) rfl (by decide) dX11_count_155 ?_
    refine g_I hx hb hts hown hK X g20 hN fl_X11_109 (by decide) rfl dX11_count_158 ?_
    exact r_I hx hb hr hlocks X hf dX11_count_161
  have hf := ite_f hf s1_10
  refine sw_df (ex := [(0 : Int32), (1 : Int32), (2 : Int32), (3 : Int32), (4 : Int32), (5 : Int32), (6 : Int32), (7 : Int32), (8 : Int32), (9 : Int32), (10 : Int32)]) (tgt := 162) hx hb dX11_count_1 (by decide) (by decide) (List.forall_mem_cons.mpr ⟨s1_0, List.forall_mem_cons.mpr ⟨s1_1, List.forall_mem_cons.mpr ⟨s1_2, List.forall_mem_cons.mpr ⟨s1_3, List.forall_mem_cons.mpr ⟨s1_4, List.forall_mem_cons.mpr ⟨s1_5, List.forall_mem_cons.mpr ⟨s1_6, List.forall_mem_cons.mpr ⟨s1_7, List.forall_mem_cons.mpr ⟨s1_8, List.forall_mem_cons.mpr ⟨s1_9, List.forall_mem_cons.mpr ⟨s1_10, (fun _ hz => absurd hz List.not_mem_nil)⟩⟩⟩⟩⟩⟩⟩⟩⟩⟩⟩) (by decide) ?_
  refine lv_iconst (v := (-1 : Int32)) hx hb dX11_count_162 (by decide) ?_
  exact r_I hx hb hr hlocks X hf dX11_count_163
end
theorem dX12_in_0 : decode bX12_in 0 = .ok (.lload_n 0, 1) := by decide +kernel
theorem dX12_in_1 : decode bX12_in 1 = .ok (.lload_n 2, 1) := by decide +kernel
theorem dX12_in_2 : decode bX12_in 2 = .ok (.lcmp, 1) := by decide +kernel
theorem dX12_in_3 : decode bX12_in 3 = .ok (.ifCond .lt 14, 3) := by decide +kernel
theorem dX12_in_6 : decode bX12_in 6 = .ok (.lload_n 0, 1) := by decide +kernel
theorem dX12_in_7 : decode bX12_in 7 = .ok (.lload 4, 2) := by decide +kernel
theorem dX12_in_9 : decode bX12_in 9 = .ok (.lcmp, 1) := by decide +kernel
theorem dX12_in_10 : decode bX12_in 10 = .ok (.ifCond .gt 7, 3) := by decide +kernel
theorem dX12_in_13 : decode bX12_in 13 = .ok (.iconst 1, 1) := by decide +kernel
theorem dX12_in_14 : decode bX12_in 14 = .ok (.goto 4, 3) := by decide +kernel
theorem dX12_in_17 : decode bX12_in 17 = .ok (.iconst 0, 1) := by decide +kernel
theorem dX12_in_18 : decode bX12_in 18 = .ok (.ireturn, 1) := by decide +kernel
section
variable {p : Program} {l : Launch} {e : Env} {s : State} {m : MethodId} {args : Array Value} {below : List Frame} {meth : Method} {c : Code} {G : GG} {n : Nat} {h' : Hp} {rv : Int32}
set_option maxHeartbeats 4000000
set_option maxRecDepth 100000
theorem k_X12_in (l : Launch) (G : GG) (n : Nat) (hN : NT ≤ n) {h h' : Hp} {x0 : Int64} {x2 : Int64} {x4 : Int64} {rv : Int32} (hf : f_X12_in h x0 x2 x4 = some (rv, h')) : CT l G n n yX12_in (.code yX12_in bX12_in 6 (some .boolean)) 0 0 0 [.long x0, .long x2, .long x4] h h' (some (.int rv)) := by
  refine ct_of (maxL := 6) (ret := (some .boolean)) (bytes := bX12_in) (by decide) (Nat.le_of_ble_eq_true rfl) (fun p e s m below meth c C0 X ls hl => ?_)
  have hl : lv_has ls 6 [(0, .long x0), (2, .long x2), (4, .long x4)] := hl
  obtain ⟨hx, hb, hr, hml, hown, hts, hK, hlocks, hnm⟩ := id C0
  unfold f_X12_in at hf
  refine lv_lload_n hx hb dX12_in_0 rfl (lv_at hl 0 rfl) ?_
  refine lv_lload_n hx hb dX12_in_1 rfl (lv_at hl 1 rfl) ?_
  refine W.lcmp hx hb dX12_in_2 ?_
  refine lv_if_lt (tgt := 17) hx hb dX12_in_3 (by decide) (fun c3 => ?_) (fun c3 => ?_)
  · have hf := ite_t hf c3
    refine lv_iconst (v := (0 : Int32)) hx hb dX12_in_17 (by decide) ?_
    exact r_Z hx hb hr hlocks X rfl hf dX12_in_18
  · have hf := ite_f hf c3
    refine lv_lload_n hx hb dX12_in_6 rfl (lv_at hl 0 rfl) ?_
    refine lv_lload hx hb dX12_in_7 (lv_at hl 2 rfl) ?_
    refine W.lcmp hx hb dX12_in_9 ?_
    refine lv_if_gt (tgt := 17) hx hb dX12_in_10 (by decide) (fun c10 => ?_) (fun c10 => ?_)
    · have hf := ite_t hf c10
      refine lv_iconst (v := (0 : Int32)) hx hb dX12_in_17 (by decide) ?_
      exact r_Z hx hb hr hlocks X rfl hf dX12_in_18
    · have hf := ite_f hf c10
      refine lv_iconst (v := (1 : Int32)) hx hb dX12_in_13 (by decide) ?_
      refine lv_goto (tgt := 18) hx hb dX12_in_14 (by decide) ?_
      exact r_Z hx hb hr hlocks X rfl hf dX12_in_18
end
theorem dX12_has_0 : decode bX12_has 0 = .ok (.iload_n 0, 1) := by decide +kernel
theorem dX12_has_1 : decode bX12_has 1 = .ok (.iload_n 1, 1) := by decide +kernel
theorem dX12_has_2 : decode bX12_has 2 = .ok (.ishr, 1) := by decide +kernel
theorem dX12_has_3 : decode bX12_has 3 = .ok (.iconst 1, 1) := by decide +kernel
theorem dX12_has_4 : decode bX12_has 4 = .ok (.iand, 1) := by decide +kernel
theorem dX12_has_5 : decode bX12_has 5 = .ok (.iconst 1, 1) := by decide +kernel
theorem dX12_has_6 : decode bX12_has 6 = .ok (.if_icmp .ne 7, 3) := by decide +kernel
theorem dX12_has_9 : decode bX12_has 9 = .ok (.iconst 1, 1) := by decide +kernel
theorem dX12_has_10 : decode bX12_has 10 = .ok (.goto 4, 3) := by decide +kernel
theorem dX12_has_13 : decode bX12_has 13 = .ok (.iconst 0, 1) := by decide +kernel
theorem dX12_has_14 : decode bX12_has 14 = .ok (.ireturn, 1) := by decide +kernel
section
variable {p : Program} {l : Launch} {e : Env} {s : State} {m : MethodId} {args : Array Value} {below : List Frame} {meth : Method} {c : Code} {G : GG} {n : Nat} {h' : Hp} {rv : Int32}
set_option maxHeartbeats 4000000
set_option maxRecDepth 100000
theorem k_X12_has (l : Launch) (G : GG) (n : Nat) (hN : NT ≤ n) {h h' : Hp} {x0 : Int32} {x1 : Int32} {rv : Int32} (hf : f_X12_has h x0 x1 = some (rv, h')) : CT l G n n yX12_has (.code yX12_has bX12_has 2 (some .boolean)) 0 0 0 [.int x0, .int x1] h h' (some (.int rv)) := by
  refine ct_of (maxL := 2) (ret := (some .boolean)) (bytes := bX12_has) (by decide) (Nat.le_of_ble_eq_true rfl) (fun p e s m below meth c C0 X ls hl => ?_)
  have hl : lv_has ls 2 [(0, .int x0), (1, .int x1)] := hl
  obtain ⟨hx, hb, hr, hml, hown, hts, hK, hlocks, hnm⟩ := id C0
  unfold f_X12_has at hf
  refine lv_iload_n hx hb dX12_has_0 rfl (lv_at hl 0 rfl) ?_
  refine lv_iload_n hx hb dX12_has_1 rfl (lv_at hl 1 rfl) ?_
  refine lv_ishr hx hb dX12_has_2 ?_
  refine lv_iconst (v := (1 : Int32)) hx hb dX12_has_3 (by decide) ?_
  refine lv_iand hx hb dX12_has_4 ?_
  refine lv_iconst (v := (1 : Int32)) hx hb dX12_has_5 (by decide) ?_
  refine lv_icmp_ne (tgt := 13) hx hb dX12_has_6 (by decide) (fun c6 => ?_) (fun c6 => ?_)
  · have hf := ite_f hf c6
    refine lv_iconst (v := (0 : Int32)) hx hb dX12_has_13 (by decide) ?_
    exact r_Z hx hb hr hlocks X rfl hf dX12_has_14
  · have hf := ite_t hf c6
    refine lv_iconst (v := (1 : Int32)) hx hb dX12_has_9 (by decide) ?_
    refine lv_goto (tgt := 14) hx hb dX12_has_10 (by decide) ?_
    exact r_Z hx hb hr hlocks X rfl hf dX12_has_14
end
theorem dX12_bits_0 : decode bX12_bits 0 = .ok (.iconst 0, 1) := by decide +kernel
theorem dX12_bits_1 : decode bX12_bits 1 = .ok (.istore_n 1, 1) := by decide +kernel
theorem dX12_bits_2 : decode bX12_bits 2 = .ok (.iconst 0, 1) := by decide +kernel
theorem dX12_bits_3 : decode bX12_bits 3 = .ok (.istore_n 2, 1) := by decide +kernel
theorem dX12_bits_4 : decode bX12_bits 4 = .ok (.iload_n 2, 1) := by decide +kernel
theorem dX12_bits_5 : decode bX12_bits 5 = .ok (.bipush 24, 2) := by decide +kernel
theorem dX12_bits_7 : decode bX12_bits 7 = .ok (.if_icmp .ge 17, 3) := by decide +kernel
theorem dX12_bits_10 : decode bX12_bits 10 = .ok (.iload_n 1, 1) := by decide +kernel
theorem dX12_bits_11 : decode bX12_bits 11 = .ok (.iload_n 0, 1) := by decide +kernel
theorem dX12_bits_12 : decode bX12_bits 12 = .ok (.iload_n 2, 1) := by decide +kernel
theorem dX12_bits_13 : decode bX12_bits 13 = .ok (.ishr, 1) := by decide +kernel
theorem dX12_bits_14 : decode bX12_bits 14 = .ok (.iconst 1, 1) := by decide +kernel
theorem dX12_bits_15 : decode bX12_bits 15 = .ok (.iand, 1) := by decide +kernel
theorem dX12_bits_16 : decode bX12_bits 16 = .ok (.iadd, 1) := by decide +kernel
theorem dX12_bits_17 : decode bX12_bits 17 = .ok (.istore_n 1, 1) := by decide +kernel
theorem dX12_bits_18 : decode bX12_bits 18 = .ok (.iinc 2 1, 3) := by decide +kernel
theorem dX12_bits_21 : decode bX12_bits 21 = .ok (.goto (-17), 3) := by decide +kernel
theorem dX12_bits_24 : decode bX12_bits 24 = .ok (.iload_n 1, 1) := by decide +kernel
theorem dX12_bits_25 : decode bX12_bits 25 = .ok (.ireturn, 1) := by decide +kernel
section
variable {p : Program} {l : Launch} {e : Env} {s : State} {m : MethodId} {args : Array Value} {below : List Frame} {meth : Method} {c : Code} {G : GG} {n : Nat} {h' : Hp} {rv : Int32}
set_option maxHeartbeats 4000000
set_option maxRecDepth 100000
theorem j_X12_bits_4 (C0 : Cx p s m args meth c G bX12_bits RX12 3 (some .int) "bits") (hN : NT ≤ n) : ∀ (fu : Nat), ∀ {H : Heap} {locs : List Loc} {ls : Array Slot} {h : Hp} {x0 : Int32} {x1 : Int32} {x2 : Int32}, XW G n h s 0 H locs → lv_has ls 3 [(0, .int x0), (1, .int x1), (2, .int x2)] → f_X12_bits_4 fu h x0 x1 x2 = some (rv, h') → W p l e (rmC 0 0 0) s m args below meth c H locs 0 0 (MQ below (QP G n h' (some (.int rv))) args s 0 0 (Ab G)) (F0 m 4 ls []) := by
  obtain ⟨hx, hb, hr, hml, hown, hts, hK, hlocks, hnm⟩ := id C0
  intro fu
  induction fu with
  | zero => intro H locs ls h x0 x1 x2 X hl hf; cases hf
  | succ fu ih =>
    intro H locs ls h x0 x1 x2 X hl hf
    rw [f_X12_bits_4] at hf
    refine lv_iload_n hx hb dX12_bits_4 rfl (lv_at hl 2 rfl) ?_
    refine lv_bipush (v := (24 : Int32)) hx hb dX12_bits_5 (by decide) ?_
    refine lv_icmp_ge (tgt := 24) hx hb dX12_bits_7 (by decide) (fun c7 => ?_) (fun c7 => ?_)
    · have hf := ite_t hf c7
      refine lv_iload_n hx hb dX12_bits_24 rfl (lv_at hl 1 rfl) ?_
      exact r_I hx hb hr hlocks X hf dX12_bits_25
    · have hf := ite_f hf c7
      refine lv_iload_n hx hb dX12_bits_10 rfl (lv_at hl 1 rfl) ?_
      refine lv_iload_n hx hb dX12_bits_11 rfl (lv_at hl 0 rfl) ?_
      refine lv_iload_n hx hb dX12_bits_12 rfl (lv_at hl 2 rfl) ?_
      refine lv_ishr hx hb dX12_bits_13 ?_
      refine lv_iconst (v := (1 : Int32)) hx hb dX12_bits_14 (by decide) ?_
      refine lv_iand hx hb dX12_bits_15 ?_
      refine lv_iadd hx hb dX12_bits_16 ?_
      refine lv_istore_n (lv' := [(1, .int (x1 + ((x0 >>> (x2 &&& 31)) &&& (1 : Int32)))), (0, .int x0), (2, .int x2)]) hx hb dX12_bits_17 rfl hl (by decide) rfl (fun ls hl => ?_)
      refine lv_iinc (v := (x2 + (1 : Int32))) (lv' := [(2, .int (x2 + (1 : Int32))), (1, .int (x1 + ((x0 >>> (x2 &&& 31)) &&& (1 : Int32)))), (0, .int x0)]) hx hb dX12_bits_18 hl (k := 2) rfl rfl (by decide) rfl (fun ls hl => ?_)
      refine lv_goto (tgt := 4) hx hb dX12_bits_21 (by decide) ?_
      exact ih X (lv_sub hl [2, 1, 0] rfl) hf
theorem k_X12_bits (l : Launch) (G : GG) (n : Nat) (hN : NT ≤ n) {h h' : Hp} {x0 : Int32} {rv : Int32} (hf : f_X12_bits h x0 = some (rv, h')) : CT l G n n yX12_bits (.code yX12_bits bX12_bits 3 (some .int)) 0 0 0 [.int x0] h h' (some (.int rv)) := by
  refine ct_of (maxL := 3) (ret := (some .int)) (bytes := bX12_bits) (by decide) (Nat.le_of_ble_eq_true rfl) (fun p e s m below meth c C0 X ls hl => ?_)
  have hl : lv_has ls 3 [(0, .int x0)] := hl
  obtain ⟨hx, hb, hr, hml, hown, hts, hK, hlocks, hnm⟩ := id C0
  unfold f_X12_bits at hf
  refine lv_iconst (v := (0 : Int32)) hx hb dX12_bits_0 (by decide) ?_
  refine lv_istore_n (lv' := [(1, .int (0 : Int32)), (0, .int x0)]) hx hb dX12_bits_1 rfl hl (by decide) rfl (fun ls hl => ?_)
  refine lv_iconst (v := (0 : Int32)) hx hb dX12_bits_2 (by decide) ?_
  refine lv_istore_n (lv' := [(2, .int (0 : Int32)), (1, .int (0 : Int32)), (0, .int x0)]) hx hb dX12_bits_3 rfl hl (by decide) rfl (fun ls hl => ?_)
  exact j_X12_bits_4 C0 hN FU X (lv_sub hl [2, 1, 0] rfl) hf
end
theorem dX12_begin_0 : decode bX12_begin 0 = .ok (.iconst 0, 1) := by decide +kernel
theorem dX12_begin_1 : decode bX12_begin 1 = .ok (.istore_n 1, 1) := by decide +kernel
theorem dX12_begin_2 : decode bX12_begin 2 = .ok (.iload_n 1, 1) := by decide +kernel
theorem dX12_begin_3 : decode bX12_begin 3 = .ok (.bipush 59, 2) := by decide +kernel
theorem dX12_begin_5 : decode bX12_begin 5 = .ok (.if_icmp .ge 16, 3) := by decide +kernel
theorem dX12_begin_8 : decode bX12_begin 8 = .ok (.aload_n 0, 1) := by decide +kernel
theorem dX12_begin_9 : decode bX12_begin 9 = .ok (.getfield 17, 3) := by decide +kernel
theorem dX12_begin_12 : decode bX12_begin 12 = .ok (.iload_n 1, 1) := by decide +kernel
theorem dX12_begin_13 : decode bX12_begin 13 = .ok (.iconst 0, 1) := by decide +kernel
theorem dX12_begin_14 : decode bX12_begin 14 = .ok (.iastore, 1) := by decide +kernel
theorem dX12_begin_15 : decode bX12_begin 15 = .ok (.iinc 1 1, 3) := by decide +kernel
theorem dX12_begin_18 : decode bX12_begin 18 = .ok (.goto (-16), 3) := by decide +kernel
theorem dX12_begin_21 : decode bX12_begin 21 = .ok (.aload_n 0, 1) := by decide +kernel
theorem dX12_begin_22 : decode bX12_begin 22 = .ok (.getfield 17, 3) := by decide +kernel
theorem dX12_begin_25 : decode bX12_begin 25 = .ok (.iconst 0, 1) := by decide +kernel
theorem dX12_begin_26 : decode bX12_begin 26 = .ok (.bipush 12, 2) := by decide +kernel
theorem dX12_begin_28 : decode bX12_begin 28 = .ok (.iastore, 1) := by decide +kernel
theorem dX12_begin_29 : decode bX12_begin 29 = .ok (.aload_n 0, 1) := by decide +kernel
theorem dX12_begin_30 : decode bX12_begin 30 = .ok (.getfield 17, 3) := by decide +kernel
theorem dX12_begin_33 : decode bX12_begin 33 = .ok (.iconst 2, 1) := by decide +kernel
theorem dX12_begin_34 : decode bX12_begin 34 = .ok (.iconst 1, 1) := by decide +kernel
theorem dX12_begin_35 : decode bX12_begin 35 = .ok (.iastore, 1) := by decide +kernel
theorem dX12_begin_36 : decode bX12_begin 36 = .ok (.aload_n 0, 1) := by decide +kernel
theorem dX12_begin_37 : decode bX12_begin 37 = .ok (.getfield 17, 3) := by decide +kernel
theorem dX12_begin_40 : decode bX12_begin 40 = .ok (.iconst 3, 1) := by decide +kernel
theorem dX12_begin_41 : decode bX12_begin 41 = .ok (.iconst 1, 1) := by decide +kernel
theorem dX12_begin_42 : decode bX12_begin 42 = .ok (.iastore, 1) := by decide +kernel
theorem dX12_begin_43 : decode bX12_begin 43 = .ok (.aload_n 0, 1) := by decide +kernel
theorem dX12_begin_44 : decode bX12_begin 44 = .ok (.getfield 17, 3) := by decide +kernel
theorem dX12_begin_47 : decode bX12_begin 47 = .ok (.iconst 4, 1) := by decide +kernel
theorem dX12_begin_48 : decode bX12_begin 48 = .ok (.iconst 2, 1) := by decide +kernel
theorem dX12_begin_49 : decode bX12_begin 49 = .ok (.iastore, 1) := by decide +kernel
theorem dX12_begin_50 : decode bX12_begin 50 = .ok (.iconst 1, 1) := by decide +kernel
theorem dX12_begin_51 : decode bX12_begin 51 = .ok (.istore_n 1, 1) := by decide +kernel
theorem dX12_begin_52 : decode bX12_begin 52 = .ok (.iload_n 1, 1) := by decide +kernel
theorem dX12_begin_53 : decode bX12_begin 53 = .ok (.bipush 24, 2) := by decide +kernel
theorem dX12_begin_55 : decode bX12_begin 55 = .ok (.if_icmp .gt 29, 3) := by decide +kernel
theorem dX12_begin_58 : decode bX12_begin 58 = .ok (.aload_n 0, 1) := by decide +kernel
theorem dX12_begin_59 : decode bX12_begin 59 = .ok (.getfield 17, 3) := by decide +kernel
theorem dX12_begin_62 : decode bX12_begin 62 = .ok (.iconst 4, 1) := by decide +kernel
theorem dX12_begin_63 : decode bX12_begin 63 = .ok (.iload_n 1, 1) := by decide +kernel
theorem dX12_begin_64 : decode bX12_begin 64 = .ok (.iadd, 1) := by decide +kernel
theorem dX12_begin_65 : decode bX12_begin 65 = .ok (.iconst 1, 1) := by decide +kernel
theorem dX12_begin_66 : decode bX12_begin 66 = .ok (.iastore, 1) := by decide +kernel
theorem dX12_begin_67 : decode bX12_begin 67 = .ok (.aload_n 0, 1) := by decide +kernel
theorem dX12_begin_68 : decode bX12_begin 68 = .ok (.getfield 17, 3) := by decide +kernel
theorem dX12_begin_71 : decode bX12_begin 71 = .ok (.bipush 28, 2) := by decide +kernel
theorem dX12_begin_73 : decode bX12_begin 73 = .ok (.iload_n 1, 1) := by decide +kernel
theorem dX12_begin_74 : decode bX12_begin 74 = .ok (.iadd, 1) := by decide +kernel
theorem dX12_begin_75 : decode bX12_begin 75 = .ok (.bipush (-4), 2) := by decide +kernel
theorem dX12_begin_77 : decode bX12_begin 77 = .ok (.iastore, 1) := by decide +kernel
theorem dX12_begin_78 : decode bX12_begin 78 = .ok (.iinc 1 1, 3) := by decide +kernel
theorem dX12_begin_81 : decode bX12_begin 81 = .ok (.goto (-29), 3) := by decide +kernel
theorem dX12_begin_84 : decode bX12_begin 84 = .ok (.return_, 1) := by decide +kernel
section
variable {p : Program} {l : Launch} {e : Env} {s : State} {m : MethodId} {args : Array Value} {below : List Frame} {meth : Method} {c : Code} {G : GG} {n : Nat} {h' : Hp} {rv : Unit}
set_option maxHeartbeats 4000000
set_option maxRecDepth 100000
theorem j_X12_begin_52 (C0 : Cx p s m args meth c G bX12_begin RX12 2 none "begin") (hN : NT ≤ n) : ∀ (fu : Nat), ∀ {H : Heap} {locs : List Loc} {ls : Array Slot} {h : Hp} {x0 : Nat} {x1 : Int32}, XW G n h s 0 H locs → lv_has ls 2 [(0, .ref (bs G + x0)), (1, .int x1)] → kd x0 = 12 → f_X12_begin_52 fu h x0 x1 = some (rv, h') → W p l e (rmC 0 0 0) s m args below meth c H locs 0 0 (MQ below (QP G n h' none) args s 0 0 (Ab G)) (F0 m 52 ls []) := by
  obtain ⟨hx, hb, hr, hml, hown, hts, hK, hlocks, hnm⟩ := id C0
  intro fu
  induction fu with
  | zero => intro H locs ls h x0 x1 X hl o0 hf; cases hf
  | succ fu ih =>
    intro H locs ls h x0 x1 X hl o0 hf
    rw [f_X12_begin_52] at hf
    refine lv_iload_n hx hb dX12_begin_52 rfl (lv_at hl 1 rfl) ?_
    refine lv_bipush (v := (24 : Int32)) hx hb dX12_begin_53 (by decide) ?_
    refine lv_icmp_gt (tgt := 84) hx hb dX12_begin_55 (by decide) (fun c55 => ?_) (fun c55 => ?_)
    · have hf := ite_t hf c55
      exact r_V hx hb hr hlocks X hf dX12_begin_84
    · have hf := ite_f hf c55
      refine lv_aload_n hx hb dX12_begin_58 rfl (lv_at hl 0 rfl) ?_
      obtain ⟨g1, hf⟩ := gd_e hf
      refine g_R hx hb hts hown hK X o0 hN g1 fl_X12_17 (by decide) rfl (by decide) dX12_begin_59 ?_
      refine lv_iconst (v := (4 : Int32)) hx hb dX12_begin_62 (by decide) ?_
      refine lv_iload_n hx hb dX12_begin_63 rfl (lv_at hl 1 rfl) ?_
      refine lv_iadd hx hb dX12_begin_64 ?_
      refine lv_iconst (v := (1 : Int32)) hx hb dX12_begin_65 (by decide) ?_
      obtain ⟨g2, hf⟩ := gd_e hf
      refine g_is hx hb hK X g1 hN g2 (by decide) dX12_begin_66 (fun H locs X => ?_)
      obtain ⟨h3, e4, hf⟩ := lt_e hf
      rw [← e4] at X
      refine lv_aload_n hx hb dX12_begin_67 rfl (lv_at hl 0 rfl) ?_
      obtain ⟨g5, hf⟩ := gd_e hf
      refine g_R hx hb hts hown hK X o0 hN g5 fl_X12_17 (by decide) rfl (by decide) dX12_begin_68 ?_
      refine lv_bipush (v := (28 : Int32)) hx hb dX12_begin_71 (by decide) ?_
      refine lv_iload_n hx hb dX12_begin_73 rfl (lv_at hl 1 rfl) ?_
      refine lv_iadd hx hb dX12_begin_74 ?_
      refine lv_bipush (v := (-4 : Int32)) hx hb dX12_begin_75 (by decide) ?_
      obtain ⟨g6, hf⟩ := gd_e hf
      refine g_is hx hb hK X g5 hN g6 (by decide) dX12_begin_77 (fun H locs X => ?_)
      obtain ⟨h7, e8, hf⟩ := lt_e hf
      rw [← e8] at X
      refine lv_iinc (v := (x1 + (1 : Int32))) (lv' := [(1, .int (x1 + (1 : Int32))), (0, .ref (bs G + x0))]) hx hb dX12_begin_78 hl (k := 1) rfl rfl (by decide) rfl (fun ls hl => ?_)
      refine lv_goto (tgt := 52) hx hb dX12_begin_81 (by decide) ?_
      exact ih X (lv_sub hl [1, 0] rfl) o0 hf
theorem j_X12_begin_2 (C0 : Cx p s m args meth c G bX12_begin RX12 2 none "begin") (hN : NT ≤ n) : ∀ (fu : Nat), ∀ {H : Heap} {locs : List Loc} {ls : Array Slot} {h : Hp} {x0 : Nat} {x1 : Int32}, XW G n h s 0 H locs → lv_has ls 2 [(0, .ref (bs G + x0)), (1, .int x1)] → kd x0 = 12 → f_X12_begin_2 fu h x0 x1 = some (rv, h') → W p l e (rmC 0 0 0) s m args below meth c H locs 0 0 (MQ below (QP G n h' none) args s 0 0 (Ab G)) (F0 m 2 ls []) := by
  obtain ⟨hx, hb, hr, hml, hown, hts, hK, hlocks, hnm⟩ := id C0
  intro fu
  induction fu with
  | zero => intro H locs ls h x0 x1 X hl o0 hf; cases hf
  | succ fu ih =>
    intro H locs ls h x0 x1 X hl o0 hf
    rw [f_X12_begin_2] at hf
    refine lv_iload_n hx hb dX12_begin_2 rfl (lv_at hl 1 rfl) ?_
    refine lv_bipush (v := (59 : Int32)) hx hb dX12_begin_3 (by decide) ?_
    refine lv_icmp_ge (tgt := 21) hx hb dX12_begin_5 (by decide) (fun c5 => ?_) (fun c5 => ?_)
    · have hf := ite_t hf c5
      refine lv_aload_n hx hb dX12_begin_21 rfl (lv_at hl 0 rfl) ?_
      obtain ⟨g1, hf⟩ := gd_e hf
      refine g_R hx hb hts hown hK X o0 hN g1 fl_X12_17 (by decide) rfl (by decide) dX12_begin_22 ?_
      refine lv_iconst (v := (0 : Int32)) hx hb dX12_begin_25 (by decide) ?_
      refine lv_bipush (v := (12 : Int32)) hx hb dX12_begin_26 (by decide) ?_
      obtain ⟨g2, hf⟩ := gd_e hf
      refine g_is hx hb hK X g1 hN g2 (by decide) dX12_begin_28 (fun H locs X => ?_)
      obtain ⟨h3, e4, hf⟩ := lt_e hf
      rw [← e4] at X
      refine lv_aload_n hx hb dX12_begin_29 rfl (lv_at hl 0 rfl) ?_
      obtain ⟨g5, hf⟩ := gd_e hf
      refine g_R hx hb hts hown hK X o0 hN g5 fl_X12_17 (by decide) rfl (by decide) dX12_begin_30 ?_
      refine lv_iconst (v := (2 : Int32)) hx hb dX12_begin_33 (by decide) ?_
      refine lv_iconst (v := (1 : Int32)) hx hb dX12_begin_34 (by decide) ?_
      obtain ⟨g6, hf⟩ := gd_e hf
      refine g_is hx hb hK X g5 hN g6 (by decide) dX12_begin_35 (fun H locs X => ?_)
      obtain ⟨h7, e8, hf⟩ := lt_e hf
      rw [← e8] at X
      refine lv_aload_n hx hb dX12_begin_36 rfl (lv_at hl 0 rfl) ?_
      obtain ⟨g9, hf⟩ := gd_e hf
      refine g_R hx hb hts hown hK X o0 hN g9 fl_X12_17 (by decide) rfl (by decide) dX12_begin_37 ?_
      refine lv_iconst (v := (3 : Int32)) hx hb dX12_begin_40 (by decide) ?_
      refine lv_iconst (v := (1 : Int32)) hx hb dX12_begin_41 (by decide) ?_
      obtain ⟨g10, hf⟩ := gd_e hf
      refine g_is hx hb hK X g9 hN g10 (by decide) dX12_begin_42 (fun H locs X => ?_)
      obtain ⟨h11, e12, hf⟩ := lt_e hf
      rw [← e12] at X
      refine lv_aload_n hx hb dX12_begin_43 rfl (lv_at hl 0 rfl) ?_
      obtain ⟨g13, hf⟩ := gd_e hf
      refine g_R hx hb hts hown hK X o0 hN g13 fl_X12_17 (by decide) rfl (by decide) dX12_begin_44 ?_
      refine lv_iconst (v := (4 : Int32)) hx hb dX12_begin_47 (by decide) ?_
      refine lv_iconst (v := (2 : Int32)) hx hb dX12_begin_48 (by decide) ?_
      obtain ⟨g14, hf⟩ := gd_e hf
      refine g_is hx hb hK X g13 hN g14 (by decide) dX12_begin_49 (fun H locs X => ?_)
      obtain ⟨h15, e16, hf⟩ := lt_e hf
      rw [← e16] at X
      refine lv_iconst (v := (1 : Int32)) hx hb dX12_begin_50 (by decide) ?_
      refine lv_istore_n (lv' := [(1, .int (1 : Int32)), (0, .ref (bs G + x0))]) hx hb dX12_begin_51 rfl hl (by decide) rfl (fun ls hl => ?_)
      exact j_X12_begin_52 C0 hN FU X (lv_sub hl [1, 0] rfl) o0 hf
    · have hf := ite_f hf c5
      refine lv_aload_n hx hb dX12_begin_8 rfl (lv_at hl 0 rfl) ?_
      obtain ⟨g17, hf⟩ := gd_e hf
      refine g_R hx hb hts hown hK X o0 hN g17 fl_X12_17 (by decide) rfl (by decide) dX12_begin_9 ?_
      refine lv_iload_n hx hb dX12_begin_12 rfl (lv_at hl 1 rfl) ?_
      refine lv_iconst (v := (0 : Int32)) hx hb dX12_begin_13 (by decide) ?_
      obtain ⟨g18, hf⟩ := gd_e hf
      refine g_is hx hb hK X g17 hN g18 (by decide) dX12_begin_14 (fun H locs X => ?_)
      obtain ⟨h19, e20, hf⟩ := lt_e hf
      rw [← e20] at X
      refine lv_iinc (v := (x1 + (1 : Int32))) (lv' := [(1, .int (x1 + (1 : Int32))), (0, .ref (bs G + x0))]) hx hb dX12_begin_15 hl (k := 1) rfl rfl (by decide) rfl (fun ls hl => ?_)
      refine lv_goto (tgt := 2) hx hb dX12_begin_18 (by decide) ?_
      exact ih X (lv_sub hl [1, 0] rfl) o0 hf
theorem k_X12_begin (l : Launch) (G : GG) (n : Nat) (hN : NT ≤ n) {h h' : Hp} {x0 : Nat} {rv : Unit} (hf : f_X12_begin h x0 = some (rv, h')) : CT l G n n yX12_begin (.code yX12_begin bX12_begin 2 none) 0 0 0 [.ref (bs G + x0)] h h' none := by
  refine ct_of (maxL := 2) (ret := none) (bytes := bX12_begin) (by decide) (Nat.le_of_ble_eq_true rfl) (fun p e s m below meth c C0 X ls hl => ?_)
  have hl : lv_has ls 2 [(0, .ref (bs G + x0))] := hl
  obtain ⟨hx, hb, hr, hml, hown, hts, hK, hlocks, hnm⟩ := id C0
  unfold f_X12_begin at hf
  obtain ⟨o0, hf⟩ := gd_e hf
  refine lv_iconst (v := (0 : Int32)) hx hb dX12_begin_0 (by decide) ?_
  refine lv_istore_n (lv' := [(1, .int (0 : Int32)), (0, .ref (bs G + x0))]) hx hb dX12_begin_1 rfl hl (by decide) rfl (fun ls hl => ?_)
  exact j_X12_begin_2 C0 hN FU X (lv_sub hl [1, 0] rfl) o0 hf
end
theorem dX12_dawn_0 : decode bX12_dawn 0 = .ok (.iconst 0, 1) := by decide +kernel
theorem dX12_dawn_1 : decode bX12_dawn 1 = .ok (.istore_n 2, 1) := by decide +kernel
theorem dX12_dawn_2 : decode bX12_dawn 2 = .ok (.iload_n 2, 1) := by decide +kernel
theorem dX12_dawn_3 : decode bX12_dawn 3 = .ok (.bipush 51, 2) := by decide +kernel
theorem dX12_dawn_5 : decode bX12_dawn 5 = .ok (.if_icmp .ge 26, 3) := by decide +kernel
theorem dX12_dawn_8 : decode bX12_dawn 8 = .ok (.aload_n 0, 1) := by decide +kernel
theorem dX12_dawn_9 : decode bX12_dawn 9 = .ok (.getfield 20, 3) := by decide +kernel
theorem dX12_dawn_12 : decode bX12_dawn 12 = .ok (.iload_n 2, 1) := by decide +kernel
theorem dX12_dawn_13 : decode bX12_dawn 13 = .ok (.iload_n 2, 1) := by decide +kernel
theorem dX12_dawn_14 : decode bX12_dawn 14 = .ok (.iconst 2, 1) := by decide +kernel
theorem dX12_dawn_15 : decode bX12_dawn 15 = .ok (.if_icmp .le 8, 3) := by decide +kernel
theorem dX12_dawn_18 : decode bX12_dawn 18 = .ok (.bipush (-4), 2) := by decide +kernel
theorem dX12_dawn_20 : decode bX12_dawn 20 = .ok (.goto 4, 3) := by decide +kernel
theorem dX12_dawn_23 : decode bX12_dawn 23 = .ok (.iconst 0, 1) := by decide +kernel
theorem dX12_dawn_24 : decode bX12_dawn 24 = .ok (.iastore, 1) := by decide +kernel
theorem dX12_dawn_25 : decode bX12_dawn 25 = .ok (.iinc 2 1, 3) := by decide +kernel
theorem dX12_dawn_28 : decode bX12_dawn 28 = .ok (.goto (-26), 3) := by decide +kernel
theorem dX12_dawn_31 : decode bX12_dawn 31 = .ok (.aload_n 0, 1) := by decide +kernel
theorem dX12_dawn_32 : decode bX12_dawn 32 = .ok (.getfield 20, 3) := by decide +kernel
theorem dX12_dawn_35 : decode bX12_dawn 35 = .ok (.iconst 1, 1) := by decide +kernel
theorem dX12_dawn_36 : decode bX12_dawn 36 = .ok (.iload_n 1, 1) := by decide +kernel
theorem dX12_dawn_37 : decode bX12_dawn 37 = .ok (.ifCond .eq 7, 3) := by decide +kernel
theorem dX12_dawn_40 : decode bX12_dawn 40 = .ok (.iconst 1, 1) := by decide +kernel
theorem dX12_dawn_41 : decode bX12_dawn 41 = .ok (.goto 4, 3) := by decide +kernel
theorem dX12_dawn_44 : decode bX12_dawn 44 = .ok (.iconst 0, 1) := by decide +kernel
theorem dX12_dawn_45 : decode bX12_dawn 45 = .ok (.iastore, 1) := by decide +kernel
theorem dX12_dawn_46 : decode bX12_dawn 46 = .ok (.return_, 1) := by decide +kernel
section
variable {p : Program} {l : Launch} {e : Env} {s : State} {m : MethodId} {args : Array Value} {below : List Frame} {meth : Method} {c : Code} {G : GG} {n : Nat} {h' : Hp} {rv : Unit}
set_option maxHeartbeats 4000000
set_option maxRecDepth 100000
theorem j_X12_dawn_45 (C0 : Cx p s m args meth c G bX12_dawn RX12 3 none "dawn") (hN : NT ≤ n) {H : Heap} {locs : List Loc} {ls : Array Slot} {h : Hp} {t0 : Nat} {t1 : Int32} {t2 : Int32} (X : XW G n h s 0 H locs) (hl : lv_has ls 3 []) (ot0 : kd t0 = 16) (hf : f_X12_dawn_45 h t0 t1 t2 = some (rv, h')) : W p l e (rmC 0 0 0) s m args below meth c H locs 0 0 (MQ below (QP G n h' none) args s 0 0 (Ab G)) (F0 m 45 ls [.int t2, .int t1, .ref (bs G + t0)]) := by
  obtain ⟨hx, hb, hr, hml, hown, hts, hK, hlocks, hnm⟩ := id C0
  unfold f_X12_dawn_45 at hf
  obtain ⟨g1, hf⟩ := gd_e hf
  refine g_is hx hb hK X ot0 hN g1 (by decide) dX12_dawn_45 (fun H locs X => ?_)
  obtain ⟨h2, e3, hf⟩ := lt_e hf
  rw [← e3] at X
  exact r_V hx hb hr hlocks X hf dX12_dawn_46
theorem j_X12_dawn_24 (C0 : Cx p s m args meth c G bX12_dawn RX12 3 none "dawn") (hN : NT ≤ n) {k2 : Hp → Nat → Int32 → Int32 → Option (Unit × Hp)} (ih2 : ∀ {H : Heap} {locs : List Loc} {ls : Array Slot} {h : Hp} {x0 : Nat} {x1 : Int32} {x2 : Int32}, XW G n h s 0 H locs → lv_has ls 3 [(0, .ref (bs G + x0)), (1, .int x1), (2, .int x2)] → kd x0 = 12 → k2 h x0 x1 x2 = some (rv, h') → W p l e (rmC 0 0 0) s m args below meth c H locs 0 0 (MQ below (QP G n h' none) args s 0 0 (Ab G)) (F0 m 2 ls [])) {H : Heap} {locs : List Loc} {ls : Array Slot} {h : Hp} {x0 : Nat} {x1 : Int32} {x2 : Int32} {t0 : Nat} {t1 : Int32} {t2 : Int32} (X : XW G n h s 0 H locs) (hl : lv_has ls 3 [(0, .ref (bs G + x0)), (1, .int x1), (2, .int x2)]) (o0 : kd x0 = 12) (ot0 : kd t0 = 16) (hf : f_X12_dawn_24 k2 h x0 x1 x2 t0 t1 t2 = some (rv, h')) : W p l e (rmC 0 0 0) s m args below meth c H locs 0 0 (MQ below (QP G n h' none) args s 0 0 (Ab G)) (F0 m 24 ls [.int t2, .int t1, .ref (bs G + t0)]) := by
  obtain ⟨hx, hb, hr, hml, hown, hts, hK, hlocks, hnm⟩ := id C0
  unfold f_X12_dawn_24 at hf
  obtain ⟨g1, hf⟩ := gd_e hf
  refine g_is hx hb hK X ot0 hN g1 (by decide) dX12_dawn_24 (fun H locs X => ?_)
  obtain ⟨h2, e3, hf⟩ := lt_e hf
  rw [← e3] at X
  refine lv_iinc (v := (x2 + (1 : Int32))) (lv' := [(2, .int (x2 + (1 : Int32))), (0, .ref (bs G + x0)), (1, .int x1)]) hx hb dX12_dawn_25 hl (k := 2) rfl rfl (by decide) rfl (fun ls hl => ?_)
  refine lv_goto (tgt := 2) hx hb dX12_dawn_28 (by decide) ?_
  exact ih2 X (lv_sub hl [1, 2, 0] rfl) o0 hf
theorem j_X12_dawn_2 (C0 : Cx p s m args meth c G bX12_dawn RX12 3 none "dawn") (hN : NT ≤ n) : ∀ (fu : Nat), ∀ {H : Heap} {locs : List Loc} {ls : Array Slot} {h : Hp} {x0 : Nat} {x1 : Int32} {x2 : Int32}, XW G n h s 0 H locs → lv_has ls 3 [(0, .ref (bs G + x0)), (1, .int x1), (2, .int x2)] → kd x0 = 12 → f_X12_dawn_2 fu h x0 x1 x2 = some (rv, h') → W p l e (rmC 0 0 0) s m args below meth c H locs 0 0 (MQ below (QP G n h' none) args s 0 0 (Ab G)) (F0 m 2 ls []) := by
  obtain ⟨hx, hb, hr, hml, hown, hts, hK, hlocks, hnm⟩ := id C0
  intro fu
  induction fu with
  | zero => intro H locs ls h x0 x1 x2 X hl o0 hf; cases hf
  | succ fu ih =>
    intro H locs ls h x0 x1 x2 X hl o0 hf
    rw [f_X12_dawn_2] at hf
    refine lv_iload_n hx hb dX12_dawn_2 rfl (lv_at hl 2 rfl) ?_
    refine lv_bipush (v := (51 : Int32)) hx hb dX12_dawn_3 (by decide) ?_
    refine lv_icmp_ge (tgt := 31) hx hb dX12_dawn_5 (by decide) (fun c5 => ?_) (fun c5 => ?_)
    · have hf := ite_t hf c5
      refine lv_aload_n hx hb dX12_dawn_31 rfl (lv_at hl 0 rfl) ?_
      obtain ⟨g1, hf⟩ := gd_e hf
      refine g_R hx hb hts hown hK X o0 hN g1 fl_X12_20 (by decide) rfl (by decide) dX12_dawn_32 ?_
      refine lv_iconst (v := (1 : Int32)) hx hb dX12_dawn_35 (by decide) ?_
      refine lv_iload_n hx hb dX12_dawn_36 rfl (lv_at hl 1 rfl) ?_
      refine lv_if_eq (tgt := 44) hx hb dX12_dawn_37 (by decide) (fun c37 => ?_) (fun c37 => ?_)
      · have hf := ite_t hf c37
        refine lv_iconst (v := (0 : Int32)) hx hb dX12_dawn_44 (by decide) ?_
        exact j_X12_dawn_45 C0 hN X (lv_sub hl [] rfl) g1 hf
      · have hf := ite_f hf c37
        refine lv_iconst (v := (1 : Int32)) hx hb dX12_dawn_40 (by decide) ?_
        refine lv_goto (tgt := 45) hx hb dX12_dawn_41 (by decide) ?_
        exact j_X12_dawn_45 C0 hN X (lv_sub hl [] rfl) g1 hf
    · have hf := ite_f hf c5
      refine lv_aload_n hx hb dX12_dawn_8 rfl (lv_at hl 0 rfl) ?_
      obtain ⟨g2, hf⟩ := gd_e hf
      refine g_R hx hb hts hown hK X o0 hN g2 fl_X12_20 (by decide) rfl (by decide) dX12_dawn_9 ?_
      refine lv_iload_n hx hb dX12_dawn_12 rfl (lv_at hl 2 rfl) ?_
      refine lv_iload_n hx hb dX12_dawn_13 rfl (lv_at hl 2 rfl) ?_
      refine lv_iconst (v := (2 : Int32)) hx hb dX12_dawn_14 (by decide) ?_
      refine lv_icmp_le (tgt := 23) hx hb dX12_dawn_15 (by decide) (fun c15 => ?_) (fun c15 => ?_)
      · have hf := ite_t hf c15
        refine lv_iconst (v := (0 : Int32)) hx hb dX12_dawn_23 (by decide) ?_
        exact j_X12_dawn_24 C0 hN @ih X (lv_sub hl [0, 1, 2] rfl) o0 g2 hf
      · have hf := ite_f hf c15
        refine lv_bipush (v := (-4 : Int32)) hx hb dX12_dawn_18 (by decide) ?_
        refine lv_goto (tgt := 24) hx hb dX12_dawn_20 (by decide) ?_
        exact j_X12_dawn_24 C0 hN @ih X (lv_sub hl [0, 1, 2] rfl) o0 g2 hf
theorem k_X12_dawn (l : Launch) (G : GG) (n : Nat) (hN : NT ≤ n) {h h' : Hp} {x0 : Nat} {x1 : Int32} {rv : Unit} (hf : f_X12_dawn h x0 x1 = some (rv, h')) : CT l G n n yX12_dawn (.code yX12_dawn bX12_dawn 3 none) 0 0 0 [.ref (bs G + x0), .int x1] h h' none := by
  refine ct_of (maxL := 3) (ret := none) (bytes := bX12_dawn) (by decide) (Nat.le_of_ble_eq_true rfl) (fun p e s m below meth c C0 X ls hl => ?_)
  have hl : lv_has ls 3 [(0, .ref (bs G + x0)), (1, .int x1)] := hl
  obtain ⟨hx, hb, hr, hml, hown, hts, hK, hlocks, hnm⟩ := id C0
  unfold f_X12_dawn at hf
  obtain ⟨o0, hf⟩ := gd_e hf
  refine lv_iconst (v := (0 : Int32)) hx hb dX12_dawn_0 (by decide) ?_
  refine lv_istore_n (lv' := [(2, .int (0 : Int32)), (0, .ref (bs G + x0)), (1, .int x1)]) hx hb dX12_dawn_1 rfl hl (by decide) rfl (fun ls hl => ?_)
  exact j_X12_dawn_2 C0 hN FU X (lv_sub hl [1, 2, 0] rfl) o0 hf
end
theorem dX12_noNumber_0 : decode bX12_noNumber 0 = .ok (.iload_n 1, 1) := by decide +kernel
theorem dX12_noNumber_1 : decode bX12_noNumber 1 = .ok (.i2l, 1) := by decide +kernel
theorem dX12_noNumber_2 : decode bX12_noNumber 2 = .ok (.lconst 1, 1) := by decide +kernel
theorem dX12_noNumber_3 : decode bX12_noNumber 3 = .ok (.aload_n 0, 1) := by decide +kernel
theorem dX12_noNumber_4 : decode bX12_noNumber 4 = .ok (.getfield 13, 3) := by decide +kernel
theorem dX12_noNumber_7 : decode bX12_noNumber 7 = .ok (.iconst 0, 1) := by decide +kernel
theorem dX12_noNumber_8 : decode bX12_noNumber 8 = .ok (.iaload, 1) := by decide +kernel
theorem dX12_noNumber_9 : decode bX12_noNumber 9 = .ok (.i2l, 1) := by decide +kernel
theorem dX12_noNumber_10 : decode bX12_noNumber 10 = .ok (.invokestatic 75, 3) := by decide +kernel
theorem dX12_noNumber_13 : decode bX12_noNumber 13 = .ok (.ifCond .ne 7, 3) := by decide +kernel
theorem dX12_noNumber_16 : decode bX12_noNumber 16 = .ok (.iconst 1, 1) := by decide +kernel
theorem dX12_noNumber_17 : decode bX12_noNumber 17 = .ok (.goto 4, 3) := by decide +kernel
theorem dX12_noNumber_20 : decode bX12_noNumber 20 = .ok (.iconst 0, 1) := by decide +kernel
theorem dX12_noNumber_21 : decode bX12_noNumber 21 = .ok (.ireturn, 1) := by decide +kernel
section
variable {p : Program} {l : Launch} {e : Env} {s : State} {m : MethodId} {args : Array Value} {below : List Frame} {meth : Method} {c : Code} {G : GG} {n : Nat} {h' : Hp} {rv : Int32}
set_option maxHeartbeats 4000000
set_option maxRecDepth 100000
theorem k_X12_noNumber (l : Launch) (G : GG) (n : Nat) (hN : NT ≤ n) {h h' : Hp} {x0 : Nat} {x1 : Int32} {rv : Int32} (hf : f_X12_noNumber h x0 x1 = some (rv, h')) : CT l G n n yX12_noNumber (.code yX12_noNumber bX12_noNumber 2 (some .boolean)) 1 0 0 [.ref (bs G + x0), .int x1] h h' (some (.int rv)) := by
  refine ct_of (maxL := 2) (ret := (some .boolean)) (bytes := bX12_noNumber) (by decide) (Nat.le_of_ble_eq_true rfl) (fun p e s m below meth c C0 X ls hl => ?_)
  have hl : lv_has ls 2 [(0, .ref (bs G + x0)), (1, .int x1)] := hl
  obtain ⟨hx, hb, hr, hml, hown, hts, hK, hlocks, hnm⟩ := id C0
  unfold f_X12_noNumber at hf
  obtain ⟨o0, hf⟩ := gd_e hf
  refine lv_iload_n hx hb dX12_noNumber_0 rfl (lv_at hl 1 rfl) ?_
  refine lv_i2l hx hb dX12_noNumber_1 rfl ?_
  refine lv_lconst (v := 1) hx hb dX12_noNumber_2 (by decide) ?_
  refine lv_aload_n hx hb dX12_noNumber_3 rfl (lv_at hl 0 rfl) ?_
  obtain ⟨g1, hf⟩ := gd_e hf
  refine g_R hx hb hts hown hK X o0 hN g1 fl_X12_13 (by decide) rfl (by decide) dX12_noNumber_4 ?_
  refine lv_iconst (v := (0 : Int32)) hx hb dX12_noNumber_7 (by decide) ?_
  obtain ⟨g2, hf⟩ := gd_e hf
  refine g_ia hx hb hK X g1 hN g2 (by decide) dX12_noNumber_8 ?_
  refine lv_i2l hx hb dX12_noNumber_9 rfl ?_
  obtain ⟨r3, h4, q5, hf⟩ := bd_e hf
  refine c_S0 (As := [.long x1.toInt64, .long (1 : Int64), .long (h.1 (h.2 x0 1) (0 : Int32).toNatClampNeg).toInt64]) (rest := []) (st1 := [.int r3]) hx hb hml hown hts hK X (k_X12_in l G n hN q5) lc_X12_in ls_X12_75 (by decide) rfl hl.1 (Nat.le_of_ble_eq_true rfl) dX12_noNumber_10 rfl (fun H locs X => ?_)
  refine lv_if_ne (tgt := 20) hx hb dX12_noNumber_13 (by decide) (fun c13 => ?_) (fun c13 => ?_)
  · have hf := ite_f hf c13
    refine lv_iconst (v := (0 : Int32)) hx hb dX12_noNumber_20 (by decide) ?_
    exact r_Z hx hb hr hlocks X rfl hf dX12_noNumber_21
  · have hf := ite_t hf c13
    refine lv_iconst (v := (1 : Int32)) hx hb dX12_noNumber_16 (by decide) ?_
    refine lv_goto (tgt := 21) hx hb dX12_noNumber_17 (by decide) ?_
    exact r_Z hx hb hr hlocks X rfl hf dX12_noNumber_21
end
theorem dX12_noOne_0 : decode bX12_noOne 0 = .ok (.iload_n 1, 1) := by decide +kernel
theorem dX12_noOne_1 : decode bX12_noOne 1 = .ok (.i2l, 1) := by decide +kernel
theorem dX12_noOne_2 : decode bX12_noOne 2 = .ok (.lconst 0, 1) := by decide +kernel
theorem dX12_noOne_3 : decode bX12_noOne 3 = .ok (.aload_n 0, 1) := by decide +kernel
theorem dX12_noOne_4 : decode bX12_noOne 4 = .ok (.getfield 13, 3) := by decide +kernel
theorem dX12_noOne_7 : decode bX12_noOne 7 = .ok (.iconst 1, 1) := by decide +kernel
theorem dX12_noOne_8 : decode bX12_noOne 8 = .ok (.iaload, 1) := by decide +kernel
theorem dX12_noOne_9 : decode bX12_noOne 9 = .ok (.iconst 1, 1) := by decide +kernel
theorem dX12_noOne_10 : decode bX12_noOne 10 = .ok (.isub, 1) := by decide +kernel
theorem dX12_noOne_11 : decode bX12_noOne 11 = .ok (.i2l, 1) := by decide +kernel
theorem dX12_noOne_12 : decode bX12_noOne 12 = .ok (.invokestatic 75, 3) := by decide +kernel
theorem dX12_noOne_15 : decode bX12_noOne 15 = .ok (.ifCond .ne 7, 3) := by decide +kernel
theorem dX12_noOne_18 : decode bX12_noOne 18 = .ok (.iconst 1, 1) := by decide +kernel
theorem dX12_noOne_19 : decode bX12_noOne 19 = .ok (.goto 4, 3) := by decide +kernel
theorem dX12_noOne_22 : decode bX12_noOne 22 = .ok (.iconst 0, 1) := by decide +kernel
theorem dX12_noOne_23 : decode bX12_noOne 23 = .ok (.ireturn, 1) := by decide +kernel
section
variable {p : Program} {l : Launch} {e : Env} {s : State} {m : MethodId} {args : Array Value} {below : List Frame} {meth : Method} {c : Code} {G : GG} {n : Nat} {h' : Hp} {rv : Int32}
set_option maxHeartbeats 4000000
set_option maxRecDepth 100000
theorem k_X12_noOne (l : Launch) (G : GG) (n : Nat) (hN : NT ≤ n) {h h' : Hp} {x0 : Nat} {x1 : Int32} {rv : Int32} (hf : f_X12_noOne h x0 x1 = some (rv, h')) : CT l G n n yX12_noOne (.code yX12_noOne bX12_noOne 2 (some .boolean)) 1 0 0 [.ref (bs G + x0), .int x1] h h' (some (.int rv)) := by
  refine ct_of (maxL := 2) (ret := (some .boolean)) (bytes := bX12_noOne) (by decide) (Nat.le_of_ble_eq_true rfl) (fun p e s m below meth c C0 X ls hl => ?_)
  have hl : lv_has ls 2 [(0, .ref (bs G + x0)), (1, .int x1)] := hl
  obtain ⟨hx, hb, hr, hml, hown, hts, hK, hlocks, hnm⟩ := id C0
  unfold f_X12_noOne at hf
  obtain ⟨o0, hf⟩ := gd_e hf
  refine lv_iload_n hx hb dX12_noOne_0 rfl (lv_at hl 1 rfl) ?_
  refine lv_i2l hx hb dX12_noOne_1 rfl ?_
  refine lv_lconst (v := 0) hx hb dX12_noOne_2 (by decide) ?_
  refine lv_aload_n hx hb dX12_noOne_3 rfl (lv_at hl 0 rfl) ?_
  obtain ⟨g1, hf⟩ := gd_e hf
  refine g_R hx hb hts hown hK X o0 hN g1 fl_X12_13 (by decide) rfl (by decide) dX12_noOne_4 ?_
  refine lv_iconst (v := (1 : Int32)) hx hb dX12_noOne_7 (by decide) ?_
  obtain ⟨g2, hf⟩ := gd_e hf
  refine g_ia hx hb hK X g1 hN g2 (by decide) dX12_noOne_8 ?_
  refine lv_iconst (v := (1 : Int32)) hx hb dX12_noOne_9 (by decide) ?_
  refine lv_isub hx hb dX12_noOne_10 ?_
  refine lv_i2l hx hb dX12_noOne_11 rfl ?_
  obtain ⟨r3, h4, q5, hf⟩ := bd_e hf
  refine c_S0 (As := [.long x1.toInt64, .long (0 : Int64), .long ((h.1 (h.2 x0 1) (1 : Int32).toNatClampNeg) - (1 : Int32)).toInt64]) (rest := []) (st1 := [.int r3]) hx hb hml hown hts hK X (k_X12_in l G n hN q5) lc_X12_in ls_X12_75 (by decide) rfl hl.1 (Nat.le_of_ble_eq_true rfl) dX12_noOne_12 rfl (fun H locs X => ?_)
  refine lv_if_ne (tgt := 22) hx hb dX12_noOne_15 (by decide) (fun c15 => ?_) (fun c15 => ?_)
  · have hf := ite_f hf c15
    refine lv_iconst (v := (0 : Int32)) hx hb dX12_noOne_22 (by decide) ?_
    exact r_Z hx hb hr hlocks X rfl hf dX12_noOne_23
  · have hf := ite_t hf c15
    refine lv_iconst (v := (1 : Int32)) hx hb dX12_noOne_18 (by decide) ?_
    refine lv_goto (tgt := 23) hx hb dX12_noOne_19 (by decide) ?_
    exact r_Z hx hb hr hlocks X rfl hf dX12_noOne_23
end
theorem dX12_noSet_0 : decode bX12_noSet 0 = .ok (.iload_n 1, 1) := by decide +kernel
theorem dX12_noSet_1 : decode bX12_noSet 1 = .ok (.i2l, 1) := by decide +kernel
theorem dX12_noSet_2 : decode bX12_noSet 2 = .ok (.lconst 0, 1) := by decide +kernel
theorem dX12_noSet_3 : decode bX12_noSet 3 = .ok (.iconst 1, 1) := by decide +kernel
theorem dX12_noSet_4 : decode bX12_noSet 4 = .ok (.aload_n 0, 1) := by decide +kernel
theorem dX12_noSet_5 : decode bX12_noSet 5 = .ok (.getfield 13, 3) := by decide +kernel
theorem dX12_noSet_8 : decode bX12_noSet 8 = .ok (.iconst 0, 1) := by decide +kernel
theorem dX12_noSet_9 : decode bX12_noSet 9 = .ok (.iaload, 1) := by decide +kernel
theorem dX12_noSet_10 : decode bX12_noSet 10 = .ok (.ishl, 1) := by decide +kernel
theorem dX12_noSet_11 : decode bX12_noSet 11 = .ok (.iconst 1, 1) := by decide +kernel
theorem dX12_noSet_12 : decode bX12_noSet 12 = .ok (.isub, 1) := by decide +kernel
theorem dX12_noSet_13 : decode bX12_noSet 13 = .ok (.i2l, 1) := by decide +kernel
theorem dX12_noSet_14 : decode bX12_noSet 14 = .ok (.invokestatic 75, 3) := by decide +kernel
theorem dX12_noSet_17 : decode bX12_noSet 17 = .ok (.ifCond .ne 7, 3) := by decide +kernel
theorem dX12_noSet_20 : decode bX12_noSet 20 = .ok (.iconst 1, 1) := by decide +kernel
theorem dX12_noSet_21 : decode bX12_noSet 21 = .ok (.goto 4, 3) := by decide +kernel
theorem dX12_noSet_24 : decode bX12_noSet 24 = .ok (.iconst 0, 1) := by decide +kernel
theorem dX12_noSet_25 : decode bX12_noSet 25 = .ok (.ireturn, 1) := by decide +kernel
section
variable {p : Program} {l : Launch} {e : Env} {s : State} {m : MethodId} {args : Array Value} {below : List Frame} {meth : Method} {c : Code} {G : GG} {n : Nat} {h' : Hp} {rv : Int32}
set_option maxHeartbeats 4000000
set_option maxRecDepth 100000
theorem k_X12_noSet (l : Launch) (G : GG) (n : Nat) (hN : NT ≤ n) {h h' : Hp} {x0 : Nat} {x1 : Int32} {rv : Int32} (hf : f_X12_noSet h x0 x1 = some (rv, h')) : CT l G n n yX12_noSet (.code yX12_noSet bX12_noSet 2 (some .boolean)) 1 0 0 [.ref (bs G + x0), .int x1] h h' (some (.int rv)) := by
  refine ct_of (maxL := 2) (ret := (some .boolean)) (bytes := bX12_noSet) (by decide) (Nat.le_of_ble_eq_true rfl) (fun p e s m below meth c C0 X ls hl => ?_)
  have hl : lv_has ls 2 [(0, .ref (bs G + x0)), (1, .int x1)] := hl
  obtain ⟨hx, hb, hr, hml, hown, hts, hK, hlocks, hnm⟩ := id C0
  unfold f_X12_noSet at hf
  obtain ⟨o0, hf⟩ := gd_e hf
  refine lv_iload_n hx hb dX12_noSet_0 rfl (lv_at hl 1 rfl) ?_
  refine lv_i2l hx hb dX12_noSet_1 rfl ?_
  refine lv_lconst (v := 0) hx hb dX12_noSet_2 (by decide) ?_
  refine lv_iconst (v := (1 : Int32)) hx hb dX12_noSet_3 (by decide) ?_
  refine lv_aload_n hx hb dX12_noSet_4 rfl (lv_at hl 0 rfl) ?_
  obtain ⟨g1, hf⟩ := gd_e hf
  refine g_R hx hb hts hown hK X o0 hN g1 fl_X12_13 (by decide) rfl (by decide) dX12_noSet_5 ?_
  refine lv_iconst (v := (0 : Int32)) hx hb dX12_noSet_8 (by decide) ?_
  obtain ⟨g2, hf⟩ := gd_e hf
  refine g_ia hx hb hK X g1 hN g2 (by decide) dX12_noSet_9 ?_
  refine lv_ishl hx hb dX12_noSet_10 ?_
  refine lv_iconst (v := (1 : Int32)) hx hb dX12_noSet_11 (by decide) ?_
  refine lv_isub hx hb dX12_noSet_12 ?_
  refine lv_i2l hx hb dX12_noSet_13 rfl ?_
  obtain ⟨r3, h4, q5, hf⟩ := bd_e hf
  refine c_S0 (As := [.long x1.toInt64, .long (0 : Int64), .long (((1 : Int32) <<< ((h.1 (h.2 x0 1) (0 : Int32).toNatClampNeg) &&& 31)) - (1 : Int32)).toInt64]) (rest := []) (st1 := [.int r3]) hx hb hml hown hts hK X (k_X12_in l G n hN q5) lc_X12_in ls_X12_75 (by decide) rfl hl.1 (Nat.le_of_ble_eq_true rfl) dX12_noSet_14 rfl (fun H locs X => ?_)
  refine lv_if_ne (tgt := 24) hx hb dX12_noSet_17 (by decide) (fun c17 => ?_) (fun c17 => ?_)
  · have hf := ite_f hf c17
    refine lv_iconst (v := (0 : Int32)) hx hb dX12_noSet_24 (by decide) ?_
    exact r_Z hx hb hr hlocks X rfl hf dX12_noSet_25
  · have hf := ite_t hf c17
    refine lv_iconst (v := (1 : Int32)) hx hb dX12_noSet_20 (by decide) ?_
    refine lv_goto (tgt := 25) hx hb dX12_noSet_21 (by decide) ?_
    exact r_Z hx hb hr hlocks X rfl hf dX12_noSet_25
end
theorem dX12_write_0 : decode bX12_write 0 = .ok (.aload_n 0, 1) := by decide +kernel
theorem dX12_write_1 : decode bX12_write 1 = .ok (.iconst 0, 1) := by decide +kernel
theorem dX12_write_2 : decode bX12_write 2 = .ok (.putfield 1, 3) := by decide +kernel
theorem dX12_write_5 : decode bX12_write 5 = .ok (.iload_n 1, 1) := by decide +kernel
theorem dX12_write_6 : decode bX12_write 6 = .ok (.i2l, 1) := by decide +kernel
theorem dX12_write_7 : decode bX12_write 7 = .ok (.ldc2_w 79, 3) := by decide +kernel
theorem dX12_write_10 : decode bX12_write 10 = .ok (.ldc2_w 81, 3) := by decide +kernel
theorem dX12_write_13 : decode bX12_write 13 = .ok (.invokestatic 75, 3) := by decide +kernel
theorem dX12_write_16 : decode bX12_write 16 = .ok (.ifCond .ne 5, 3) := by decide +kernel
theorem dX12_write_19 : decode bX12_write 19 = .ok (.iconst (-1), 1) := by decide +kernel
theorem dX12_write_20 : decode bX12_write 20 = .ok (.ireturn, 1) := by decide +kernel
theorem dX12_write_21 : decode bX12_write 21 = .ok (.aload_n 0, 1) := by decide +kernel
theorem dX12_write_22 : decode bX12_write 22 = .ok (.getfield 83, 3) := by decide +kernel
theorem dX12_write_25 : decode bX12_write 25 = .ok (.sipush 200, 3) := by decide +kernel
theorem dX12_write_28 : decode bX12_write 28 = .ok (.if_icmp .ne 6, 3) := by decide +kernel
theorem dX12_write_31 : decode bX12_write 31 = .ok (.bipush (-3), 2) := by decide +kernel
theorem dX12_write_33 : decode bX12_write 33 = .ok (.ireturn, 1) := by decide +kernel
theorem dX12_write_34 : decode bX12_write 34 = .ok (.aload_n 0, 1) := by decide +kernel
theorem dX12_write_35 : decode bX12_write 35 = .ok (.getfield 29, 3) := by decide +kernel
theorem dX12_write_38 : decode bX12_write 38 = .ok (.aload_n 0, 1) := by decide +kernel
theorem dX12_write_39 : decode bX12_write 39 = .ok (.getfield 83, 3) := by decide +kernel
theorem dX12_write_42 : decode bX12_write 42 = .ok (.iload_n 1, 1) := by decide +kernel
theorem dX12_write_43 : decode bX12_write 43 = .ok (.iastore, 1) := by decide +kernel
theorem dX12_write_44 : decode bX12_write 44 = .ok (.aload_n 0, 1) := by decide +kernel
theorem dX12_write_45 : decode bX12_write 45 = .ok (.dup, 1) := by decide +kernel
theorem dX12_write_46 : decode bX12_write 46 = .ok (.getfield 83, 3) := by decide +kernel
theorem dX12_write_49 : decode bX12_write 49 = .ok (.iconst 1, 1) := by decide +kernel
theorem dX12_write_50 : decode bX12_write 50 = .ok (.iadd, 1) := by decide +kernel
theorem dX12_write_51 : decode bX12_write 51 = .ok (.putfield 83, 3) := by decide +kernel
theorem dX12_write_54 : decode bX12_write 54 = .ok (.aload_n 0, 1) := by decide +kernel
theorem dX12_write_55 : decode bX12_write 55 = .ok (.getfield 83, 3) := by decide +kernel
theorem dX12_write_58 : decode bX12_write 58 = .ok (.ireturn, 1) := by decide +kernel
section
variable {p : Program} {l : Launch} {e : Env} {s : State} {m : MethodId} {args : Array Value} {below : List Frame} {meth : Method} {c : Code} {G : GG} {n : Nat} {h' : Hp} {rv : Int32}
set_option maxHeartbeats 4000000
set_option maxRecDepth 100000
theorem k_X12_write (l : Launch) (G : GG) (n : Nat) (hN : NT ≤ n) {h h' : Hp} {x0 : Nat} {x1 : Int32} {rv : Int32} (hf : f_X12_write h x0 x1 = some (rv, h')) : CT l G n n yX12_write (.code yX12_write bX12_write 2 (some .int)) 1 0 0 [.ref (bs G + x0), .int x1] h h' (some (.int rv)) := by
  refine ct_of (maxL := 2) (ret := (some .int)) (bytes := bX12_write) (by decide) (Nat.le_of_ble_eq_true rfl) (fun p e s m below meth c C0 X ls hl => ?_)
  have hl : lv_has ls 2 [(0, .ref (bs G + x0)), (1, .int x1)] := hl
  obtain ⟨hx, hb, hr, hml, hown, hts, hK, hlocks, hnm⟩ := id C0
  unfold f_X12_write at hf
  obtain ⟨o0, hf⟩ := gd_e hf
  refine lv_aload_n hx hb dX12_write_0 rfl (lv_at hl 0 rfl) ?_
  refine lv_iconst (v := (0 : Int32)) hx hb dX12_write_1 (by decide) ?_
  refine g_PI hx hb hts hown hK X o0 hN fl_X12_1 ft_12_0 (by decide) rfl dX12_write_2 (fun H locs X => ?_)
  obtain ⟨h1, e2, hf⟩ := lt_e hf
  rw [← e2] at X
  refine lv_iload_n hx hb dX12_write_5 rfl (lv_at hl 1 rfl) ?_
  refine lv_i2l hx hb dX12_write_6 rfl ?_
  refine lv_ldc2 hx hb hown (hts _ cn_X12_79) dX12_write_7 ?_
  refine lv_ldc2 hx hb hown (hts _ cn_X12_81) dX12_write_10 ?_
  obtain ⟨r3, h4, q5, hf⟩ := bd_e hf
  refine c_S0 (As := [.long x1.toInt64, .long (32 : Int64), .long (126 : Int64)]) (rest := []) (st1 := [.int r3]) hx hb hml hown hts hK X (k_X12_in l G n hN q5) lc_X12_in ls_X12_75 (by decide) rfl hl.1 (Nat.le_of_ble_eq_true rfl) dX12_write_13 rfl (fun H locs X => ?_)
  refine lv_if_ne (tgt := 21) hx hb dX12_write_16 (by decide) (fun c16 => ?_) (fun c16 => ?_)
  · have hf := ite_f hf c16
    refine lv_aload_n hx hb dX12_write_21 rfl (lv_at hl 0 rfl) ?_
    refine g_I hx hb hts hown hK X o0 hN fl_X12_83 (by decide) rfl dX12_write_22 ?_
    refine lv_sipush (v := (200 : Int32)) hx hb dX12_write_25 (by decide) ?_
    refine lv_icmp_ne (tgt := 34) hx hb dX12_write_28 (by decide) (fun c28 => ?_) (fun c28 => ?_)
    · have hf := ite_f hf c28
      refine lv_aload_n hx hb dX12_write_34 rfl (lv_at hl 0 rfl) ?_
      obtain ⟨g6, hf⟩ := gd_e hf
      refine g_R hx hb hts hown hK X o0 hN g6 fl_X12_29 (by decide) rfl (by decide) dX12_write_35 ?_
      refine lv_aload_n hx hb dX12_write_38 rfl (lv_at hl 0 rfl) ?_
      refine g_I hx hb hts hown hK X o0 hN fl_X12_83 (by decide) rfl dX12_write_39 ?_
      refine lv_iload_n hx hb dX12_write_42 rfl (lv_at hl 1 rfl) ?_
      obtain ⟨g7, hf⟩ := gd_e hf
      refine g_is hx hb hK X g6 hN g7 (by decide) dX12_write_43 (fun H locs X => ?_)
      obtain ⟨h8, e9, hf⟩ := lt_e hf
      rw [← e9] at X
      refine lv_aload_n hx hb dX12_write_44 rfl (lv_at hl 0 rfl) ?_
      refine lv_dup hx hb dX12_write_45 rfl ?_
      refine g_I hx hb hts hown hK X o0 hN fl_X12_83 (by decide) rfl dX12_write_46 ?_
      refine lv_iconst (v := (1 : Int32)) hx hb dX12_write_49 (by decide) ?_
      refine lv_iadd hx hb dX12_write_50 ?_
      refine g_PI hx hb hts hown hK X o0 hN fl_X12_83 ft_12_9 (by decide) rfl dX12_write_51 (fun H locs X => ?_)
      obtain ⟨h10, e11, hf⟩ := lt_e hf
      rw [← e11] at X
      refine lv_aload_n hx hb dX12_write_54 rfl (lv_at hl 0 rfl) ?_
      refine g_I hx hb hts hown hK X o0 hN fl_X12_83 (by decide) rfl dX12_write_55 ?_
      exact r_I hx hb hr hlocks X hf dX12_write_58
    · have hf := ite_t hf c28
      refine lv_bipush (v := (-3 : Int32)) hx hb dX12_write_31 (by decide) ?_
      exact r_I hx hb hr hlocks X hf dX12_write_33
  · have hf := ite_t hf c16
    refine lv_iconst (v := (-1 : Int32)) hx hb dX12_write_19 (by decide) ?_
    exact r_I hx hb hr hlocks X hf dX12_write_20
end
theorem dX12_wipe_0 : decode bX12_wipe 0 = .ok (.aload_n 0, 1) := by decide +kernel
theorem dX12_wipe_1 : decode bX12_wipe 1 = .ok (.iconst 0, 1) := by decide +kernel
theorem dX12_wipe_2 : decode bX12_wipe 2 = .ok (.putfield 1, 3) := by decide +kernel
theorem dX12_wipe_5 : decode bX12_wipe 5 = .ok (.aload_n 0, 1) := by decide +kernel
theorem dX12_wipe_6 : decode bX12_wipe 6 = .ok (.getfield 83, 3) := by decide +kernel
theorem dX12_wipe_9 : decode bX12_wipe 9 = .ok (.istore_n 1, 1) := by decide +kernel
theorem dX12_wipe_10 : decode bX12_wipe 10 = .ok (.aload_n 0, 1) := by decide +kernel
theorem dX12_wipe_11 : decode bX12_wipe 11 = .ok (.iconst 0, 1) := by decide +kernel
theorem dX12_wipe_12 : decode bX12_wipe 12 = .ok (.putfield 83, 3) := by decide +kernel
theorem dX12_wipe_15 : decode bX12_wipe 15 = .ok (.iload_n 1, 1) := by decide +kernel
theorem dX12_wipe_16 : decode bX12_wipe 16 = .ok (.ireturn, 1) := by decide +kernel
section
variable {p : Program} {l : Launch} {e : Env} {s : State} {m : MethodId} {args : Array Value} {below : List Frame} {meth : Method} {c : Code} {G : GG} {n : Nat} {h' : Hp} {rv : Int32}
set_option maxHeartbeats 4000000
set_option maxRecDepth 100000
theorem k_X12_wipe (l : Launch) (G : GG) (n : Nat) (hN : NT ≤ n) {h h' : Hp} {x0 : Nat} {rv : Int32} (hf : f_X12_wipe h x0 = some (rv, h')) : CT l G n n yX12_wipe (.code yX12_wipe bX12_wipe 2 (some .int)) 0 0 0 [.ref (bs G + x0)] h h' (some (.int rv)) := by
  refine ct_of (maxL := 2) (ret := (some .int)) (bytes := bX12_wipe) (by decide) (Nat.le_of_ble_eq_true rfl) (fun p e s m below meth c C0 X ls hl => ?_)
  have hl : lv_has ls 2 [(0, .ref (bs G + x0))] := hl
  obtain ⟨hx, hb, hr, hml, hown, hts, hK, hlocks, hnm⟩ := id C0
  unfold f_X12_wipe at hf
  obtain ⟨o0, hf⟩ := gd_e hf
  refine lv_aload_n hx hb dX12_wipe_0 rfl (lv_at hl 0 rfl) ?_
  refine lv_iconst (v := (0 : Int32)) hx hb dX12_wipe_1 (by decide) ?_
  refine g_PI hx hb hts hown hK X o0 hN fl_X12_1 ft_12_0 (by decide) rfl dX12_wipe_2 (fun H locs X => ?_)
  obtain ⟨h1, e2, hf⟩ := lt_e hf
  rw [← e2] at X
  refine lv_aload_n hx hb dX12_wipe_5 rfl (lv_at hl 0 rfl) ?_
  refine g_I hx hb hts hown hK X o0 hN fl_X12_83 (by decide) rfl dX12_wipe_6 ?_
  refine lv_istore_n (lv' := [(1, .int (h1.1 x0 9)), (0, .ref (bs G + x0))]) hx hb dX12_wipe_9 rfl hl (by decide) rfl (fun ls hl => ?_)
  refine lv_aload_n hx hb dX12_wipe_10 rfl (lv_at hl 1 rfl) ?_
  refine lv_iconst (v := (0 : Int32)) hx hb dX12_wipe_11 (by decide) ?_
  refine g_PI hx hb hts hown hK X o0 hN fl_X12_83 ft_12_9 (by decide) rfl dX12_wipe_12 (fun H locs X => ?_)
  obtain ⟨h3, e4, hf⟩ := lt_e hf
  rw [← e4] at X
  refine lv_iload_n hx hb dX12_wipe_15 rfl (lv_at hl 0 rfl) ?_
  exact r_I hx hb hr hlocks X hf dX12_wipe_16
end
theorem dX12_isFigure_0 : decode bX12_isFigure 0 = .ok (.aload_n 0, 1) := by decide +kernel
theorem dX12_isFigure_1 : decode bX12_isFigure 1 = .ok (.getfield 86, 3) := by decide +kernel
theorem dX12_isFigure_4 : decode bX12_isFigure 4 = .ok (.aload_n 0, 1) := by decide +kernel
theorem dX12_isFigure_5 : decode bX12_isFigure 5 = .ok (.getfield 83, 3) := by decide +kernel
theorem dX12_isFigure_8 : decode bX12_isFigure 8 = .ok (.if_icmp .ge 29, 3) := by decide +kernel
theorem dX12_isFigure_11 : decode bX12_isFigure 11 = .ok (.aload_n 0, 1) := by decide +kernel
theorem dX12_isFigure_12 : decode bX12_isFigure 12 = .ok (.getfield 29, 3) := by decide +kernel
theorem dX12_isFigure_15 : decode bX12_isFigure 15 = .ok (.aload_n 0, 1) := by decide +kernel
theorem dX12_isFigure_16 : decode bX12_isFigure 16 = .ok (.getfield 86, 3) := by decide +kernel
theorem dX12_isFigure_19 : decode bX12_isFigure 19 = .ok (.iaload, 1) := by decide +kernel
theorem dX12_isFigure_20 : decode bX12_isFigure 20 = .ok (.i2l, 1) := by decide +kernel
theorem dX12_isFigure_21 : decode bX12_isFigure 21 = .ok (.ldc2_w 89, 3) := by decide +kernel
theorem dX12_isFigure_24 : decode bX12_isFigure 24 = .ok (.ldc2_w 91, 3) := by decide +kernel
theorem dX12_isFigure_27 : decode bX12_isFigure 27 = .ok (.invokestatic 75, 3) := by decide +kernel
theorem dX12_isFigure_30 : decode bX12_isFigure 30 = .ok (.ifCond .eq 7, 3) := by decide +kernel
theorem dX12_isFigure_33 : decode bX12_isFigure 33 = .ok (.iconst 1, 1) := by decide +kernel
theorem dX12_isFigure_34 : decode bX12_isFigure 34 = .ok (.goto 4, 3) := by decide +kernel
theorem dX12_isFigure_37 : decode bX12_isFigure 37 = .ok (.iconst 0, 1) := by decide +kernel
theorem dX12_isFigure_38 : decode bX12_isFigure 38 = .ok (.ireturn, 1) := by decide +kernel
section
variable {p : Program} {l : Launch} {e : Env} {s : State} {m : MethodId} {args : Array Value} {below : List Frame} {meth : Method} {c : Code} {G : GG} {n : Nat} {h' : Hp} {rv : Int32}
set_option maxHeartbeats 4000000
set_option maxRecDepth 100000
theorem k_X12_isFigure (l : Launch) (G : GG) (n : Nat) (hN : NT ≤ n) {h h' : Hp} {x0 : Nat} {rv : Int32} (hf : f_X12_isFigure h x0 = some (rv, h')) : CT l G n n yX12_isFigure (.code yX12_isFigure bX12_isFigure 1 (some .boolean)) 1 0 0 [.ref (bs G + x0)] h h' (some (.int rv)) := by
  refine ct_of (maxL := 1) (ret := (some .boolean)) (bytes := bX12_isFigure) (by decide) (Nat.le_of_ble_eq_true rfl) (fun p e s m below meth c C0 X ls hl => ?_)
  have hl : lv_has ls 1 [(0, .ref (bs G + x0))] := hl
  obtain ⟨hx, hb, hr, hml, hown, hts, hK, hlocks, hnm⟩ := id C0
  unfold f_X12_isFigure at hf
  obtain ⟨o0, hf⟩ := gd_e hf
  refine lv_aload_n hx hb dX12_isFigure_0 rfl (lv_at hl 0 rfl) ?_
  refine g_I hx hb hts hown hK X o0 hN fl_X12_86 (by decide) rfl dX12_isFigure_1 ?_
  refine lv_aload_n hx hb dX12_isFigure_4 rfl (lv_at hl 0 rfl) ?_
  refine g_I hx hb hts hown hK X o0 hN fl_X12_83 (by decide) rfl dX12_isFigure_5 ?_
  refine lv_icmp_ge (tgt := 37) hx hb dX12_isFigure_8 (by decide) (fun c8 => ?_) (fun c8 => ?_)
  · have hf := ite_t hf c8
    refine lv_iconst (v := (0 : Int32)) hx hb dX12_isFigure_37 (by decide) ?_
    exact r_Z hx hb hr hlocks X rfl hf dX12_isFigure_38
  · have hf := ite_f hf c8
    refine lv_aload_n hx hb dX12_isFigure_11 rfl (lv_at hl 0 rfl) ?_
    obtain ⟨g1, hf⟩ := gd_e hf
    refine g_R hx hb hts hown hK X o0 hN g1 fl_X12_29 (by decide) rfl (by decide) dX12_isFigure_12 ?_
    refine lv_aload_n hx hb dX12_isFigure_15 rfl (lv_at hl 0 rfl) ?_
    refine g_I hx hb hts hown hK X o0 hN fl_X12_86 (by decide) rfl dX12_isFigure_16 ?_
    obtain ⟨g2, hf⟩ := gd_e hf
    refine g_ia hx hb hK X g1 hN g2 (by decide) dX12_isFigure_19 ?_
    refine lv_i2l hx hb dX12_isFigure_20 rfl ?_
    refine lv_ldc2 hx hb hown (hts _ cn_X12_89) dX12_isFigure_21 ?_
    refine lv_ldc2 hx hb hown (hts _ cn_X12_91) dX12_isFigure_24 ?_
    obtain ⟨r3, h4, q5, hf⟩ := bd_e hf
    refine c_S0 (As := [.long (h.1 (h.2 x0 8) (h.1 x0 10).toNatClampNeg).toInt64, .long (48 : Int64), .long (57 : Int64)]) (rest := []) (st1 := [.int r3]) hx hb hml hown hts hK X (k_X12_in l G n hN q5) lc_X12_in ls_X12_75 (by decide) rfl hl.1 (Nat.le_of_ble_eq_true rfl) dX12_isFigure_27 rfl (fun H locs X => ?_)
    refine lv_if_eq (tgt := 37) hx hb dX12_isFigure_30 (by decide) (fun c30 => ?_) (fun c30 => ?_)
    · have hf := ite_t hf c30
      refine lv_iconst (v := (0 : Int32)) hx hb dX12_isFigure_37 (by decide) ?_
      exact r_Z hx hb hr hlocks X rfl hf dX12_isFigure_38
    · have hf := ite_f hf c30
      refine lv_iconst (v := (1 : Int32)) hx hb dX12_isFigure_33 (by decide) ?_
      refine lv_goto (tgt := 38) hx hb dX12_isFigure_34 (by decide) ?_
      exact r_Z hx hb hr hlocks X rfl hf dX12_isFigure_38
end
theorem dX12_areNumbers_0 : decode bX12_areNumbers 0 = .ok (.iconst 0, 1) := by decide +kernel
theorem dX12_areNumbers_1 : decode bX12_areNumbers 1 = .ok (.istore_n 2, 1) := by decide +kernel
theorem dX12_areNumbers_2 : decode bX12_areNumbers 2 = .ok (.iload_n 2, 1) := by decide +kernel
theorem dX12_areNumbers_3 : decode bX12_areNumbers 3 = .ok (.iload_n 1, 1) := by decide +kernel
theorem dX12_areNumbers_4 : decode bX12_areNumbers 4 = .ok (.if_icmp .ge 166, 3) := by decide +kernel
theorem dX12_areNumbers_7 : decode bX12_areNumbers 7 = .ok (.aload_n 0, 1) := by decide +kernel
theorem dX12_areNumbers_8 : decode bX12_areNumbers 8 = .ok (.getfield 86, 3) := by decide +kernel
theorem dX12_areNumbers_11 : decode bX12_areNumbers 11 = .ok (.istore_n 3, 1) := by decide +kernel
theorem dX12_areNumbers_12 : decode bX12_areNumbers 12 = .ok (.aload_n 0, 1) := by decide +kernel
theorem dX12_areNumbers_13 : decode bX12_areNumbers 13 = .ok (.getfield 32, 3) := by decide +kernel
theorem dX12_areNumbers_16 : decode bX12_areNumbers 16 = .ok (.iload_n 2, 1) := by decide +kernel
theorem dX12_areNumbers_17 : decode bX12_areNumbers 17 = .ok (.iconst 0, 1) := by decide +kernel
theorem dX12_areNumbers_18 : decode bX12_areNumbers 18 = .ok (.iastore, 1) := by decide +kernel
theorem dX12_areNumbers_19 : decode bX12_areNumbers 19 = .ok (.aload_n 0, 1) := by decide +kernel
theorem dX12_areNumbers_20 : decode bX12_areNumbers 20 = .ok (.invokevirtual 93, 3) := by decide +kernel
theorem dX12_areNumbers_23 : decode bX12_areNumbers 23 = .ok (.ifCond .eq 63, 3) := by decide +kernel
theorem dX12_areNumbers_26 : decode bX12_areNumbers 26 = .ok (.aload_n 0, 1) := by decide +kernel
theorem dX12_areNumbers_27 : decode bX12_areNumbers 27 = .ok (.getfield 32, 3) := by decide +kernel
theorem dX12_areNumbers_30 : decode bX12_areNumbers 30 = .ok (.iload_n 2, 1) := by decide +kernel
theorem dX12_areNumbers_31 : decode bX12_areNumbers 31 = .ok (.aload_n 0, 1) := by decide +kernel
theorem dX12_areNumbers_32 : decode bX12_areNumbers 32 = .ok (.getfield 86, 3) := by decide +kernel
theorem dX12_areNumbers_35 : decode bX12_areNumbers 35 = .ok (.iload_n 3, 1) := by decide +kernel
theorem dX12_areNumbers_36 : decode bX12_areNumbers 36 = .ok (.isub, 1) := by decide +kernel
theorem dX12_areNumbers_37 : decode bX12_areNumbers 37 = .ok (.iconst 2, 1) := by decide +kernel
theorem dX12_areNumbers_38 : decode bX12_areNumbers 38 = .ok (.if_icmp .ge 28, 3) := by decide +kernel
theorem dX12_areNumbers_41 : decode bX12_areNumbers 41 = .ok (.bipush 10, 2) := by decide +kernel
theorem dX12_areNumbers_43 : decode bX12_areNumbers 43 = .ok (.aload_n 0, 1) := by decide +kernel
theorem dX12_areNumbers_44 : decode bX12_areNumbers 44 = .ok (.getfield 32, 3) := by decide +kernel
theorem dX12_areNumbers_47 : decode bX12_areNumbers 47 = .ok (.iload_n 2, 1) := by decide +kernel
theorem dX12_areNumbers_48 : decode bX12_areNumbers 48 = .ok (.iaload, 1) := by decide +kernel
theorem dX12_areNumbers_49 : decode bX12_areNumbers 49 = .ok (.imul, 1) := by decide +kernel
theorem dX12_areNumbers_50 : decode bX12_areNumbers 50 = .ok (.aload_n 0, 1) := by decide +kernel
theorem dX12_areNumbers_51 : decode bX12_areNumbers 51 = .ok (.getfield 29, 3) := by decide +kernel
theorem dX12_areNumbers_54 : decode bX12_areNumbers 54 = .ok (.aload_n 0, 1) := by decide +kernel
theorem dX12_areNumbers_55 : decode bX12_areNumbers 55 = .ok (.getfield 86, 3) := by decide +kernel
theorem dX12_areNumbers_58 : decode bX12_areNumbers 58 = .ok (.iaload, 1) := by decide +kernel
theorem dX12_areNumbers_59 : decode bX12_areNumbers 59 = .ok (.iadd, 1) := by decide +kernel
theorem dX12_areNumbers_60 : decode bX12_areNumbers 60 = .ok (.bipush 48, 2) := by decide +kernel
theorem dX12_areNumbers_62 : decode bX12_areNumbers 62 = .ok (.isub, 1) := by decide +kernel
theorem dX12_areNumbers_63 : decode bX12_areNumbers 63 = .ok (.goto 9, 3) := by decide +kernel
theorem dX12_areNumbers_66 : decode bX12_areNumbers 66 = .ok (.aload_n 0, 1) := by decide +kernel
theorem dX12_areNumbers_67 : decode bX12_areNumbers 67 = .ok (.getfield 32, 3) := by decide +kernel
theorem dX12_areNumbers_70 : decode bX12_areNumbers 70 = .ok (.iload_n 2, 1) := by decide +kernel
theorem dX12_areNumbers_71 : decode bX12_areNumbers 71 = .ok (.iaload, 1) := by decide +kernel
theorem dX12_areNumbers_72 : decode bX12_areNumbers 72 = .ok (.iastore, 1) := by decide +kernel
theorem dX12_areNumbers_73 : decode bX12_areNumbers 73 = .ok (.aload_n 0, 1) := by decide +kernel
theorem dX12_areNumbers_74 : decode bX12_areNumbers 74 = .ok (.dup, 1) := by decide +kernel
theorem dX12_areNumbers_75 : decode bX12_areNumbers 75 = .ok (.getfield 86, 3) := by decide +kernel
theorem dX12_areNumbers_78 : decode bX12_areNumbers 78 = .ok (.iconst 1, 1) := by decide +kernel
theorem dX12_areNumbers_79 : decode bX12_areNumbers 79 = .ok (.iadd, 1) := by decide +kernel
theorem dX12_areNumbers_80 : decode bX12_areNumbers 80 = .ok (.putfield 86, 3) := by decide +kernel
theorem dX12_areNumbers_83 : decode bX12_areNumbers 83 = .ok (.goto (-64), 3) := by decide +kernel
theorem dX12_areNumbers_86 : decode bX12_areNumbers 86 = .ok (.aload_n 0, 1) := by decide +kernel
theorem dX12_areNumbers_87 : decode bX12_areNumbers 87 = .ok (.getfield 86, 3) := by decide +kernel
theorem dX12_areNumbers_90 : decode bX12_areNumbers 90 = .ok (.iload_n 3, 1) := by decide +kernel
theorem dX12_areNumbers_91 : decode bX12_areNumbers 91 = .ok (.isub, 1) := by decide +kernel
theorem dX12_areNumbers_92 : decode bX12_areNumbers 92 = .ok (.i2l, 1) := by decide +kernel
theorem dX12_areNumbers_93 : decode bX12_areNumbers 93 = .ok (.lconst 1, 1) := by decide +kernel
theorem dX12_areNumbers_94 : decode bX12_areNumbers 94 = .ok (.ldc2_w 97, 3) := by decide +kernel
theorem dX12_areNumbers_97 : decode bX12_areNumbers 97 = .ok (.invokestatic 75, 3) := by decide +kernel
theorem dX12_areNumbers_100 : decode bX12_areNumbers 100 = .ok (.ifCond .eq 44, 3) := by decide +kernel
theorem dX12_areNumbers_103 : decode bX12_areNumbers 103 = .ok (.aload_n 0, 1) := by decide +kernel
theorem dX12_areNumbers_104 : decode bX12_areNumbers 104 = .ok (.getfield 86, 3) := by decide +kernel
theorem dX12_areNumbers_107 : decode bX12_areNumbers 107 = .ok (.aload_n 0, 1) := by decide +kernel
theorem dX12_areNumbers_108 : decode bX12_areNumbers 108 = .ok (.getfield 83, 3) := by decide +kernel
theorem dX12_areNumbers_111 : decode bX12_areNumbers 111 = .ok (.if_icmp .ge 33, 3) := by decide +kernel
theorem dX12_areNumbers_114 : decode bX12_areNumbers 114 = .ok (.aload_n 0, 1) := by decide +kernel
theorem dX12_areNumbers_115 : decode bX12_areNumbers 115 = .ok (.getfield 29, 3) := by decide +kernel
theorem dX12_areNumbers_118 : decode bX12_areNumbers 118 = .ok (.aload_n 0, 1) := by decide +kernel
theorem dX12_areNumbers_119 : decode bX12_areNumbers 119 = .ok (.getfield 86, 3) := by decide +kernel
theorem dX12_areNumbers_122 : decode bX12_areNumbers 122 = .ok (.iaload, 1) := by decide +kernel
theorem dX12_areNumbers_123 : decode bX12_areNumbers 123 = .ok (.iload_n 2, 1) := by decide +kernel
theorem dX12_areNumbers_124 : decode bX12_areNumbers 124 = .ok (.iload_n 1, 1) := by decide +kernel
theorem dX12_areNumbers_125 : decode bX12_areNumbers 125 = .ok (.iconst 1, 1) := by decide +kernel
theorem dX12_areNumbers_126 : decode bX12_areNumbers 126 = .ok (.isub, 1) := by decide +kernel
theorem dX12_areNumbers_127 : decode bX12_areNumbers 127 = .ok (.if_icmp .ge 8, 3) := by decide +kernel
theorem dX12_areNumbers_130 : decode bX12_areNumbers 130 = .ok (.bipush 44, 2) := by decide +kernel
theorem dX12_areNumbers_132 : decode bX12_areNumbers 132 = .ok (.goto 5, 3) := by decide +kernel
theorem dX12_areNumbers_135 : decode bX12_areNumbers 135 = .ok (.bipush 59, 2) := by decide +kernel
theorem dX12_areNumbers_137 : decode bX12_areNumbers 137 = .ok (.if_icmp .ne 7, 3) := by decide +kernel
theorem dX12_areNumbers_140 : decode bX12_areNumbers 140 = .ok (.iconst 1, 1) := by decide +kernel
theorem dX12_areNumbers_141 : decode bX12_areNumbers 141 = .ok (.goto 4, 3) := by decide +kernel
theorem dX12_areNumbers_144 : decode bX12_areNumbers 144 = .ok (.iconst 0, 1) := by decide +kernel
theorem dX12_areNumbers_145 : decode bX12_areNumbers 145 = .ok (.istore 4, 2) := by decide +kernel
theorem dX12_areNumbers_147 : decode bX12_areNumbers 147 = .ok (.iload 4, 2) := by decide +kernel
theorem dX12_areNumbers_149 : decode bX12_areNumbers 149 = .ok (.ifCond .ne 5, 3) := by decide +kernel
theorem dX12_areNumbers_152 : decode bX12_areNumbers 152 = .ok (.iconst 0, 1) := by decide +kernel
theorem dX12_areNumbers_153 : decode bX12_areNumbers 153 = .ok (.ireturn, 1) := by decide +kernel
theorem dX12_areNumbers_154 : decode bX12_areNumbers 154 = .ok (.aload_n 0, 1) := by decide +kernel
theorem dX12_areNumbers_155 : decode bX12_areNumbers 155 = .ok (.dup, 1) := by decide +kernel
theorem dX12_areNumbers_156 : decode bX12_areNumbers 156 = .ok (.getfield 86, 3) := by decide +kernel
theorem dX12_areNumbers_159 : decode bX12_areNumbers 159 = .ok (.iconst 1, 1) := by decide +kernel
theorem dX12_areNumbers_160 : decode bX12_areNumbers 160 = .ok (.iadd, 1) := by decide +kernel
theorem dX12_areNumbers_161 : decode bX12_areNumbers 161 = .ok (.putfield 86, 3) := by decide +kernel
theorem dX12_areNumbers_164 : decode bX12_areNumbers 164 = .ok (.iinc 2 1, 3) := by decide +kernel
theorem dX12_areNumbers_167 : decode bX12_areNumbers 167 = .ok (.goto (-165), 3) := by decide +kernel
theorem dX12_areNumbers_170 : decode bX12_areNumbers 170 = .ok (.iconst 1, 1) := by decide +kernel
theorem dX12_areNumbers_171 : decode bX12_areNumbers 171 = .ok (.ireturn, 1) := by decide +kernel
section
variable {p : Program} {l : Launch} {e : Env} {s : State} {m : MethodId} {args : Array Value} {below : List Frame} {meth : Method} {c : Code} {G : GG} {n : Nat} {h' : Hp} {rv : Int32}
set_option maxHeartbeats 4000000
set_option maxRecDepth 100000
theorem j_X12_areNumbers_145 (C0 : Cx p s m args meth c G bX12_areNumbers RX12 5 (some .boolean) "areNumbers") (hN : NT ≤ n) {k2 : Hp → Nat → Int32 → Int32 → Option (Int32 × Hp)} (ih2 : ∀ {H : Heap} {locs : List Loc} {ls : Array Slot} {h : Hp} {x0 : Nat} {x1 : Int32} {x2 : Int32}, XW G n h s 0 H locs → lv_has ls 5 [(0, .ref (bs G + x0)), (1, .int x1), (2, .int x2)] → kd x0 = 12 → k2 h x0 x1 x2 = some (rv, h') → W p l e (rmC 2 0 0) s m args below meth c H locs 0 0 (MQ below (QP G n h' (some (.int rv))) args s 0 0 (Ab G)) (F0 m 2 ls [])) {H : Heap} {locs : List Loc} {ls : Array Slot} {h : Hp} {x0 : Nat} {x1 : Int32} {x2 : Int32} {t0 : Int32} (X : XW G n h s 0 H locs) (hl : lv_has ls 5 [(0, .ref (bs G + x0)), (1, .int x1), (2, .int x2)]) (o0 : kd x0 = 12) (hf : f_X12_areNumbers_145 k2 h x0 x1 x2 t0 = some (rv, h')) : W p l e (rmC 2 0 0) s m args below meth c H locs 0 0 (MQ below (QP G n h' (some (.int rv))) args s 0 0 (Ab G)) (F0 m 145 ls [.int t0]) := by
  obtain ⟨hx, hb, hr, hml, hown, hts, hK, hlocks, hnm⟩ := id C0
  unfold f_X12_areNumbers_145 at hf
  refine lv_istore (lv' := [(4, .int t0), (0, .ref (bs G + x0)), (1, .int x1), (2, .int x2)]) hx hb dX12_areNumbers_145 hl (by decide) rfl (fun ls hl => ?_)
  refine lv_iload hx hb dX12_areNumbers_147 (lv_at hl 0 rfl) ?_
  refine lv_if_ne (tgt := 154) hx hb dX12_areNumbers_149 (by decide) (fun c149 => ?_) (fun c149 => ?_)
  · have hf := ite_f hf c149
    refine lv_aload_n hx hb dX12_areNumbers_154 rfl (lv_at hl 1 rfl) ?_
    refine lv_dup hx hb dX12_areNumbers_155 rfl ?_
    refine g_I hx hb hts hown hK X o0 hN fl_X12_86 (by decide) rfl dX12_areNumbers_156 ?_
    refine lv_iconst (v := (1 : Int32)) hx hb dX12_areNumbers_159 (by decide) ?_
    refine lv_iadd hx hb dX12_areNumbers_160 ?_
    refine g_PI hx hb hts hown hK X o0 hN fl_X12_86 ft_12_10 (by decide) rfl dX12_areNumbers_161 (fun H locs X => ?_)
    obtain ⟨h1, e2, hf⟩ := lt_e hf
    rw [← e2] at X
    refine lv_iinc (v := (x2 + (1 : Int32))) (lv' := [(2, .int (x2 + (1 : Int32))), (4, .int t0), (0, .ref (bs G + x0)), (1, .int x1)]) hx hb dX12_areNumbers_164 hl (k := 3) rfl rfl (by decide) rfl (fun ls hl => ?_)
    refine lv_goto (tgt := 2) hx hb dX12_areNumbers_167 (by decide) ?_
    exact ih2 X (lv_sub hl [2, 3, 0] rfl) o0 hf
  · have hf := ite_t hf c149
    refine lv_iconst (v := (0 : Int32)) hx hb dX12_areNumbers_152 (by decide) ?_
    exact r_Z hx hb hr hlocks X rfl hf dX12_areNumbers_153
theorem j_X12_areNumbers_144 (C0 : Cx p s m args meth c G bX12_areNumbers RX12 5 (some .boolean) "areNumbers") (hN : NT ≤ n) {k2 : Hp → Nat → Int32 → Int32 → Option (Int32 × Hp)} (ih2 : ∀ {H : Heap} {locs : List Loc} {ls : Array Slot} {h : Hp} {x0 : Nat} {x1 : Int32} {x2 : Int32}, XW G n h s 0 H locs → lv_has ls 5 [(0, .ref (bs G + x0)), (1, .int x1), (2, .int x2)] → kd x0 = 12 → k2 h x0 x1 x2 = some (rv, h') → W p l e (rmC 2 0 0) s m args below meth c H locs 0 0 (MQ below (QP G n h' (some (.int rv))) args s 0 0 (Ab G)) (F0 m 2 ls [])) {H : Heap} {locs : List Loc} {ls : Array Slot} {h : Hp} {x0 : Nat} {x1 : Int32} {x2 : Int32} (X : XW G n h s 0 H locs) (hl : lv_has ls 5 [(0, .ref (bs G + x0)), (1, .int x1), (2, .int x2)]) (o0 : kd x0 = 12) (hf : f_X12_areNumbers_144 k2 h x0 x1 x2 = some (rv, h')) : W p l e (rmC 2 0 0) s m args below meth c H locs 0 0 (MQ below (QP G n h' (some (.int rv))) args s 0 0 (Ab G)) (F0 m 144 ls []) := by
  obtain ⟨hx, hb, hr, hml, hown, hts, hK, hlocks, hnm⟩ := id C0
  unfold f_X12_areNumbers_144 at hf
  refine lv_iconst (v := (0 : Int32)) hx hb dX12_areNumbers_144 (by decide) ?_
  exact j_X12_areNumbers_145 C0 hN @ih2 X (lv_sub hl [0, 1, 2] rfl) o0 hf
theorem j_X12_areNumbers_137 (C0 : Cx p s m args meth c G bX12_areNumbers RX12 5 (some .boolean) "areNumbers") (hN : NT ≤ n) {k2 : Hp → Nat → Int32 → Int32 → Option (Int32 × Hp)} (ih2 : ∀ {H : Heap} {locs : List Loc} {ls : Array Slot} {h : Hp} {x0 : Nat} {x1 : Int32} {x2 : Int32}, XW G n h s 0 H locs → lv_has ls 5 [(0, .ref (bs G + x0)), (1, .int x1), (2, .int x2)] → kd x0 = 12 → k2 h x0 x1 x2 = some (rv, h') → W p l e (rmC 2 0 0) s m args below meth c H locs 0 0 (MQ below (QP G n h' (some (.int rv))) args s 0 0 (Ab G)) (F0 m 2 ls [])) {H : Heap} {locs : List Loc} {ls : Array Slot} {h : Hp} {x0 : Nat} {x1 : Int32} {x2 : Int32} {t0 : Int32} {t1 : Int32} (X : XW G n h s 0 H locs) (hl : lv_has ls 5 [(0, .ref (bs G + x0)), (1, .int x1), (2, .int x2)]) (o0 : kd x0 = 12) (hf : f_X12_areNumbers_137 k2 h x0 x1 x2 t0 t1 = some (rv, h')) : W p l e (rmC 2 0 0) s m args below meth c H locs 0 0 (MQ below (QP G n h' (some (.int rv))) args s 0 0 (Ab G)) (F0 m 137 ls [.int t1, .int t0]) := by
  obtain ⟨hx, hb, hr, hml, hown, hts, hK, hlocks, hnm⟩ := id C0
  unfold f_X12_areNumbers_137 at hf
  refine lv_icmp_ne (tgt := 144) hx hb dX12_areNumbers_137 (by decide) (fun c137 => ?_) (fun c137 => ?_)
  · have hf := ite_f hf c137
    exact j_X12_areNumbers_144 C0 hN @ih2 X (lv_sub hl [0, 1, 2] rfl) o0 hf
  · have hf := ite_t hf c137
    refine lv_iconst (v := (1 : Int32)) hx hb dX12_areNumbers_140 (by decide) ?_
    refine lv_goto (tgt := 145) hx hb dX12_areNumbers_141 (by decide) ?_
    exact j_X12_areNumbers_145 C0 hN @ih2 X (lv_sub hl [0, 1, 2] rfl) o0 hf
theorem j_X12_areNumbers_72 (C0 : Cx p s m args meth c G bX12_areNumbers RX12 5 (some .boolean) "areNumbers") (hN : NT ≤ n) {k2 : Hp → Nat → Int32 → Int32 → Option (Int32 × Hp)} {k19 : Hp → Nat → Int32 → Int32 → Int32 → Option (Int32 × Hp)} (ih2 : ∀ {H : Heap} {locs : List Loc} {ls : Array Slot} {h : Hp} {x0 : Nat} {x1 : Int32} {x2 : Int32}, XW G n h s 0 H locs → lv_has ls 5 [(0, .ref (bs G + x0)), (1, .int x1), (2, .int x2)] → kd x0 = 12 → k2 h x0 x1 x2 = some (rv, h') → W p l e (rmC 2 0 0) s m args below meth c H locs 0 0 (MQ below (QP G n h' (some (.int rv))) args s 0 0 (Ab G)) (F0 m 2 ls [])) (ih19 : ∀ {H : Heap} {locs : List Loc} {ls : Array Slot} {h : Hp} {x0 : Nat} {x1 : Int32} {x2 : Int32} {x3 : Int32}, XW G n h s 0 H locs → lv_has ls 5 [(0, .ref (bs G + x0)), (1, .int x1), (2, .int x2), (3, .int x3)] → kd x0 = 12 → k19 h x0 x1 x2 x3 = some (rv, h') → W p l e (rmC 2 0 0) s m args below meth c H locs 0 0 (MQ below (QP G n h' (some (.int rv))) args s 0 0 (Ab G)) (F0 m 19 ls [])) {H : Heap} {locs : List Loc} {ls : Array Slot} {h : Hp} {x0 : Nat} {x1 : Int32} {x2 : Int32} {x3 : Int32} {t0 : Nat} {t1 : Int32} {t2 : Int32} (X : XW G n h s 0 H locs) (hl : lv_has ls 5 [(0, .ref (bs G + x0)), (1, .int x1), (2, .int x2), (3, .int x3)]) (o0 : kd x0 = 12) (ot0 : kd t0 = 16) (hf : f_X12_areNumbers_72 k2 k19 h x0 x1 x2 x3 t0 t1 t2 = some (rv, h')) : W p l e (rmC 2 0 0) s m args below meth c H locs 0 0 (MQ below (QP G n h' (some (.int rv))) args s 0 0 (Ab G)) (F0 m 72 ls [.int t2, .int t1, .ref (bs G + t0)]) := by
  obtain ⟨hx, hb, hr, hml, hown, hts, hK, hlocks, hnm⟩ := id C0
  unfold f_X12_areNumbers_72 at hf
  obtain ⟨g1, hf⟩ := gd_e hf
  refine g_is hx hb hK X ot0 hN g1 (by decide) dX12_areNumbers_72 (fun H locs X => ?_)
  obtain ⟨h2, e3, hf⟩ := lt_e hf
  rw [← e3] at X
  refine lv_aload_n hx hb dX12_areNumbers_73 rfl (lv_at hl 0 rfl) ?_
  refine lv_dup hx hb dX12_areNumbers_74 rfl ?_
  refine g_I hx hb hts hown hK X o0 hN fl_X12_86 (by decide) rfl dX12_areNumbers_75 ?_
  refine lv_iconst (v := (1 : Int32)) hx hb dX12_areNumbers_78 (by decide) ?_
  refine lv_iadd hx hb dX12_areNumbers_79 ?_
  refine g_PI hx hb hts hown hK X o0 hN fl_X12_86 ft_12_10 (by decide) rfl dX12_areNumbers_80 (fun H locs X => ?_)
  obtain ⟨h4, e5, hf⟩ := lt_e hf
  rw [← e5] at X
  refine lv_goto (tgt := 19) hx hb dX12_areNumbers_83 (by decide) ?_
  exact ih19 X (lv_sub hl [0, 1, 2, 3] rfl) o0 hf
theorem j_X12_areNumbers_19 (C0 : Cx p s m args meth c G bX12_areNumbers RX12 5 (some .boolean) "areNumbers") (hN : NT ≤ n) {k2 : Hp → Nat → Int32 → Int32 → Option (Int32 × Hp)} (ih2 : ∀ {H : Heap} {locs : List Loc} {ls : Array Slot} {h : Hp} {x0 : Nat} {x1 : Int32} {x2 : Int32}, XW G n h s 0 H locs → lv_has ls 5 [(0, .ref (bs G + x0)), (1, .int x1), (2, .int x2)] → kd x0 = 12 → k2 h x0 x1 x2 = some (rv, h') → W p l e (rmC 2 0 0) s m args below meth c H locs 0 0 (MQ below (QP G n h' (some (.int rv))) args s 0 0 (Ab G)) (F0 m 2 ls [])) : ∀ (fu : Nat), ∀ {H : Heap} {locs : List Loc} {ls : Array Slot} {h : Hp} {x0 : Nat} {x1 : Int32} {x2 : Int32} {x3 : Int32}, XW G n h s 0 H locs → lv_has ls 5 [(0, .ref (bs G + x0)), (1, .int x1), (2, .int x2), (3, .int x3)] → kd x0 = 12 → f_X12_areNumbers_19 k2 fu h x0 x1 x2 x3 = some (rv, h') → W p l e (rmC 2 0 0) s m args below meth c H locs 0 0 (MQ below (QP G n h' (some (.int rv))) args s 0 0 (Ab G)) (F0 m 19 ls []) := by
  obtain ⟨hx, hb, hr, hml, hown, hts, hK, hlocks, hnm⟩ := id C0
  intro fu
  induction fu with
  | zero => intro H locs ls h x0 x1 x2 x3 X hl o0 hf; cases hf
  | succ fu ih =>
    intro H locs ls h x0 x1 x2 x3 X hl o0 hf
    rw [f_X12_areNumbers_19] at hf
    refine lv_aload_n hx hb dX12_areNumbers_19 rfl (lv_at hl 0 rfl) ?_
    obtain ⟨r1, h2, q3, hf⟩ := bd_e hf
    refine c_V0 (As := []) (rest := []) (st1 := [.int r1]) hx hb hml hown hts hK X (k_X12_isFigure l G n hN q3) o0 hN lc_X12_isFigure lv_X12_93 (ci := 12) rfl rfl (by decide) rfl hl.1 (Nat.le_of_ble_eq_true rfl) dX12_areNumbers_20 rfl (fun H locs X => ?_)
    refine lv_if_eq (tgt := 86) hx hb dX12_areNumbers_23 (by decide) (fun c23 => ?_) (fun c23 => ?_)
    · have hf := ite_t hf c23
      refine lv_aload_n hx hb dX12_areNumbers_86 rfl (lv_at hl 0 rfl) ?_
      refine g_I hx hb hts hown hK X o0 hN fl_X12_86 (by decide) rfl dX12_areNumbers_87 ?_
      refine lv_iload_n hx hb dX12_areNumbers_90 rfl (lv_at hl 3 rfl) ?_
      refine lv_isub hx hb dX12_areNumbers_91 ?_
      refine lv_i2l hx hb dX12_areNumbers_92 rfl ?_
      refine lv_lconst (v := 1) hx hb dX12_areNumbers_93 (by decide) ?_
      refine lv_ldc2 hx hb hown (hts _ cn_X12_97) dX12_areNumbers_94 ?_
      obtain ⟨r4, h5, q6, hf⟩ := bd_e hf
      refine c_S0 (As := [.long ((h2.1 x0 10) - x3).toInt64, .long (1 : Int64), .long (2 : Int64)]) (rest := []) (st1 := [.int r4]) hx hb hml hown hts hK X (k_X12_in l G n hN q6) lc_X12_in ls_X12_75 (by decide) rfl hl.1 (Nat.le_of_ble_eq_true rfl) dX12_areNumbers_97 rfl (fun H locs X => ?_)
      refine lv_if_eq (tgt := 144) hx hb dX12_areNumbers_100 (by decide) (fun c100 => ?_) (fun c100 => ?_)
      · have hf := ite_t hf c100
        exact j_X12_areNumbers_144 C0 hN @ih2 X (lv_sub hl [0, 1, 2] rfl) o0 hf
      · have hf := ite_f hf c100
        refine lv_aload_n hx hb dX12_areNumbers_103 rfl (lv_at hl 0 rfl) ?_
        refine g_I hx hb hts hown hK X o0 hN fl_X12_86 (by decide) rfl dX12_areNumbers_104 ?_
        refine lv_aload_n hx hb dX12_areNumbers_107 rfl (lv_at hl 0 rfl) ?_
        refine g_I hx hb hts hown hK X o0 hN fl_X12_83 (by decide) rfl dX12_areNumbers_108 ?_
        refine lv_icmp_ge (tgt := 144) hx hb dX12_areNumbers_111 (by decide) (fun c111 => ?_) (fun c111 => ?_)
        · have hf := ite_t hf c111
          exact j_X12_areNumbers_144 C0 hN @ih2 X (lv_sub hl [0, 1, 2] rfl) o0 hf
        · have hf := ite_f hf c111
          refine lv_aload_n hx hb dX12_areNumbers_114 rfl (lv_at hl 0 rfl) ?_
          obtain ⟨g7, hf⟩ := gd_e hf
          refine g_R hx hb hts hown hK X o0 hN g7 fl_X12_29 (by decide) rfl (by decide) dX12_areNumbers_115 ?_
          refine lv_aload_n hx hb dX12_areNumbers_118 rfl (lv_at hl 0 rfl) ?_
          refine g_I hx hb hts hown hK X o0 hN fl_X12_86 (by decide) rfl dX12_areNumbers_119 ?_
          obtain ⟨g8, hf⟩ := gd_e hf
          refine g_ia hx hb hK X g7 hN g8 (by decide) dX12_areNumbers_122 ?_
          refine lv_iload_n hx hb dX12_areNumbers_123 rfl (lv_at hl 2 rfl) ?_
          refine lv_iload_n hx hb dX12_areNumbers_124 rfl (lv_at hl 1 rfl) ?_
          refine lv_iconst (v := (1 : Int32)) hx hb dX12_areNumbers_125 (by decide) ?_
          refine lv_isub hx hb dX12_areNumbers_126 ?_
          refine lv_icmp_ge (tgt := 135) hx hb dX12_areNumbers_127 (by decide) (fun c127 => ?_) (fun c127 => ?_)
          · have hf := ite_t hf c127
            refine lv_bipush (v := (59 : Int32)) hx hb dX12_areNumbers_135 (by decide) ?_
            exact j_X12_areNumbers_137 C0 hN @ih2 X (lv_sub hl [0, 1, 2] rfl) o0 hf
          · have hf := ite_f hf c127
            refine lv_bipush (v := (44 : Int32)) hx hb dX12_areNumbers_130 (by decide) ?_
            refine lv_goto (tgt := 137) hx hb dX12_areNumbers_132 (by decide) ?_
            exact j_X12_areNumbers_137 C0 hN @ih2 X (lv_sub hl [0, 1, 2] rfl) o0 hf
    · have hf := ite_f hf c23
      refine lv_aload_n hx hb dX12_areNumbers_26 rfl (lv_at hl 0 rfl) ?_
      obtain ⟨g9, hf⟩ := gd_e hf
      refine g_R hx hb hts hown hK X o0 hN g9 fl_X12_32 (by decide) rfl (by decide) dX12_areNumbers_27 ?_
      refine lv_iload_n hx hb dX12_areNumbers_30 rfl (lv_at hl 2 rfl) ?_
      refine lv_aload_n hx hb dX12_areNumbers_31 rfl (lv_at hl 0 rfl) ?_
      refine g_I hx hb hts hown hK X o0 hN fl_X12_86 (by decide) rfl dX12_areNumbers_32 ?_
      refine lv_iload_n hx hb dX12_areNumbers_35 rfl (lv_at hl 3 rfl) ?_
      refine lv_isub hx hb dX12_areNumbers_36 ?_
      refine lv_iconst (v := (2 : Int32)) hx hb dX12_areNumbers_37 (by decide) ?_
      refine lv_icmp_ge (tgt := 66) hx hb dX12_areNumbers_38 (by decide) (fun c38 => ?_) (fun c38 => ?_)
      · have hf := ite_t hf c38
        refine lv_aload_n hx hb dX12_areNumbers_66 rfl (lv_at hl 0 rfl) ?_
        obtain ⟨g10, hf⟩ := gd_e hf
        refine g_R hx hb hts hown hK X o0 hN g10 fl_X12_32 (by decide) rfl (by decide) dX12_areNumbers_67 ?_
        refine lv_iload_n hx hb dX12_areNumbers_70 rfl (lv_at hl 2 rfl) ?_
        obtain ⟨g11, hf⟩ := gd_e hf
        refine g_ia hx hb hK X g10 hN g11 (by decide) dX12_areNumbers_71 ?_
        exact j_X12_areNumbers_72 C0 hN @ih2 @ih X (lv_sub hl [0, 1, 2, 3] rfl) o0 g9 hf
      · have hf := ite_f hf c38
        refine lv_bipush (v := (10 : Int32)) hx hb dX12_areNumbers_41 (by decide) ?_
        refine lv_aload_n hx hb dX12_areNumbers_43 rfl (lv_at hl 0 rfl) ?_
        obtain ⟨g12, hf⟩ := gd_e hf
        refine g_R hx hb hts hown hK X o0 hN g12 fl_X12_32 (by decide) rfl (by decide) dX12_areNumbers_44 ?_
        refine lv_iload_n hx hb dX12_areNumbers_47 rfl (lv_at hl 2 rfl) ?_
        obtain ⟨g13, hf⟩ := gd_e hf
        refine g_ia hx hb hK X g12 hN g13 (by decide) dX12_areNumbers_48 ?_
        refine lv_imul hx hb dX12_areNumbers_49 ?_
        refine lv_aload_n hx hb dX12_areNumbers_50 rfl (lv_at hl 0 rfl) ?_
        obtain ⟨g14, hf⟩ := gd_e hf
        refine g_R hx hb hts hown hK X o0 hN g14 fl_X12_29 (by decide) rfl (by decide) dX12_areNumbers_51 ?_
        refine lv_aload_n hx hb dX12_areNumbers_54 rfl (lv_at hl 0 rfl) ?_
        refine g_I hx hb hts hown hK X o0 hN fl_X12_86 (by decide) rfl dX12_areNumbers_55 ?_
        obtain ⟨g15, hf⟩ := gd_e hf
        refine g_ia hx hb hK X g14 hN g15 (by decide) dX12_areNumbers_58 ?_
        refine lv_iadd hx hb dX12_areNumbers_59 ?_
        refine lv_bipush (v := (48 : Int32)) hx hb dX12_areNumbers_60 (by decide) ?_
        refine lv_isub hx hb dX12_areNumbers_62 ?_
        refine lv_goto (tgt := 72) hx hb dX12_areNumbers_63 (by decide) ?_
        exact j_X12_areNumbers_72 C0 hN @ih2 @ih X (lv_sub hl [0, 1, 2, 3] rfl) o0 g9 hf
theorem j_X12_areNumbers_2 (C0 : Cx p s m args meth c G bX12_areNumbers RX12 5 (some .boolean) "areNumbers") (hN : NT ≤ n) : ∀ (fu : Nat), ∀ {H : Heap} {locs : List Loc} {ls : Array Slot} {h : Hp} {x0 : Nat} {x1 : Int32} {x2 : Int32}, XW G n h s 0 H locs → lv_has ls 5 [(0, .ref (bs G + x0)), (1, .int x1), (2, .int x2)] → kd x0 = 12 → f_X12_areNumbers_2 fu h x0 x1 x2 = some (rv, h') → W p l e (rmC 2 0 0) s m args below meth c H locs 0 0 (MQ below (QP G n h' (some (.int rv))) args s 0 0 (Ab G)) (F0 m 2 ls []) := by
  obtain ⟨hx, hb, hr, hml, hown, hts, hK, hlocks, hnm⟩ := id C0
  intro fu
  induction fu with
  | zero => intro H locs ls h x0 x1 x2 X hl o0 hf; cases hf
  | succ fu ih =>
    intro H locs ls h x0 x1 x2 X hl o0 hf
    rw [f_X12_areNumbers_2] at hf
    refine lv_iload_n hx hb dX12_areNumbers_2 rfl (lv_at hl 2 rfl) ?_
    refine lv_iload_n hx hb dX12_areNumbers_3 rfl (lv_at hl 1 rfl) ?_
    refine lv_icmp_ge (tgt := 170) hx hb dX12_areNumbers_4 (by decide) (fun c4 => ?_) (fun c4 => ?_)
    · have hf := ite_t hf c4
      refine lv_iconst (v := (1 : Int32)) hx hb dX12_areNumbers_170 (by decide) ?_
      exact r_Z hx hb hr hlocks X rfl hf dX12_areNumbers_171
    · have hf := ite_f hf c4
      refine lv_aload_n hx hb dX12_areNumbers_7 rfl (lv_at hl 0 rfl) ?_
      refine g_I hx hb hts hown hK X o0 hN fl_X12_86 (by decide) rfl dX12_areNumbers_8 ?_
      refine lv_istore_n (lv' := [(3, .int (h.1 x0 10)), (0, .ref (bs G + x0)), (1, .int x1), (2, .int x2)]) hx hb dX12_areNumbers_11 rfl hl (by decide) rfl (fun ls hl => ?_)
      refine lv_aload_n hx hb dX12_areNumbers_12 rfl (lv_at hl 1 rfl) ?_
      obtain ⟨g1, hf⟩ := gd_e hf
      refine g_R hx hb hts hown hK X o0 hN g1 fl_X12_32 (by decide) rfl (by decide) dX12_areNumbers_13 ?_
      refine lv_iload_n hx hb dX12_areNumbers_16 rfl (lv_at hl 3 rfl) ?_
      refine lv_iconst (v := (0 : Int32)) hx hb dX12_areNumbers_17 (by decide) ?_
      obtain ⟨g2, hf⟩ := gd_e hf
      refine g_is hx hb hK X g1 hN g2 (by decide) dX12_areNumbers_18 (fun H locs X => ?_)
      obtain ⟨h3, e4, hf⟩ := lt_e hf
      rw [← e4] at X
      exact j_X12_areNumbers_19 C0 hN @ih FU X (lv_sub hl [1, 2, 3, 0] rfl) o0 hf
theorem k_X12_areNumbers (l : Launch) (G : GG) (n : Nat) (hN : NT ≤ n) {h h' : Hp} {x0 : Nat} {x1 : Int32} {rv : Int32} (hf : f_X12_areNumbers h x0 x1 = some (rv, h')) : CT l G n n yX12_areNumbers (.code yX12_areNumbers bX12_areNumbers 5 (some .boolean)) 2 0 0 [.ref (bs G + x0), .int x1] h h' (some (.int rv)) := by
  refine ct_of (maxL := 5) (ret := (some .boolean)) (bytes := bX12_areNumbers) (by decide) (Nat.le_of_ble_eq_true rfl) (fun p e s m below meth c C0 X ls hl => ?_)
  have hl : lv_has ls 5 [(0, .ref (bs G + x0)), (1, .int x1)] := hl
  obtain ⟨hx, hb, hr, hml, hown, hts, hK, hlocks, hnm⟩ := id C0
  unfold f_X12_areNumbers at hf
  obtain ⟨o0, hf⟩ := gd_e hf
  refine lv_iconst (v := (0 : Int32)) hx hb dX12_areNumbers_0 (by decide) ?_
  refine lv_istore_n (lv' := [(2, .int (0 : Int32)), (0, .ref (bs G + x0)), (1, .int x1)]) hx hb dX12_areNumbers_1 rfl hl (by decide) rfl (fun ls hl => ?_)
  exact j_X12_areNumbers_2 C0 hN FU X (lv_sub hl [1, 2, 0] rfl) o0 hf
end
theorem dX12_readItem_0 : decode bX12_readItem 0 = .ok (.iload_n 1, 1) := by decide +kernel
theorem dX12_readItem_1 : decode bX12_readItem 1 = .ok (.tableswitch 380 99 112 #[116, 380, 380, 380, 380, 241, 380, 380, 309, 380, 380, 71, 380, 179], 71) := by decide +kernel
theorem dX12_readItem_72 : decode bX12_readItem 72 = .ok (.iload_n 2, 1) := by decide +kernel
theorem dX12_readItem_73 : decode bX12_readItem 73 = .ok (.ifCond .eq 28, 3) := by decide +kernel
theorem dX12_readItem_76 : decode bX12_readItem 76 = .ok (.aload_n 0, 1) := by decide +kernel
theorem dX12_readItem_77 : decode bX12_readItem 77 = .ok (.iconst 1, 1) := by decide +kernel
theorem dX12_readItem_78 : decode bX12_readItem 78 = .ok (.invokevirtual 99, 3) := by decide +kernel
theorem dX12_readItem_81 : decode bX12_readItem 81 = .ok (.ifCond .eq 20, 3) := by decide +kernel
theorem dX12_readItem_84 : decode bX12_readItem 84 = .ok (.aload_n 0, 1) := by decide +kernel
theorem dX12_readItem_85 : decode bX12_readItem 85 = .ok (.getfield 32, 3) := by decide +kernel
theorem dX12_readItem_88 : decode bX12_readItem 88 = .ok (.iconst 0, 1) := by decide +kernel
theorem dX12_readItem_89 : decode bX12_readItem 89 = .ok (.iaload, 1) := by decide +kernel
theorem dX12_readItem_90 : decode bX12_readItem 90 = .ok (.i2l, 1) := by decide +kernel
theorem dX12_readItem_91 : decode bX12_readItem 91 = .ok (.lconst 1, 1) := by decide +kernel
theorem dX12_readItem_92 : decode bX12_readItem 92 = .ok (.ldc2_w 103, 3) := by decide +kernel
theorem dX12_readItem_95 : decode bX12_readItem 95 = .ok (.invokestatic 75, 3) := by decide +kernel
theorem dX12_readItem_98 : decode bX12_readItem 98 = .ok (.ifCond .ne 5, 3) := by decide +kernel
theorem dX12_readItem_101 : decode bX12_readItem 101 = .ok (.iconst 0, 1) := by decide +kernel
theorem dX12_readItem_102 : decode bX12_readItem 102 = .ok (.ireturn, 1) := by decide +kernel
theorem dX12_readItem_103 : decode bX12_readItem 103 = .ok (.aload_n 0, 1) := by decide +kernel
theorem dX12_readItem_104 : decode bX12_readItem 104 = .ok (.getfield 17, 3) := by decide +kernel
theorem dX12_readItem_107 : decode bX12_readItem 107 = .ok (.iconst 0, 1) := by decide +kernel
theorem dX12_readItem_108 : decode bX12_readItem 108 = .ok (.aload_n 0, 1) := by decide +kernel
theorem dX12_readItem_109 : decode bX12_readItem 109 = .ok (.getfield 32, 3) := by decide +kernel
theorem dX12_readItem_112 : decode bX12_readItem 112 = .ok (.iconst 0, 1) := by decide +kernel
theorem dX12_readItem_113 : decode bX12_readItem 113 = .ok (.iaload, 1) := by decide +kernel
theorem dX12_readItem_114 : decode bX12_readItem 114 = .ok (.iastore, 1) := by decide +kernel
theorem dX12_readItem_115 : decode bX12_readItem 115 = .ok (.iconst 1, 1) := by decide +kernel
theorem dX12_readItem_116 : decode bX12_readItem 116 = .ok (.ireturn, 1) := by decide +kernel
theorem dX12_readItem_117 : decode bX12_readItem 117 = .ok (.aload_n 0, 1) := by decide +kernel
theorem dX12_readItem_118 : decode bX12_readItem 118 = .ok (.iconst 2, 1) := by decide +kernel
theorem dX12_readItem_119 : decode bX12_readItem 119 = .ok (.invokevirtual 99, 3) := by decide +kernel
theorem dX12_readItem_122 : decode bX12_readItem 122 = .ok (.ifCond .eq 35, 3) := by decide +kernel
theorem dX12_readItem_125 : decode bX12_readItem 125 = .ok (.aload_n 0, 1) := by decide +kernel
theorem dX12_readItem_126 : decode bX12_readItem 126 = .ok (.getfield 32, 3) := by decide +kernel
theorem dX12_readItem_129 : decode bX12_readItem 129 = .ok (.iconst 0, 1) := by decide +kernel
theorem dX12_readItem_130 : decode bX12_readItem 130 = .ok (.iaload, 1) := by decide +kernel
theorem dX12_readItem_131 : decode bX12_readItem 131 = .ok (.i2l, 1) := by decide +kernel
theorem dX12_readItem_132 : decode bX12_readItem 132 = .ok (.lconst 1, 1) := by decide +kernel
theorem dX12_readItem_133 : decode bX12_readItem 133 = .ok (.aload_n 0, 1) := by decide +kernel
theorem dX12_readItem_134 : decode bX12_readItem 134 = .ok (.getfield 17, 3) := by decide +kernel
theorem dX12_readItem_137 : decode bX12_readItem 137 = .ok (.iconst 0, 1) := by decide +kernel
theorem dX12_readItem_138 : decode bX12_readItem 138 = .ok (.iaload, 1) := by decide +kernel
theorem dX12_readItem_139 : decode bX12_readItem 139 = .ok (.i2l, 1) := by decide +kernel
theorem dX12_readItem_140 : decode bX12_readItem 140 = .ok (.invokestatic 75, 3) := by decide +kernel
theorem dX12_readItem_143 : decode bX12_readItem 143 = .ok (.ifCond .eq 14, 3) := by decide +kernel
theorem dX12_readItem_146 : decode bX12_readItem 146 = .ok (.aload_n 0, 1) := by decide +kernel
theorem dX12_readItem_147 : decode bX12_readItem 147 = .ok (.getfield 32, 3) := by decide +kernel
theorem dX12_readItem_150 : decode bX12_readItem 150 = .ok (.iconst 1, 1) := by decide +kernel
theorem dX12_readItem_151 : decode bX12_readItem 151 = .ok (.iaload, 1) := by decide +kernel
theorem dX12_readItem_152 : decode bX12_readItem 152 = .ok (.bipush 9, 2) := by decide +kernel
theorem dX12_readItem_154 : decode bX12_readItem 154 = .ok (.if_icmp .le 5, 3) := by decide +kernel
theorem dX12_readItem_157 : decode bX12_readItem 157 = .ok (.iconst 0, 1) := by decide +kernel
theorem dX12_readItem_158 : decode bX12_readItem 158 = .ok (.ireturn, 1) := by decide +kernel
theorem dX12_readItem_159 : decode bX12_readItem 159 = .ok (.aload_n 0, 1) := by decide +kernel
theorem dX12_readItem_160 : decode bX12_readItem 160 = .ok (.getfield 17, 3) := by decide +kernel
theorem dX12_readItem_163 : decode bX12_readItem 163 = .ok (.iconst 4, 1) := by decide +kernel
theorem dX12_readItem_164 : decode bX12_readItem 164 = .ok (.aload_n 0, 1) := by decide +kernel
theorem dX12_readItem_165 : decode bX12_readItem 165 = .ok (.getfield 32, 3) := by decide +kernel
theorem dX12_readItem_168 : decode bX12_readItem 168 = .ok (.iconst 0, 1) := by decide +kernel
theorem dX12_readItem_169 : decode bX12_readItem 169 = .ok (.iaload, 1) := by decide +kernel
theorem dX12_readItem_170 : decode bX12_readItem 170 = .ok (.iadd, 1) := by decide +kernel
theorem dX12_readItem_171 : decode bX12_readItem 171 = .ok (.aload_n 0, 1) := by decide +kernel
theorem dX12_readItem_172 : decode bX12_readItem 172 = .ok (.getfield 32, 3) := by decide +kernel
theorem dX12_readItem_175 : decode bX12_readItem 175 = .ok (.iconst 1, 1) := by decide +kernel
theorem dX12_readItem_176 : decode bX12_readItem 176 = .ok (.iaload, 1) := by decide +kernel
theorem dX12_readItem_177 : decode bX12_readItem 177 = .ok (.iastore, 1) := by decide +kernel
theorem dX12_readItem_178 : decode bX12_readItem 178 = .ok (.iconst 1, 1) := by decide +kernel
theorem dX12_readItem_179 : decode bX12_readItem 179 = .ok (.ireturn, 1) := by decide +kernel
theorem dX12_readItem_180 : decode bX12_readItem 180 = .ok (.aload_n 0, 1) := by decide +kernel
theorem dX12_readItem_181 : decode bX12_readItem 181 = .ok (.getfield 17, 3) := by decide +kernel
theorem dX12_readItem_184 : decode bX12_readItem 184 = .ok (.iconst 1, 1) := by decide +kernel
theorem dX12_readItem_185 : decode bX12_readItem 185 = .ok (.iaload, 1) := by decide +kernel
theorem dX12_readItem_186 : decode bX12_readItem 186 = .ok (.bipush 6, 2) := by decide +kernel
theorem dX12_readItem_188 : decode bX12_readItem 188 = .ok (.if_icmp .eq 20, 3) := by decide +kernel
theorem dX12_readItem_191 : decode bX12_readItem 191 = .ok (.aload_n 0, 1) := by decide +kernel
theorem dX12_readItem_192 : decode bX12_readItem 192 = .ok (.iconst 1, 1) := by decide +kernel
theorem dX12_readItem_193 : decode bX12_readItem 193 = .ok (.invokevirtual 99, 3) := by decide +kernel
theorem dX12_readItem_196 : decode bX12_readItem 196 = .ok (.ifCond .eq 12, 3) := by decide +kernel
theorem dX12_readItem_199 : decode bX12_readItem 199 = .ok (.aload_n 0, 1) := by decide +kernel
theorem dX12_readItem_200 : decode bX12_readItem 200 = .ok (.getfield 32, 3) := by decide +kernel
theorem dX12_readItem_203 : decode bX12_readItem 203 = .ok (.iconst 0, 1) := by decide +kernel
theorem dX12_readItem_204 : decode bX12_readItem 204 = .ok (.iaload, 1) := by decide +kernel
theorem dX12_readItem_205 : decode bX12_readItem 205 = .ok (.ifCond .ne 5, 3) := by decide +kernel
theorem dX12_readItem_208 : decode bX12_readItem 208 = .ok (.iconst 0, 1) := by decide +kernel
theorem dX12_readItem_209 : decode bX12_readItem 209 = .ok (.ireturn, 1) := by decide +kernel
theorem dX12_readItem_210 : decode bX12_readItem 210 = .ok (.aload_n 0, 1) := by decide +kernel
theorem dX12_readItem_211 : decode bX12_readItem 211 = .ok (.getfield 17, 3) := by decide +kernel
theorem dX12_readItem_214 : decode bX12_readItem 214 = .ok (.bipush 53, 2) := by decide +kernel
theorem dX12_readItem_216 : decode bX12_readItem 216 = .ok (.aload_n 0, 1) := by decide +kernel
theorem dX12_readItem_217 : decode bX12_readItem 217 = .ok (.getfield 17, 3) := by decide +kernel
theorem dX12_readItem_220 : decode bX12_readItem 220 = .ok (.iconst 1, 1) := by decide +kernel
theorem dX12_readItem_221 : decode bX12_readItem 221 = .ok (.iaload, 1) := by decide +kernel
theorem dX12_readItem_222 : decode bX12_readItem 222 = .ok (.iadd, 1) := by decide +kernel
theorem dX12_readItem_223 : decode bX12_readItem 223 = .ok (.aload_n 0, 1) := by decide +kernel
theorem dX12_readItem_224 : decode bX12_readItem 224 = .ok (.getfield 32, 3) := by decide +kernel
theorem dX12_readItem_227 : decode bX12_readItem 227 = .ok (.iconst 0, 1) := by decide +kernel
theorem dX12_readItem_228 : decode bX12_readItem 228 = .ok (.iaload, 1) := by decide +kernel
theorem dX12_readItem_229 : decode bX12_readItem 229 = .ok (.iastore, 1) := by decide +kernel
theorem dX12_readItem_230 : decode bX12_readItem 230 = .ok (.aload_n 0, 1) := by decide +kernel
theorem dX12_readItem_231 : decode bX12_readItem 231 = .ok (.getfield 17, 3) := by decide +kernel
theorem dX12_readItem_234 : decode bX12_readItem 234 = .ok (.iconst 1, 1) := by decide +kernel
theorem dX12_readItem_235 : decode bX12_readItem 235 = .ok (.dup2, 1) := by decide +kernel
theorem dX12_readItem_236 : decode bX12_readItem 236 = .ok (.iaload, 1) := by decide +kernel
theorem dX12_readItem_237 : decode bX12_readItem 237 = .ok (.iconst 1, 1) := by decide +kernel
theorem dX12_readItem_238 : decode bX12_readItem 238 = .ok (.iadd, 1) := by decide +kernel
theorem dX12_readItem_239 : decode bX12_readItem 239 = .ok (.iastore, 1) := by decide +kernel
theorem dX12_readItem_240 : decode bX12_readItem 240 = .ok (.iconst 1, 1) := by decide +kernel
theorem dX12_readItem_241 : decode bX12_readItem 241 = .ok (.ireturn, 1) := by decide +kernel
theorem dX12_readItem_242 : decode bX12_readItem 242 = .ok (.aload_n 0, 1) := by decide +kernel
theorem dX12_readItem_243 : decode bX12_readItem 243 = .ok (.iconst 2, 1) := by decide +kernel
theorem dX12_readItem_244 : decode bX12_readItem 244 = .ok (.invokevirtual 99, 3) := by decide +kernel
theorem dX12_readItem_247 : decode bX12_readItem 247 = .ok (.ifCond .eq 39, 3) := by decide +kernel
theorem dX12_readItem_250 : decode bX12_readItem 250 = .ok (.aload_n 0, 1) := by decide +kernel
theorem dX12_readItem_251 : decode bX12_readItem 251 = .ok (.getfield 32, 3) := by decide +kernel
theorem dX12_readItem_254 : decode bX12_readItem 254 = .ok (.iconst 0, 1) := by decide +kernel
theorem dX12_readItem_255 : decode bX12_readItem 255 = .ok (.iaload, 1) := by decide +kernel
theorem dX12_readItem_256 : decode bX12_readItem 256 = .ok (.i2l, 1) := by decide +kernel
theorem dX12_readItem_257 : decode bX12_readItem 257 = .ok (.lconst 1, 1) := by decide +kernel
theorem dX12_readItem_258 : decode bX12_readItem 258 = .ok (.aload_n 0, 1) := by decide +kernel
theorem dX12_readItem_259 : decode bX12_readItem 259 = .ok (.getfield 17, 3) := by decide +kernel
theorem dX12_readItem_262 : decode bX12_readItem 262 = .ok (.iconst 0, 1) := by decide +kernel
theorem dX12_readItem_263 : decode bX12_readItem 263 = .ok (.iaload, 1) := by decide +kernel
theorem dX12_readItem_264 : decode bX12_readItem 264 = .ok (.i2l, 1) := by decide +kernel
theorem dX12_readItem_265 : decode bX12_readItem 265 = .ok (.invokestatic 75, 3) := by decide +kernel
theorem dX12_readItem_268 : decode bX12_readItem 268 = .ok (.ifCond .eq 18, 3) := by decide +kernel
theorem dX12_readItem_271 : decode bX12_readItem 271 = .ok (.aload_n 0, 1) := by decide +kernel
theorem dX12_readItem_272 : decode bX12_readItem 272 = .ok (.getfield 32, 3) := by decide +kernel
theorem dX12_readItem_275 : decode bX12_readItem 275 = .ok (.iconst 1, 1) := by decide +kernel
theorem dX12_readItem_276 : decode bX12_readItem 276 = .ok (.iaload, 1) := by decide +kernel
theorem dX12_readItem_277 : decode bX12_readItem 277 = .ok (.aload_n 0, 1) := by decide +kernel
theorem dX12_readItem_278 : decode bX12_readItem 278 = .ok (.getfield 17, 3) := by decide +kernel
theorem dX12_readItem_281 : decode bX12_readItem 281 = .ok (.iconst 1, 1) := by decide +kernel
theorem dX12_readItem_282 : decode bX12_readItem 282 = .ok (.iaload, 1) := by decide +kernel
theorem dX12_readItem_283 : decode bX12_readItem 283 = .ok (.if_icmp .lt 5, 3) := by decide +kernel
theorem dX12_readItem_286 : decode bX12_readItem 286 = .ok (.iconst 0, 1) := by decide +kernel
theorem dX12_readItem_287 : decode bX12_readItem 287 = .ok (.ireturn, 1) := by decide +kernel
theorem dX12_readItem_288 : decode bX12_readItem 288 = .ok (.aload_n 0, 1) := by decide +kernel
theorem dX12_readItem_289 : decode bX12_readItem 289 = .ok (.getfield 17, 3) := by decide +kernel
theorem dX12_readItem_292 : decode bX12_readItem 292 = .ok (.bipush 28, 2) := by decide +kernel
theorem dX12_readItem_294 : decode bX12_readItem 294 = .ok (.aload_n 0, 1) := by decide +kernel
theorem dX12_readItem_295 : decode bX12_readItem 295 = .ok (.getfield 32, 3) := by decide +kernel
theorem dX12_readItem_298 : decode bX12_readItem 298 = .ok (.iconst 0, 1) := by decide +kernel
theorem dX12_readItem_299 : decode bX12_readItem 299 = .ok (.iaload, 1) := by decide +kernel
theorem dX12_readItem_300 : decode bX12_readItem 300 = .ok (.iadd, 1) := by decide +kernel
theorem dX12_readItem_301 : decode bX12_readItem 301 = .ok (.aload_n 0, 1) := by decide +kernel
theorem dX12_readItem_302 : decode bX12_readItem 302 = .ok (.getfield 32, 3) := by decide +kernel
theorem dX12_readItem_305 : decode bX12_readItem 305 = .ok (.iconst 1, 1) := by decide +kernel
theorem dX12_readItem_306 : decode bX12_readItem 306 = .ok (.iaload, 1) := by decide +kernel
theorem dX12_readItem_307 : decode bX12_readItem 307 = .ok (.iastore, 1) := by decide +kernel
theorem dX12_readItem_308 : decode bX12_readItem 308 = .ok (.iconst 1, 1) := by decide +kernel
theorem dX12_readItem_309 : decode bX12_readItem 309 = .ok (.ireturn, 1) := by decide +kernel
theorem dX12_readItem_310 : decode bX12_readItem 310 = .ok (.aload_n 0, 1) := by decide +kernel
theorem dX12_readItem_311 : decode bX12_readItem 311 = .ok (.iconst 3, 1) := by decide +kernel
theorem dX12_readItem_312 : decode bX12_readItem 312 = .ok (.invokevirtual 99, 3) := by decide +kernel
theorem dX12_readItem_315 : decode bX12_readItem 315 = .ok (.ifCond .eq 35, 3) := by decide +kernel
theorem dX12_readItem_318 : decode bX12_readItem 318 = .ok (.aload_n 0, 1) := by decide +kernel
theorem dX12_readItem_319 : decode bX12_readItem 319 = .ok (.getfield 32, 3) := by decide +kernel
theorem dX12_readItem_322 : decode bX12_readItem 322 = .ok (.iconst 0, 1) := by decide +kernel
theorem dX12_readItem_323 : decode bX12_readItem 323 = .ok (.iaload, 1) := by decide +kernel
theorem dX12_readItem_324 : decode bX12_readItem 324 = .ok (.iconst 3, 1) := by decide +kernel
theorem dX12_readItem_325 : decode bX12_readItem 325 = .ok (.if_icmp .gt 25, 3) := by decide +kernel
theorem dX12_readItem_328 : decode bX12_readItem 328 = .ok (.aload_n 0, 1) := by decide +kernel
theorem dX12_readItem_329 : decode bX12_readItem 329 = .ok (.getfield 32, 3) := by decide +kernel
theorem dX12_readItem_332 : decode bX12_readItem 332 = .ok (.iconst 1, 1) := by decide +kernel
theorem dX12_readItem_333 : decode bX12_readItem 333 = .ok (.iaload, 1) := by decide +kernel
theorem dX12_readItem_334 : decode bX12_readItem 334 = .ok (.bipush 9, 2) := by decide +kernel
theorem dX12_readItem_336 : decode bX12_readItem 336 = .ok (.if_icmp .gt 14, 3) := by decide +kernel
theorem dX12_readItem_339 : decode bX12_readItem 339 = .ok (.aload_n 0, 1) := by decide +kernel
theorem dX12_readItem_340 : decode bX12_readItem 340 = .ok (.getfield 32, 3) := by decide +kernel
theorem dX12_readItem_343 : decode bX12_readItem 343 = .ok (.iconst 2, 1) := by decide +kernel
theorem dX12_readItem_344 : decode bX12_readItem 344 = .ok (.iaload, 1) := by decide +kernel
theorem dX12_readItem_345 : decode bX12_readItem 345 = .ok (.bipush 9, 2) := by decide +kernel
theorem dX12_readItem_347 : decode bX12_readItem 347 = .ok (.if_icmp .le 5, 3) := by decide +kernel
theorem dX12_readItem_350 : decode bX12_readItem 350 = .ok (.iconst 0, 1) := by decide +kernel
theorem dX12_readItem_351 : decode bX12_readItem 351 = .ok (.ireturn, 1) := by decide +kernel
theorem dX12_readItem_352 : decode bX12_readItem 352 = .ok (.iconst 0, 1) := by decide +kernel
theorem dX12_readItem_353 : decode bX12_readItem 353 = .ok (.istore_n 3, 1) := by decide +kernel
theorem dX12_readItem_354 : decode bX12_readItem 354 = .ok (.iload_n 3, 1) := by decide +kernel
theorem dX12_readItem_355 : decode bX12_readItem 355 = .ok (.iconst 3, 1) := by decide +kernel
theorem dX12_readItem_356 : decode bX12_readItem 356 = .ok (.if_icmp .ge 23, 3) := by decide +kernel
theorem dX12_readItem_359 : decode bX12_readItem 359 = .ok (.aload_n 0, 1) := by decide +kernel
theorem dX12_readItem_360 : decode bX12_readItem 360 = .ok (.getfield 17, 3) := by decide +kernel
theorem dX12_readItem_363 : decode bX12_readItem 363 = .ok (.iconst 2, 1) := by decide +kernel
theorem dX12_readItem_364 : decode bX12_readItem 364 = .ok (.iload_n 3, 1) := by decide +kernel
theorem dX12_readItem_365 : decode bX12_readItem 365 = .ok (.iadd, 1) := by decide +kernel
theorem dX12_readItem_366 : decode bX12_readItem 366 = .ok (.aload_n 0, 1) := by decide +kernel
theorem dX12_readItem_367 : decode bX12_readItem 367 = .ok (.getfield 32, 3) := by decide +kernel
theorem dX12_readItem_370 : decode bX12_readItem 370 = .ok (.iload_n 3, 1) := by decide +kernel
theorem dX12_readItem_371 : decode bX12_readItem 371 = .ok (.iaload, 1) := by decide +kernel
theorem dX12_readItem_372 : decode bX12_readItem 372 = .ok (.iastore, 1) := by decide +kernel
theorem dX12_readItem_373 : decode bX12_readItem 373 = .ok (.iinc 3 1, 3) := by decide +kernel
theorem dX12_readItem_376 : decode bX12_readItem 376 = .ok (.goto (-22), 3) := by decide +kernel
theorem dX12_readItem_379 : decode bX12_readItem 379 = .ok (.iconst 1, 1) := by decide +kernel
theorem dX12_readItem_380 : decode bX12_readItem 380 = .ok (.ireturn, 1) := by decide +kernel
theorem dX12_readItem_381 : decode bX12_readItem 381 = .ok (.iconst 0, 1) := by decide +kernel
theorem dX12_readItem_382 : decode bX12_readItem 382 = .ok (.ireturn, 1) := by decide +kernel
section
variable {p : Program} {l : Launch} {e : Env} {s : State} {m : MethodId} {args : Array Value} {below : List Frame} {meth : Method} {c : Code} {G : GG} {n : Nat} {h' : Hp} {rv : Int32}
set_option maxHeartbeats 4000000
set_option maxRecDepth 100000
theorem j_X12_readItem_354 (C0 : Cx p s m args meth c G bX12_readItem RX12 4 (some .boolean) "readItem") (hN : NT ≤ n) : ∀ (fu : Nat), ∀ {H : Heap} {locs : List Loc} {ls : Array Slot} {h : Hp} {x0 : Nat} {x3 : Int32}, XW G n h s 0 H locs → lv_has ls 4 [(0, .ref (bs G + x0)), (3, .int x3)] → kd x0 = 12 → f_X12_readItem_354 fu h x0 x3 = some (rv, h') → W p l e (rmC 3 0 0) s m args below meth c H locs 0 0 (MQ below (QP G n h' (some (.int rv))) args s 0 0 (Ab G)) (F0 m 354 ls []) := by
  obtain ⟨hx, hb, hr, hml, hown, hts, hK, hlocks, hnm⟩ := id C0
  intro fu
  induction fu with
  | zero => intro H locs ls h x0 x3 X hl o0 hf; cases hf
  | succ fu ih =>
    intro H locs ls h x0 x3 X hl o0 hf
    rw [f_X12_readItem_354] at hf
    refine lv_iload_n hx hb dX12_readItem_354 rfl (lv_at hl 1 rfl) ?_
    refine lv_iconst (v := (3 : Int32)) hx hb dX12_readItem_355 (by decide) ?_
    refine lv_icmp_ge (tgt := 379) hx hb dX12_readItem_356 (by decide) (fun c356 => ?_) (fun c356 => ?_)
    · have hf := ite_t hf c356
      refine lv_iconst (v := (1 : Int32)) hx hb dX12_readItem_379 (by decide) ?_
      exact r_Z hx hb hr hlocks X rfl hf dX12_readItem_380
    · have hf := ite_f hf c356
      refine lv_aload_n hx hb dX12_readItem_359 rfl (lv_at hl 0 rfl) ?_
      obtain ⟨g1, hf⟩ := gd_e hf
      refine g_R hx hb hts hown hK X o0 hN g1 fl_X12_17 (by decide) rfl (by decide) dX12_readItem_360 ?_
      refine lv_iconst (v := (2 : Int32)) hx hb dX12_readItem_363 (by decide) ?_
      refine lv_iload_n hx hb dX12_readItem_364 rfl (lv_at hl 1 rfl) ?_
      refine lv_iadd hx hb dX12_readItem_365 ?_
      refine lv_aload_n hx hb dX12_readItem_366 rfl (lv_at hl 0 rfl) ?_
      obtain ⟨g2, hf⟩ := gd_e hf
      refine g_R hx hb hts hown hK X o0 hN g2 fl_X12_32 (by decide) rfl (by decide) dX12_readItem_367 ?_
      refine lv_iload_n hx hb dX12_readItem_370 rfl (lv_at hl 1 rfl) ?_
      obtain ⟨g3, hf⟩ := gd_e hf
      refine g_ia hx hb hK X g2 hN g3 (by decide) dX12_readItem_371 ?_
      obtain ⟨g4, hf⟩ := gd_e hf
      refine g_is hx hb hK X g1 hN g4 (by decide) dX12_readItem_372 (fun H locs X => ?_)
      obtain ⟨h5, e6, hf⟩ := lt_e hf
      rw [← e6] at X
      refine lv_iinc (v := (x3 + (1 : Int32))) (lv' := [(3, .int (x3 + (1 : Int32))), (0, .ref (bs G + x0))]) hx hb dX12_readItem_373 hl (k := 1) rfl rfl (by decide) rfl (fun ls hl => ?_)
      refine lv_goto (tgt := 354) hx hb dX12_readItem_376 (by decide) ?_
      exact ih X (lv_sub hl [1, 0] rfl) o0 hf
theorem k_X12_readItem (l : Launch) (G : GG) (n : Nat) (hN : NT ≤ n) {h h' : Hp} {x0 : Nat} {x1 : Int32} {x2 : Int32} {rv : Int32} (hf : f_X12_readItem h x0 x1 x2 = some (rv, h')) : CT l G n n yX12_readItem (.code yX12_readItem bX12_readItem 4 (some .boolean)) 3 0 0 [.ref (bs G + x0), .int x1, .int x2] h h' (some (.int rv)) := by
  refine ct_of (maxL := 4) (ret := (some .boolean)) (bytes := bX12_readItem) (by decide) (Nat.le_of_ble_eq_true rfl) (fun p e s m below meth c C0 X ls hl => ?_)
  have hl : lv_has ls 4 [(0, .ref (bs G + x0)), (1, .int x1), (2, .int x2)] := hl
  obtain ⟨hx, hb, hr, hml, hown, hts, hK, hlocks, hnm⟩ := id C0
  unfold f_X12_readItem at hf
  obtain ⟨o0, hf⟩ := gd_e hf
  refine lv_iload_n hx hb dX12_readItem_0 rfl (lv_at hl 1 rfl) ?_
  by_cases s1_0 : x1 = (99 : Int32)
  · have hf := ite_t hf s1_0
    refine sw_in (k := (99 : Int32)) (off := 116) (tgt := 117) hx hb dX12_readItem_1 s1_0 (by decide) (by decide) (by decide) (by decide) ?_
    refine lv_aload_n hx hb dX12_readItem_117 rfl (lv_at hl 0 rfl) ?_
    refine lv_iconst (v := (2 : Int32)) hx hb dX12_readItem_118 (by decide) ?_
    obtain ⟨r1, h2, q3, hf⟩ := bd_e hf
    refine c_V0 (As := [.int (2 : Int32)]) (rest := []) (st1 := [.int r1]) hx hb hml hown hts hK X (k_X12_areNumbers l G n hN q3) o0 hN lc_X12_areNumbers lv_X12_99 (ci := 12) rfl rfl (by decide) rfl hl.1 (Nat.le_of_ble_eq_true rfl) dX12_readItem_119 rfl (fun H locs X => ?_)
    refine lv_if_eq (tgt := 157) hx hb dX12_readItem_122 (by decide) (fun c122 => ?_) (fun c122 => ?_)
    · have hf := ite_t hf c122
      refine lv_iconst (v := (0 : Int32)) hx hb dX12_readItem_157 (by decide) ?_
      exact r_Z hx hb hr hlocks X rfl hf dX12_readItem_158
    · have hf := ite_f hf c122
      refine lv_aload_n hx hb dX12_readItem_125 rfl (lv_at hl 0 rfl) ?_
      obtain ⟨g4, hf⟩ := gd_e hf
      refine g_R hx hb hts hown hK X o0 hN g4 fl_X12_32 (by decide) rfl (by decide) dX12_readItem_126 ?_
      refine lv_iconst (v := (0 : Int32)) hx hb dX12_readItem_129 (by decide) ?_
      obtain ⟨g5, hf⟩ := gd_e hf
      refine g_ia hx hb hK X g4 hN g5 (by decide) dX12_readItem_130 ?_
      refine lv_i2l hx hb dX12_readItem_131 rfl ?_
      refine lv_lconst (v := 1) hx hb dX12_readItem_132 (by decide) ?_
      refine lv_aload_n hx hb dX12_readItem_133 rfl (lv_at hl 0 rfl) ?_
      obtain ⟨g6, hf⟩ := gd_e hf
      refine g_R hx hb hts hown hK X o0 hN g6 fl_X12_17 (by decide) rfl (by decide) dX12_readItem_134 ?_
      refine lv_iconst (v := (0 : Int32)) hx hb dX12_readItem_137 (by decide) ?_
      obtain ⟨g7, hf⟩ := gd_e hf
      refine g_ia hx hb hK X g6 hN g7 (by decide) dX12_readItem_138 ?_
      refine lv_i2l hx hb dX12_readItem_139 rfl ?_
      obtain ⟨r8, h9, q10, hf⟩ := bd_e hf
      refine c_S0 (As := [.long (h2.1 (h2.2 x0 11) (0 : Int32).toNatClampNeg).toInt64, .long (1 : Int64), .long (h2.1 (h2.2 x0 2) (0 : Int32).toNatClampNeg).toInt64]) (rest := []) (st1 := [.int r8]) hx hb hml hown hts hK X (k_X12_in l G n hN q10) lc_X12_in ls_X12_75 (by decide) rfl hl.1 (Nat.le_of_ble_eq_true rfl) dX12_readItem_140 rfl (fun H locs X => ?_)
      refine lv_if_eq (tgt := 157) hx hb dX12_readItem_143 (by decide) (fun c143 => ?_) (fun c143 => ?_)
      · have hf := ite_t hf c143
        refine lv_iconst (v := (0 : Int32)) hx hb dX12_readItem_157 (by decide) ?_
        exact r_Z hx hb hr hlocks X rfl hf dX12_readItem_158
      · have hf := ite_f hf c143
        refine lv_aload_n hx hb dX12_readItem_146 rfl (lv_at hl 0 rfl) ?_
        obtain ⟨g11, hf⟩ := gd_e hf
        refine g_R hx hb hts hown hK X o0 hN g11 fl_X12_32 (by decide) rfl (by decide) dX12_readItem_147 ?_
        refine lv_iconst (v := (1 : Int32)) hx hb dX12_readItem_150 (by decide) ?_
        obtain ⟨g12, hf⟩ := gd_e hf
        refine g_ia hx hb hK X g11 hN g12 (by decide) dX12_readItem_151 ?_
        refine lv_bipush (v := (9 : Int32)) hx hb dX12_readItem_152 (by decide) ?_
        refine lv_icmp_le (tgt := 159) hx hb dX12_readItem_154 (by decide) (fun c154 => ?_) (fun c154 => ?_)
        · have hf := ite_t hf c154
          refine lv_aload_n hx hb dX12_readItem_159 rfl (lv_at hl 0 rfl) ?_
          obtain ⟨g13, hf⟩ := gd_e hf
          refine g_R hx hb hts hown hK X o0 hN g13 fl_X12_17 (by decide) rfl (by decide) dX12_readItem_160 ?_
          refine lv_iconst (v := (4 : Int32)) hx hb dX12_readItem_163 (by decide) ?_
          refine lv_aload_n hx hb dX12_readItem_164 rfl (lv_at hl 0 rfl) ?_
          obtain ⟨g14, hf⟩ := gd_e hf
          refine g_R hx hb hts hown hK X o0 hN g14 fl_X12_32 (by decide) rfl (by decide) dX12_readItem_165 ?_
          refine lv_iconst (v := (0 : Int32)) hx hb dX12_readItem_168 (by decide) ?_
          obtain ⟨g15, hf⟩ := gd_e hf
          refine g_ia hx hb hK X g14 hN g15 (by decide) dX12_readItem_169 ?_
          refine lv_iadd hx hb dX12_readItem_170 ?_
          refine lv_aload_n hx hb dX12_readItem_171 rfl (lv_at hl 0 rfl) ?_
          obtain ⟨g16, hf⟩ := gd_e hf
          refine g_R hx hb hts hown hK X o0 hN g16 fl_X12_32 (by decide) rfl (by decide) dX12_readItem_172 ?_
          refine lv_iconst (v := (1 : Int32)) hx hb dX12_readItem_175 (by decide) ?_
          obtain ⟨g17, hf⟩ := gd_e hf
          refine g_ia hx hb hK X g16 hN g17 (by decide) dX12_readItem_176 ?_
          obtain ⟨g18, hf⟩ := gd_e hf
          refine g_is hx hb hK X g13 hN g18 (by decide) dX12_readItem_177 (fun H locs X => ?_)
          obtain ⟨h19, e20, hf⟩ := lt_e hf
          rw [← e20] at X
          refine lv_iconst (v := (1 : Int32)) hx hb dX12_readItem_178 (by decide) ?_
          exact r_Z hx hb hr hlocks X rfl hf dX12_readItem_179
        · have hf := ite_f hf c154
          refine lv_iconst (v := (0 : Int32)) hx hb dX12_readItem_157 (by decide) ?_
          exact r_Z hx hb hr hlocks X rfl hf dX12_readItem_158
  have hf := ite_f hf s1_0
  by_cases s1_1 : x1 = (104 : Int32)
  · have hf := ite_t hf s1_1
    refine sw_in (k := (104 : Int32)) (off := 241) (tgt := 242) hx hb dX12_readItem_1 s1_1 (by decide) (by decide) (by decide) (by decide) ?_
    refine lv_aload_n hx hb dX12_readItem_242 rfl (lv_at hl 0 rfl) ?_
    refine lv_iconst (v := (2 : Int32)) hx hb dX12_readItem_243 (by decide) ?_
    obtain ⟨r21, h22, q23, hf⟩ := bd_e hf
    refine c_V0 (As := [.int (2 : Int32)]) (rest := []) (st1 := [.int r21]) hx hb hml hown hts hK X (k_X12_areNumbers l G n hN q23) o0 hN lc_X12_areNumbers lv_X12_99 (ci := 12) rfl rfl (by decide) rfl hl.1 (Nat.le_of_ble_eq_true rfl) dX12_readItem_244 rfl (fun H locs X => ?_)
    refine lv_if_eq (tgt := 286) hx hb dX12_readItem_247 (by decide) (fun c247 => ?_) (fun c247 => ?_)
    · have hf := ite_t hf c247
      refine lv_iconst (v := (0 : Int32)) hx hb dX12_readItem_286 (by decide) ?_
      exact r_Z hx hb hr hlocks X rfl hf dX12_readItem_287
    · have hf := ite_f hf c247
      refine lv_aload_n hx hb dX12_readItem_250 rfl (lv_at hl 0 rfl) ?_
      obtain ⟨g24, hf⟩ := gd_e hf
      refine g_R hx hb hts hown hK X o0 hN g24 fl_X12_32 (by decide) rfl (by decide) dX12_readItem_251 ?_
      refine lv_iconst (v := (0 : Int32)) hx hb dX12_readItem_254 (by decide) ?_
      obtain ⟨g25, hf⟩ := gd_e hf
      refine g_ia hx hb hK X g24 hN g25 (by decide) dX12_readItem_255 ?_
      refine lv_i2l hx hb dX12_readItem_256 rfl ?_
      refine lv_lconst (v := 1) hx hb dX12_readItem_257 (by decide) ?_
      refine lv_aload_n hx hb dX12_readItem_258 rfl (lv_at hl 0 rfl) ?_
      obtain ⟨g26, hf⟩ := gd_e hf
      refine g_R hx hb hts hown hK X o0 hN g26 fl_X12_17 (by decide) rfl (by decide) dX12_readItem_259 ?_
      refine lv_iconst (v := (0 : Int32)) hx hb dX12_readItem_262 (by decide) ?_
      obtain ⟨g27, hf⟩ := gd_e hf
      refine g_ia hx hb hK X g26 hN g27 (by decide) dX12_readItem_263 ?_
      refine lv_i2l hx hb dX12_readItem_264 rfl ?_
      obtain ⟨r28, h29, q30, hf⟩ := bd_e hf
      refine c_S0 (As := [.long (h22.1 (h22.2 x0 11) (0 : Int32).toNatClampNeg).toInt64, .long (1 : Int64), .long (h22.1 (h22.2 x0 2) (0 : Int32).toNatClampNeg).toInt64]) (rest := []) (st1 := [.int r28]) hx hb hml hown hts hK X (k_X12_in l G n hN q30) lc_X12_in ls_X12_75 (by decide) rfl hl.1 (Nat.le_of_ble_eq_true rfl) dX12_readItem_265 rfl (fun H locs X => ?_)
      refine lv_if_eq (tgt := 286) hx hb dX12_readItem_268 (by decide) (fun c268 => ?_) (fun c268 => ?_)
      · have hf := ite_t hf c268
        refine lv_iconst (v := (0 : Int32)) hx hb dX12_readItem_286 (by decide) ?_
        exact r_Z hx hb hr hlocks X rfl hf dX12_readItem_287
      · have hf := ite_f hf c268
        refine lv_aload_n hx hb dX12_readItem_271 rfl (lv_at hl 0 rfl) ?_
        obtain ⟨g31, hf⟩ := gd_e hf
        refine g_R hx hb hts hown hK X o0 hN g31 fl_X12_32 (by decide) rfl (by decide) dX12_readItem_272 ?_
        refine lv_iconst (v := (1 : Int32)) hx hb dX12_readItem_275 (by decide) ?_
        obtain ⟨g32, hf⟩ := gd_e hf
        refine g_ia hx hb hK X g31 hN g32 (by decide) dX12_readItem_276 ?_
        refine lv_aload_n hx hb dX12_readItem_277 rfl (lv_at hl 0 rfl) ?_
        obtain ⟨g33, hf⟩ := gd_e hf
        refine g_R hx hb hts hown hK X o0 hN g33 fl_X12_17 (by decide) rfl (by decide) dX12_readItem_278 ?_
        refine lv_iconst (v := (1 : Int32)) hx hb dX12_readItem_281 (by decide) ?_
        obtain ⟨g34, hf⟩ := gd_e hf
        refine g_ia hx hb hK X g33 hN g34 (by decide) dX12_readItem_282 ?_
        refine lv_icmp_lt (tgt := 288) hx hb dX12_readItem_283 (by decide) (fun c283 => ?_) (fun c283 => ?_)
        · have hf := ite_t hf c283
          refine lv_aload_n hx hb dX12_readItem_288 rfl (lv_at hl 0 rfl) ?_
          obtain ⟨g35, hf⟩ := gd_e hf
          refine g_R hx hb hts hown hK X o0 hN g35 fl_X12_17 (by decide) rfl (by decide) dX12_readItem_289 ?_
          refine lv_bipush (v := (28 : Int32)) hx hb dX12_readItem_292 (by decide) ?_
          refine lv_aload_n hx hb dX12_readItem_294 rfl (lv_at hl 0 rfl) ?_
          obtain ⟨g36, hf⟩ := gd_e hf
          refine g_R hx hb hts hown hK X o0 hN g36 fl_X12_32 (by decide) rfl (by decide) dX12_readItem_295 ?_
          refine lv_iconst (v := (0 : Int32)) hx hb dX12_readItem_298 (by decide) ?_
          obtain ⟨g37, hf⟩ := gd_e hf
          refine g_ia hx hb hK X g36 hN g37 (by decide) dX12_readItem_299 ?_
          refine lv_iadd hx hb dX12_readItem_300 ?_
          refine lv_aload_n hx hb dX12_readItem_301 rfl (lv_at hl 0 rfl) ?_
          obtain ⟨g38, hf⟩ := gd_e hf
          refine g_R hx hb hts hown hK X o0 hN g38 fl_X12_32 (by decide) rfl (by decide) dX12_readItem_302 ?_
          refine lv_iconst (v := (1 : Int32)) hx hb dX12_readItem_305 (by decide) ?_
          obtain ⟨g39, hf⟩ := gd_e hf
          refine g_ia hx hb hK X g38 hN g39 (by decide) dX12_readItem_306 ?_
          obtain ⟨g40, hf⟩ := gd_e hf
          refine g_is hx hb hK X g35 hN g40 (by decide) dX12_readItem_307 (fun H locs X => ?_)
          obtain ⟨h41, e42, hf⟩ := lt_e hf
          rw [← e42] at X
          refine lv_iconst (v := (1 : Int32)) hx hb dX12_readItem_308 (by decide) ?_
          exact r_Z hx hb hr hlocks X rfl hf dX12_readItem_309
        · have hf := ite_f hf c283
          refine lv_iconst (v := (0 : Int32)) hx hb dX12_readItem_286 (by decide) ?_
          exact r_Z hx hb hr hlocks X rfl hf dX12_readItem_287
  have hf := ite_f hf s1_1
  by_cases s1_2 : x1 = (107 : Int32)
  · have hf := ite_t hf s1_2
    refine sw_in (k := (107 : Int32)) (off := 309) (tgt := 310) hx hb dX12_readItem_1 s1_2 (by decide) (by decide) (by decide) (by decide) ?_
    refine lv_aload_n hx hb dX12_readItem_310 rfl (lv_at hl 0 rfl) ?_
    refine lv_iconst (v := (3 : Int32)) hx hb dX12_readItem_311 (by decide) ?_
    obtain ⟨r43, h44, q45, hf⟩ := bd_e hf
    refine c_V0 (As := [.int (3 : Int32)]) (rest := []) (st1 := [.int r43]) hx hb hml hown hts hK X (k_X12_areNumbers l G n hN q45) o0 hN lc_X12_areNumbers lv_X12_99 (ci := 12) rfl rfl (by decide) rfl hl.1 (Nat.le_of_ble_eq_true rfl) dX12_readItem_312 rfl (fun H locs X => ?_)
    refine lv_if_eq (tgt := 350) hx hb dX12_readItem_315 (by decide) (fun c315 => ?_) (fun c315 => ?_)
    · have hf := ite_t hf c315
      refine lv_iconst (v := (0 : Int32)) hx hb dX12_readItem_350 (by decide) ?_
      exact r_Z hx hb hr hlocks X rfl hf dX12_readItem_351
    · have hf := ite_f hf c315
      refine lv_aload_n hx hb dX12_readItem_318 rfl (lv_at hl 0 rfl) ?_
      obtain ⟨g46, hf⟩ := gd_e hf
      refine g_R hx hb hts hown hK X o0 hN g46 fl_X12_32 (by decide) rfl (by decide) dX12_readItem_319 ?_
      refine lv_iconst (v := (0 : Int32)) hx hb dX12_readItem_322 (by decide) ?_
      obtain ⟨g47, hf⟩ := gd_e hf
      refine g_ia hx hb hK X g46 hN g47 (by decide) dX12_readItem_323 ?_
      refine lv_iconst (v := (3 : Int32)) hx hb dX12_readItem_324 (by decide) ?_
      refine lv_icmp_gt (tgt := 350) hx hb dX12_readItem_325 (by decide) (fun c325 => ?_) (fun c325 => ?_)
      · have hf := ite_t hf c325
        refine lv_iconst (v := (0 : Int32)) hx hb dX12_readItem_350 (by decide) ?_
        exact r_Z hx hb hr hlocks X rfl hf dX12_readItem_351
      · have hf := ite_f hf c325
        refine lv_aload_n hx hb dX12_readItem_328 rfl (lv_at hl 0 rfl) ?_
        obtain ⟨g48, hf⟩ := gd_e hf
        refine g_R hx hb hts hown hK X o0 hN g48 fl_X12_32 (by decide) rfl (by decide) dX12_readItem_329 ?_
        refine lv_iconst (v := (1 : Int32)) hx hb dX12_readItem_332 (by decide) ?_
        obtain ⟨g49, hf⟩ := gd_e hf
        refine g_ia hx hb hK X g48 hN g49 (by decide) dX12_readItem_333 ?_
        refine lv_bipush (v := (9 : Int32)) hx hb dX12_readItem_334 (by decide) ?_
        refine lv_icmp_gt (tgt := 350) hx hb dX12_readItem_336 (by decide) (fun c336 => ?_) (fun c336 => ?_)
        · have hf := ite_t hf c336
          refine lv_iconst (v := (0 : Int32)) hx hb dX12_readItem_350 (by decide) ?_
          exact r_Z hx hb hr hlocks X rfl hf dX12_readItem_351
        · have hf := ite_f hf c336
          refine lv_aload_n hx hb dX12_readItem_339 rfl (lv_at hl 0 rfl) ?_
          obtain ⟨g50, hf⟩ := gd_e hf
          refine g_R hx hb hts hown hK X o0 hN g50 fl_X12_32 (by decide) rfl (by decide) dX12_readItem_340 ?_
          refine lv_iconst (v := (2 : Int32)) hx hb dX12_readItem_343 (by decide) ?_
          obtain ⟨g51, hf⟩ := gd_e hf
          refine g_ia hx hb hK X g50 hN g51 (by decide) dX12_readItem_344 ?_
          refine lv_bipush (v := (9 : Int32)) hx hb dX12_readItem_345 (by decide) ?_
          refine lv_icmp_le (tgt := 352) hx hb dX12_readItem_347 (by decide) (fun c347 => ?_) (fun c347 => ?_)
          · have hf := ite_t hf c347
            refine lv_iconst (v := (0 : Int32)) hx hb dX12_readItem_352 (by decide) ?_
            refine lv_istore_n (lv' := [(3, .int (0 : Int32)), (0, .ref (bs G + x0)), (1, .int x1), (2, .int x2)]) hx hb dX12_readItem_353 rfl hl (by decide) rfl (fun ls hl => ?_)
            exact j_X12_readItem_354 C0 hN FU X (lv_sub hl [1, 0] rfl) o0 hf
          · have hf := ite_f hf c347
            refine lv_iconst (v := (0 : Int32)) hx hb dX12_readItem_350 (by decide) ?_
            exact r_Z hx hb hr hlocks X rfl hf dX12_readItem_351
  have hf := ite_f hf s1_2
  by_cases s1_3 : x1 = (110 : Int32)
  · have hf := ite_t hf s1_3
    refine sw_in (k := (110 : Int32)) (off := 71) (tgt := 72) hx hb dX12_readItem_1 s1_3 (by decide) (by decide) (by decide) (by decide) ?_
    refine lv_iload_n hx hb dX12_readItem_72 rfl (lv_at hl 2 rfl) ?_
    refine lv_if_eq (tgt := 101) hx hb dX12_readItem_73 (by decide) (fun c73 => ?_) (fun c73 => ?_)
    · have hf := ite_t hf c73
      refine lv_iconst (v := (0 : Int32)) hx hb dX12_readItem_101 (by decide) ?_
      exact r_Z hx hb hr hlocks X rfl hf dX12_readItem_102
    · have hf := ite_f hf c73
      refine lv_aload_n hx hb dX12_readItem_76 rfl (lv_at hl 0 rfl) ?_
      refine lv_iconst (v := (1 : Int32)) hx hb dX12_readItem_77 (by decide) ?_
      obtain ⟨r52, h53, q54, hf⟩ := bd_e hf
      refine c_V0 (As := [.int (1 : Int32)]) (rest := []) (st1 := [.int r52]) hx hb hml hown hts hK X (k_X12_areNumbers l G n hN q54) o0 hN lc_X12_areNumbers lv_X12_99 (ci := 12) rfl rfl (by decide) rfl hl.1 (Nat.le_of_ble_eq_true rfl) dX12_readItem_78 rfl (fun H locs X => ?_)
      refine lv_if_eq (tgt := 101) hx hb dX12_readItem_81 (by decide) (fun c81 => ?_) (fun c81 => ?_)
      · have hf := ite_t hf c81
        refine lv_iconst (v := (0 : Int32)) hx hb dX12_readItem_101 (by decide) ?_
        exact r_Z hx hb hr hlocks X rfl hf dX12_readItem_102
      · have hf := ite_f hf c81
        refine lv_aload_n hx hb dX12_readItem_84 rfl (lv_at hl 0 rfl) ?_
        obtain ⟨g55, hf⟩ := gd_e hf
        refine g_R hx hb hts hown hK X o0 hN g55 fl_X12_32 (by decide) rfl (by decide) dX12_readItem_85 ?_
        refine lv_iconst (v := (0 : Int32)) hx hb dX12_readItem_88 (by decide) ?_
        obtain ⟨g56, hf⟩ := gd_e hf
        refine g_ia hx hb hK X g55 hN g56 (by decide) dX12_readItem_89 ?_
        refine lv_i2l hx hb dX12_readItem_90 rfl ?_
        refine lv_lconst (v := 1) hx hb dX12_readItem_91 (by decide) ?_
        refine lv_ldc2 hx hb hown (hts _ cn_X12_103) dX12_readItem_92 ?_
        obtain ⟨r57, h58, q59, hf⟩ := bd_e hf
        refine c_S0 (As := [.long (h53.1 (h53.2 x0 11) (0 : Int32).toNatClampNeg).toInt64, .long (1 : Int64), .long (24 : Int64)]) (rest := []) (st1 := [.int r57]) hx hb hml hown hts hK X (k_X12_in l G n hN q59) lc_X12_in ls_X12_75 (by decide) rfl hl.1 (Nat.le_of_ble_eq_true rfl) dX12_readItem_95 rfl (fun H locs X => ?_)
        refine lv_if_ne (tgt := 103) hx hb dX12_readItem_98 (by decide) (fun c98 => ?_) (fun c98 => ?_)
        · have hf := ite_f hf c98
          refine lv_aload_n hx hb dX12_readItem_103 rfl (lv_at hl 0 rfl) ?_
          obtain ⟨g60, hf⟩ := gd_e hf
          refine g_R hx hb hts hown hK X o0 hN g60 fl_X12_17 (by decide) rfl (by decide) dX12_readItem_104 ?_
          refine lv_iconst (v := (0 : Int32)) hx hb dX12_readItem_107 (by decide) ?_
          refine lv_aload_n hx hb dX12_readItem_108 rfl (lv_at hl 0 rfl) ?_
          obtain ⟨g61, hf⟩ := gd_e hf
          refine g_R hx hb hts hown hK X o0 hN g61 fl_X12_32 (by decide) rfl (by decide) dX12_readItem_109 ?_
          refine lv_iconst (v := (0 : Int32)) hx hb dX12_readItem_112 (by decide) ?_
          obtain ⟨g62, hf⟩ := gd_e hf
          refine g_ia hx hb hK X g61 hN g62 (by decide) dX12_readItem_113 ?_
          obtain ⟨g63, hf⟩ := gd_e hf
          refine g_is hx hb hK X g60 hN g63 (by decide) dX12_readItem_114 (fun H locs X => ?_)
          obtain ⟨h64, e65, hf⟩ := lt_e hf
          rw [← e65] at X
          refine lv_iconst (v := (1 : Int32)) hx hb dX12_readItem_115 (by decide) ?_
          exact r_Z hx hb hr hlocks X rfl hf dX12_readItem_116
        · have hf := ite_t hf c98
          refine lv_iconst (v := (0 : Int32)) hx hb dX12_readItem_101 (by decide) ?_
          exact r_Z hx hb hr hlocks X rfl hf dX12_readItem_102
  have hf := ite_f hf s1_3
  by_cases s1_4 : x1 = (112 : Int32)
  · have hf := ite_t hf s1_4
    refine sw_in (k := (112 : Int32)) (off := 179) (tgt := 180) hx hb dX12_readItem_1 s1_4 (by decide) (by decide) (by decide) (by decide) ?_
    refine lv_aload_n hx hb dX12_readItem_180 rfl (lv_at hl 0 rfl) ?_
    obtain ⟨g66, hf⟩ := gd_e hf
    refine g_R hx hb hts hown hK X o0 hN g66 fl_X12_17 (by decide) rfl (by decide) dX12_readItem_181 ?_
    refine lv_iconst (v := (1 : Int32)) hx hb dX12_readItem_184 (by decide) ?_
    obtain ⟨g67, hf⟩ := gd_e hf
    refine g_ia hx hb hK X g66 hN g67 (by decide) dX12_readItem_185 ?_
    refine lv_bipush (v := (6 : Int32)) hx hb dX12_readItem_186 (by decide) ?_
    refine lv_icmp_eq (tgt := 208) hx hb dX12_readItem_188 (by decide) (fun c188 => ?_) (fun c188 => ?_)
    · have hf := ite_t hf c188
      refine lv_iconst (v := (0 : Int32)) hx hb dX12_readItem_208 (by decide) ?_
      exact r_Z hx hb hr hlocks X rfl hf dX12_readItem_209
    · have hf := ite_f hf c188
      refine lv_aload_n hx hb dX12_readItem_191 rfl (lv_at hl 0 rfl) ?_
      refine lv_iconst (v := (1 : Int32)) hx hb dX12_readItem_192 (by decide) ?_
      obtain ⟨r68, h69, q70, hf⟩ := bd_e hf
      refine c_V0 (As := [.int (1 : Int32)]) (rest := []) (st1 := [.int r68]) hx hb hml hown hts hK X (k_X12_areNumbers l G n hN q70) o0 hN lc_X12_areNumbers lv_X12_99 (ci := 12) rfl rfl (by decide) rfl hl.1 (Nat.le_of_ble_eq_true rfl) dX12_readItem_193 rfl (fun H locs X => ?_)
      refine lv_if_eq (tgt := 208) hx hb dX12_readItem_196 (by decide) (fun c196 => ?_) (fun c196 => ?_)
      · have hf := ite_t hf c196
        refine lv_iconst (v := (0 : Int32)) hx hb dX12_readItem_208 (by decide) ?_
        exact r_Z hx hb hr hlocks X rfl hf dX12_readItem_209
      · have hf := ite_f hf c196
        refine lv_aload_n hx hb dX12_readItem_199 rfl (lv_at hl 0 rfl) ?_
        obtain ⟨g71, hf⟩ := gd_e hf
        refine g_R hx hb hts hown hK X o0 hN g71 fl_X12_32 (by decide) rfl (by decide) dX12_readItem_200 ?_
        refine lv_iconst (v := (0 : Int32)) hx hb dX12_readItem_203 (by decide) ?_
        obtain ⟨g72, hf⟩ := gd_e hf
        refine g_ia hx hb hK X g71 hN g72 (by decide) dX12_readItem_204 ?_
        refine lv_if_ne (tgt := 210) hx hb dX12_readItem_205 (by decide) (fun c205 => ?_) (fun c205 => ?_)
        · have hf := ite_f hf c205
          refine lv_aload_n hx hb dX12_readItem_210 rfl (lv_at hl 0 rfl) ?_
          obtain ⟨g73, hf⟩ := gd_e hf
          refine g_R hx hb hts hown hK X o0 hN g73 fl_X12_17 (by decide) rfl (by decide) dX12_readItem_211 ?_
          refine lv_bipush (v := (53 : Int32)) hx hb dX12_readItem_214 (by decide) ?_
          refine lv_aload_n hx hb dX12_readItem_216 rfl (lv_at hl 0 rfl) ?_
          obtain ⟨g74, hf⟩ := gd_e hf
          refine g_R hx hb hts hown hK X o0 hN g74 fl_X12_17 (by decide) rfl (by decide) dX12_readItem_217 ?_
          refine lv_iconst (v := (1 : Int32)) hx hb dX12_readItem_220 (by decide) ?_
          obtain ⟨g75, hf⟩ := gd_e hf
          refine g_ia hx hb hK X g74 hN g75 (by decide) dX12_readItem_221 ?_
          refine lv_iadd hx hb dX12_readItem_222 ?_
          refine lv_aload_n hx hb dX12_readItem_223 rfl (lv_at hl 0 rfl) ?_
          obtain ⟨g76, hf⟩ := gd_e hf
          refine g_R hx hb hts hown hK X o0 hN g76 fl_X12_32 (by decide) rfl (by decide) dX12_readItem_224 ?_
          refine lv_iconst (v := (0 : Int32)) hx hb dX12_readItem_227 (by decide) ?_
          obtain ⟨g77, hf⟩ := gd_e hf
          refine g_ia hx hb hK X g76 hN g77 (by decide) dX12_readItem_228 ?_
          obtain ⟨g78, hf⟩ := gd_e hf
          refine g_is hx hb hK X g73 hN g78 (by decide) dX12_readItem_229 (fun H locs X => ?_)
          obtain ⟨h79, e80, hf⟩ := lt_e hf
          rw [← e80] at X
          refine lv_aload_n hx hb dX12_readItem_230 rfl (lv_at hl 0 rfl) ?_
          obtain ⟨g81, hf⟩ := gd_e hf
          refine g_R hx hb hts hown hK X o0 hN g81 fl_X12_17 (by decide) rfl (by decide) dX12_readItem_231 ?_
          refine lv_iconst (v := (1 : Int32)) hx hb dX12_readItem_234 (by decide) ?_
          refine lv_dup2_11 hx hb dX12_readItem_235 rfl rfl ?_
          obtain ⟨g82, hf⟩ := gd_e hf
          refine g_ia hx hb hK X g81 hN g82 (by decide) dX12_readItem_236 ?_
          refine lv_iconst (v := (1 : Int32)) hx hb dX12_readItem_237 (by decide) ?_
          refine lv_iadd hx hb dX12_readItem_238 ?_
          obtain ⟨g83, hf⟩ := gd_e hf
          refine g_is hx hb hK X g81 hN g83 (by decide) dX12_readItem_239 (fun H locs X => ?_)
          obtain ⟨h84, e85, hf⟩ := lt_e hf
          rw [← e85] at X
          refine lv_iconst (v := (1 : Int32)) hx hb dX12_readItem_240 (by decide) ?_
          exact r_Z hx hb hr hlocks X rfl hf dX12_readItem_241
        · have hf := ite_t hf c205
          refine lv_iconst (v := (0 : Int32)) hx hb dX12_readItem_208 (by decide) ?_
          exact r_Z hx hb hr hlocks X rfl hf dX12_readItem_209
  have hf := ite_f hf s1_4
  refine sw_df (ex := [(99 : Int32), (104 : Int32), (107 : Int32), (110 : Int32), (112 : Int32)]) (tgt := 381) hx hb dX12_readItem_1 (by decide) (by decide) (List.forall_mem_cons.mpr ⟨s1_0, List.forall_mem_cons.mpr ⟨s1_1, List.forall_mem_cons.mpr ⟨s1_2, List.forall_mem_cons.mpr ⟨s1_3, List.forall_mem_cons.mpr ⟨s1_4, (fun _ hz => absurd hz List.not_mem_nil)⟩⟩⟩⟩⟩) (by decide) ?_
  refine lv_iconst (v := (0 : Int32)) hx hb dX12_readItem_381 (by decide) ?_
  exact r_Z hx hb hr hlocks X rfl hf dX12_readItem_382
end
