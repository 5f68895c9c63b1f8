theorem dX11_dusk_0 : decode bX11_dusk 0 = .ok (.aload_n 0, 1) := by decide +kernel
theorem dX11_dusk_1 : decode bX11_dusk 1 = .ok (.getfield 29, 3) := by decide +kernel
theorem dX11_dusk_4 : decode bX11_dusk 4 = .ok (.invokevirtual 165, 3) := by decide +kernel
theorem dX11_dusk_7 : decode bX11_dusk 7 = .ok (.invokestatic 213, 3) := by decide +kernel
theorem dX11_dusk_10 : decode bX11_dusk 10 = .ok (.istore_n 2, 1) := by decide +kernel
theorem dX11_dusk_11 : decode bX11_dusk 11 = .ok (.aload_n 0, 1) := by decide +kernel
theorem dX11_dusk_12 : decode bX11_dusk 12 = .ok (.getfield 38, 3) := by decide +kernel
theorem dX11_dusk_15 : decode bX11_dusk 15 = .ok (.aload_n 0, 1) := by decide +kernel
theorem dX11_dusk_16 : decode bX11_dusk 16 = .ok (.getfield 29, 3) := by decide +kernel
theorem dX11_dusk_19 : decode bX11_dusk 19 = .ok (.invokevirtual 202, 3) := by decide +kernel
theorem dX11_dusk_22 : decode bX11_dusk 22 = .ok (.aload_n 0, 1) := by decide +kernel
theorem dX11_dusk_23 : decode bX11_dusk 23 = .ok (.getfield 29, 3) := by decide +kernel
theorem dX11_dusk_26 : decode bX11_dusk 26 = .ok (.iload_n 1, 1) := by decide +kernel
theorem dX11_dusk_27 : decode bX11_dusk 27 = .ok (.invokevirtual 119, 3) := by decide +kernel
theorem dX11_dusk_30 : decode bX11_dusk 30 = .ok (.iload_n 2, 1) := by decide +kernel
theorem dX11_dusk_31 : decode bX11_dusk 31 = .ok (.ireturn, 1) := by decide +kernel
section
variable {p : Program} {l : Launch} {e : Env} {s : State} {m : MethodId} {args : Array Value} {below : List Frame} {meth : Method} {c : Code} {G : GG} {n : Nat} {h' : Hp} {rv : Int32}
set_option maxHeartbeats 4000000
set_option maxRecDepth 100000
theorem k_X11_dusk (l : Launch) (G : GG) (n : Nat) (hN : NX ≤ n) {h h' : Hp} {x0 : Nat} {x1 : Int32} {rv : Int32} (hf : f_X11_dusk h x0 x1 = some (rv, h')) : CT l G n n yX11_dusk (.code yX11_dusk bX11_dusk 3 (some .int)) 3 0 0 [.ref (bs G + x0), .int x1] h h' (some (.int rv)) := by
  refine ct_of (maxL := 3) (ret := (some .int)) (bytes := bX11_dusk) (by decide) (Nat.le_of_ble_eq_true rfl) (fun p e s m below meth c C0 X ls hl => ?_)
  have hl : lv_has ls 3 [(0, .ref (bs G + x0)), (1, .int x1)] := hl
  obtain ⟨hx, hb, hr, hml, hown, hts, hK, hlocks, hnm⟩ := id C0
  unfold f_X11_dusk at hf
  obtain ⟨o0, hf⟩ := gd_e hf
  refine lv_aload_n hx hb dX11_dusk_0 rfl (lv_at hl 0 rfl) ?_
  obtain ⟨g1, hf⟩ := gd_e hf
  refine g_R hx hb hts hown hK X o0 hN g1 fl_X11_29 (by decide) rfl (by decide) dX11_dusk_1 ?_
  obtain ⟨r2, h3, q4, hf⟩ := bd_e hf
  refine c_V0 (As := []) (rest := []) (st1 := [.int r2]) hx hb hml hown hts hK X (k_X2_taken l G n hN q4) g1 hN lc_X2_taken lv_X11_165 (ci := 2) rfl rfl (by decide) rfl hl.1 (Nat.le_of_ble_eq_true rfl) dX11_dusk_4 rfl (fun H locs X => ?_)
  obtain ⟨r5, h6, q7, hf⟩ := bd_e hf
  refine c_S0 (As := [.int r2]) (rest := []) (st1 := [.int r5]) hx hb hml hown hts hK X (k_J6_bitCount_0f7a4 l G n hN q7) lc_J6_bitCount_0f7a4 ls_X11_213 (by decide) rfl hl.1 (Nat.le_of_ble_eq_true rfl) dX11_dusk_7 rfl (fun H locs X => ?_)
  refine lv_istore_n (lv' := [(2, .int r5), (0, .ref (bs G + x0)), (1, .int x1)]) hx hb dX11_dusk_10 rfl hl (by decide) rfl (fun ls hl => ?_)
  refine lv_aload_n hx hb dX11_dusk_11 rfl (lv_at hl 1 rfl) ?_
  obtain ⟨g8, hf⟩ := gd_e hf
  refine g_R hx hb hts hown hK X o0 hN g8 fl_X11_38 (by decide) rfl (by decide) dX11_dusk_12 ?_
  refine lv_aload_n hx hb dX11_dusk_15 rfl (lv_at hl 1 rfl) ?_
  obtain ⟨g9, hf⟩ := gd_e hf
  refine g_R hx hb hts hown hK X o0 hN g9 fl_X11_29 (by decide) rfl (by decide) dX11_dusk_16 ?_
  obtain ⟨r10, h11, q12, hf⟩ := bd_e hf
  refine c_V0 (As := [.ref (bs G + (h6.2 x0 3))]) (rest := []) (st1 := []) hx hb hml hown hts hK X (k_X3_push l G n hN q12) g8 hN lc_X3_push lv_X11_202 (ci := 3) rfl rfl (by decide) rfl hl.1 (Nat.le_of_ble_eq_true rfl) dX11_dusk_19 rfl (fun H locs X => ?_)
  refine lv_aload_n hx hb dX11_dusk_22 rfl (lv_at hl 1 rfl) ?_
  obtain ⟨g13, hf⟩ := gd_e hf
  refine g_R hx hb hts hown hK X o0 hN g13 fl_X11_29 (by decide) rfl (by decide) dX11_dusk_23 ?_
  refine lv_iload_n hx hb dX11_dusk_26 rfl (lv_at hl 2 rfl) ?_
  obtain ⟨r14, h15, q16, hf⟩ := bd_e hf
  refine c_V0 (As := [.int x1]) (rest := []) (st1 := []) hx hb hml hown hts hK X (k_X2_begin l G n hN q16) g13 hN lc_X2_begin lv_X11_119 (ci := 2) rfl rfl (by decide) rfl hl.1 (Nat.le_of_ble_eq_true rfl) dX11_dusk_27 rfl (fun H locs X => ?_)
  refine lv_iload_n hx hb dX11_dusk_30 rfl (lv_at hl 0 rfl) ?_
  exact r_I hx hb hr hlocks X hf dX11_dusk_31
end
theorem dX11_undo_0 : decode bX11_undo 0 = .ok (.aload_n 0, 1) := by decide +kernel
theorem dX11_undo_1 : decode bX11_undo 1 = .ok (.getfield 38, 3) := by decide +kernel
theorem dX11_undo_4 : decode bX11_undo 4 = .ok (.aload_n 0, 1) := by decide +kernel
theorem dX11_undo_5 : decode bX11_undo 5 = .ok (.getfield 29, 3) := by decide +kernel
theorem dX11_undo_8 : decode bX11_undo 8 = .ok (.invokevirtual 229, 3) := by decide +kernel
theorem dX11_undo_11 : decode bX11_undo 11 = .ok (.ifCond .eq 13, 3) := by decide +kernel
theorem dX11_undo_14 : decode bX11_undo 14 = .ok (.aload_n 0, 1) := by decide +kernel
theorem dX11_undo_15 : decode bX11_undo 15 = .ok (.getfield 38, 3) := by decide +kernel
theorem dX11_undo_18 : decode bX11_undo 18 = .ok (.getfield 123, 3) := by decide +kernel
theorem dX11_undo_21 : decode bX11_undo 21 = .ok (.goto 5, 3) := by decide +kernel
theorem dX11_undo_24 : decode bX11_undo 24 = .ok (.bipush (-2), 2) := by decide +kernel
theorem dX11_undo_26 : decode bX11_undo 26 = .ok (.ireturn, 1) := by decide +kernel
section
variable {p : Program} {l : Launch} {e : Env} {s : State} {m : MethodId} {args : Array Value} {below : List Frame} {meth : Method} {c : Code} {G : GG} {n : Nat} {h' : Hp} {rv : Int32}
set_option maxHeartbeats 4000000
set_option maxRecDepth 100000
theorem k_X11_undo (l : Launch) (G : GG) (n : Nat) (hN : NX ≤ n) {h h' : Hp} {x0 : Nat} {rv : Int32} (hf : f_X11_undo h x0 = some (rv, h')) : CT l G n n yX11_undo (.code yX11_undo bX11_undo 1 (some .int)) 3 0 0 [.ref (bs G + x0)] h h' (some (.int rv)) := by
  refine ct_of (maxL := 1) (ret := (some .int)) (bytes := bX11_undo) (by decide) (Nat.le_of_ble_eq_true rfl) (fun p e s m below meth c C0 X ls hl => ?_)
  have hl : lv_has ls 1 [(0, .ref (bs G + x0))] := hl
  obtain ⟨hx, hb, hr, hml, hown, hts, hK, hlocks, hnm⟩ := id C0
  unfold f_X11_undo at hf
  obtain ⟨o0, hf⟩ := gd_e hf
  refine lv_aload_n hx hb dX11_undo_0 rfl (lv_at hl 0 rfl) ?_
  obtain ⟨g1, hf⟩ := gd_e hf
  refine g_R hx hb hts hown hK X o0 hN g1 fl_X11_38 (by decide) rfl (by decide) dX11_undo_1 ?_
  refine lv_aload_n hx hb dX11_undo_4 rfl (lv_at hl 0 rfl) ?_
  obtain ⟨g2, hf⟩ := gd_e hf
  refine g_R hx hb hts hown hK X o0 hN g2 fl_X11_29 (by decide) rfl (by decide) dX11_undo_5 ?_
  obtain ⟨r3, h4, q5, hf⟩ := bd_e hf
  refine c_V0 (As := [.ref (bs G + (h.2 x0 3))]) (rest := []) (st1 := [.int r3]) hx hb hml hown hts hK X (k_X3_pop l G n hN q5) g1 hN lc_X3_pop lv_X11_229 (ci := 3) rfl rfl (by decide) rfl hl.1 (Nat.le_of_ble_eq_true rfl) dX11_undo_8 rfl (fun H locs X => ?_)
  refine lv_if_eq (tgt := 24) hx hb dX11_undo_11 (by decide) (fun c11 => ?_) (fun c11 => ?_)
  · have hf := ite_t hf c11
    refine lv_bipush (v := (-2 : Int32)) hx hb dX11_undo_24 (by decide) ?_
    exact r_I hx hb hr hlocks X hf dX11_undo_26
  · have hf := ite_f hf c11
    refine lv_aload_n hx hb dX11_undo_14 rfl (lv_at hl 0 rfl) ?_
    obtain ⟨g6, hf⟩ := gd_e hf
    refine g_R hx hb hts hown hK X o0 hN g6 fl_X11_38 (by decide) rfl (by decide) dX11_undo_15 ?_
    refine g_I hx hb hts hown hK X g6 hN fl_X11_123 (by decide) rfl dX11_undo_18 ?_
    refine lv_goto (tgt := 26) hx hb dX11_undo_21 (by decide) ?_
    exact r_I hx hb hr hlocks X hf dX11_undo_26
end
theorem dX11_best_0 : decode bX11_best 0 = .ok (.aload_n 0, 1) := by decide +kernel
theorem dX11_best_1 : decode bX11_best 1 = .ok (.getfield 19, 3) := by decide +kernel
theorem dX11_best_4 : decode bX11_best 4 = .ok (.iload_n 1, 1) := by decide +kernel
theorem dX11_best_5 : decode bX11_best 5 = .ok (.invokevirtual 152, 3) := by decide +kernel
theorem dX11_best_8 : decode bX11_best 8 = .ok (.ifCond .eq 23, 3) := by decide +kernel
theorem dX11_best_11 : decode bX11_best 11 = .ok (.iload_n 2, 1) := by decide +kernel
theorem dX11_best_12 : decode bX11_best 12 = .ok (.iconst 1, 1) := by decide +kernel
theorem dX11_best_13 : decode bX11_best 13 = .ok (.if_icmp .lt 18, 3) := by decide +kernel
theorem dX11_best_16 : decode bX11_best 16 = .ok (.iload_n 2, 1) := by decide +kernel
theorem dX11_best_17 : decode bX11_best 17 = .ok (.bipush 99, 2) := by decide +kernel
theorem dX11_best_19 : decode bX11_best 19 = .ok (.if_icmp .gt 12, 3) := by decide +kernel
theorem dX11_best_22 : decode bX11_best 22 = .ok (.iload_n 3, 1) := by decide +kernel
theorem dX11_best_23 : decode bX11_best 23 = .ok (.ifCond .lt 8, 3) := by decide +kernel
theorem dX11_best_26 : decode bX11_best 26 = .ok (.iload_n 3, 1) := by decide +kernel
theorem dX11_best_27 : decode bX11_best 27 = .ok (.iconst 4, 1) := by decide +kernel
theorem dX11_best_28 : decode bX11_best 28 = .ok (.if_icmp .le 5, 3) := by decide +kernel
theorem dX11_best_31 : decode bX11_best 31 = .ok (.iconst (-1), 1) := by decide +kernel
theorem dX11_best_32 : decode bX11_best 32 = .ok (.ireturn, 1) := by decide +kernel
theorem dX11_best_33 : decode bX11_best 33 = .ok (.aload_n 0, 1) := by decide +kernel
theorem dX11_best_34 : decode bX11_best 34 = .ok (.iload_n 1, 1) := by decide +kernel
theorem dX11_best_35 : decode bX11_best 35 = .ok (.iload_n 2, 1) := by decide +kernel
theorem dX11_best_36 : decode bX11_best 36 = .ok (.invokevirtual 210, 3) := by decide +kernel
theorem dX11_best_39 : decode bX11_best 39 = .ok (.istore 4, 2) := by decide +kernel
theorem dX11_best_41 : decode bX11_best 41 = .ok (.iload 4, 2) := by decide +kernel
theorem dX11_best_43 : decode bX11_best 43 = .ok (.ifCond .ne 6, 3) := by decide +kernel
theorem dX11_best_46 : decode bX11_best 46 = .ok (.bipush (-4), 2) := by decide +kernel
theorem dX11_best_48 : decode bX11_best 48 = .ok (.ireturn, 1) := by decide +kernel
theorem dX11_best_49 : decode bX11_best 49 = .ok (.iload_n 3, 1) := by decide +kernel
theorem dX11_best_50 : decode bX11_best 50 = .ok (.lookupswitch 40 #[(0, 26), (1, 32)], 26) := by decide +kernel
theorem dX11_best_76 : decode bX11_best 76 = .ok (.iload 4, 2) := by decide +kernel
theorem dX11_best_78 : decode bX11_best 78 = .ok (.invokestatic 213, 3) := by decide +kernel
theorem dX11_best_81 : decode bX11_best 81 = .ok (.ireturn, 1) := by decide +kernel
theorem dX11_best_82 : decode bX11_best 82 = .ok (.aload_n 0, 1) := by decide +kernel
theorem dX11_best_83 : decode bX11_best 83 = .ok (.getfield 69, 3) := by decide +kernel
theorem dX11_best_86 : decode bX11_best 86 = .ok (.invokevirtual 233, 3) := by decide +kernel
theorem dX11_best_89 : decode bX11_best 89 = .ok (.ireturn, 1) := by decide +kernel
theorem dX11_best_90 : decode bX11_best 90 = .ok (.aload_n 0, 1) := by decide +kernel
theorem dX11_best_91 : decode bX11_best 91 = .ok (.getfield 69, 3) := by decide +kernel
theorem dX11_best_94 : decode bX11_best 94 = .ok (.iload_n 3, 1) := by decide +kernel
theorem dX11_best_95 : decode bX11_best 95 = .ok (.iconst 1, 1) := by decide +kernel
theorem dX11_best_96 : decode bX11_best 96 = .ok (.isub, 1) := by decide +kernel
theorem dX11_best_97 : decode bX11_best 97 = .ok (.invokevirtual 235, 3) := by decide +kernel
theorem dX11_best_100 : decode bX11_best 100 = .ok (.ireturn, 1) := by decide +kernel
section
variable {p : Program} {l : Launch} {e : Env} {s : State} {m : MethodId} {args : Array Value} {below : List Frame} {meth : Method} {c : Code} {G : GG} {n : Nat} {h' : Hp} {rv : Int32}
set_option maxHeartbeats 4000000
set_option maxRecDepth 100000
theorem k_X11_best (l : Launch) (G : GG) (n : Nat) (hN : NX ≤ n) {h h' : Hp} {x0 : Nat} {x1 : Int32} {x2 : Int32} {x3 : Int32} {rv : Int32} (hf : f_X11_best h x0 x1 x2 x3 = some (rv, h')) : CT l G n n yX11_best (.code yX11_best bX11_best 5 (some .int)) 5 0 0 [.ref (bs G + x0), .int x1, .int x2, .int x3] h h' (some (.int rv)) := by
  refine ct_of (maxL := 5) (ret := (some .int)) (bytes := bX11_best) (by decide) (Nat.le_of_ble_eq_true rfl) (fun p e s m below meth c C0 X ls hl => ?_)
  have hl : lv_has ls 5 [(0, .ref (bs G + x0)), (1, .int x1), (2, .int x2), (3, .int x3)] := hl
  obtain ⟨hx, hb, hr, hml, hown, hts, hK, hlocks, hnm⟩ := id C0
  unfold f_X11_best at hf
  obtain ⟨o0, hf⟩ := gd_e hf
  refine lv_aload_n hx hb dX11_best_0 rfl (lv_at hl 0 rfl) ?_
  obtain ⟨g1, hf⟩ := gd_e hf
  refine g_R hx hb hts hown hK X o0 hN g1 fl_X11_19 (by decide) rfl (by decide) dX11_best_1 ?_
  refine lv_iload_n hx hb dX11_best_4 rfl (lv_at hl 1 rfl) ?_
  obtain ⟨r2, h3, q4, hf⟩ := bd_e hf
  refine c_V0 (As := [.int x1]) (rest := []) (st1 := [.int r2]) hx hb hml hown hts hK X (k_X4_isPerson l G n hN q4) g1 hN lc_X4_isPerson lv_X11_152 (ci := 4) rfl rfl (by decide) rfl hl.1 (Nat.le_of_ble_eq_true rfl) dX11_best_5 rfl (fun H locs X => ?_)
  refine lv_if_eq (tgt := 31) hx hb dX11_best_8 (by decide) (fun c8 => ?_) (fun c8 => ?_)
  · have hf := ite_t hf c8
    refine lv_iconst (v := (-1 : Int32)) hx hb dX11_best_31 (by decide) ?_
    exact r_I hx hb hr hlocks X hf dX11_best_32
  · have hf := ite_f hf c8
    refine lv_iload_n hx hb dX11_best_11 rfl (lv_at hl 2 rfl) ?_
    refine lv_iconst (v := (1 : Int32)) hx hb dX11_best_12 (by decide) ?_
    refine lv_icmp_lt (tgt := 31) hx hb dX11_best_13 (by decide) (fun c13 => ?_) (fun c13 => ?_)
    · have hf := ite_t hf c13
      refine lv_iconst (v := (-1 : Int32)) hx hb dX11_best_31 (by decide) ?_
      exact r_I hx hb hr hlocks X hf dX11_best_32
    · have hf := ite_f hf c13
      refine lv_iload_n hx hb dX11_best_16 rfl (lv_at hl 2 rfl) ?_
      refine lv_bipush (v := (99 : Int32)) hx hb dX11_best_17 (by decide) ?_
      refine lv_icmp_gt (tgt := 31) hx hb dX11_best_19 (by decide) (fun c19 => ?_) (fun c19 => ?_)
      · have hf := ite_t hf c19
        refine lv_iconst (v := (-1 : Int32)) hx hb dX11_best_31 (by decide) ?_
        exact r_I hx hb hr hlocks X hf dX11_best_32
      · have hf := ite_f hf c19
        refine lv_iload_n hx hb dX11_best_22 rfl (lv_at hl 3 rfl) ?_
        refine lv_if_lt (tgt := 31) hx hb dX11_best_23 (by decide) (fun c23 => ?_) (fun c23 => ?_)
        · have hf := ite_t hf c23
          refine lv_iconst (v := (-1 : Int32)) hx hb dX11_best_31 (by decide) ?_
          exact r_I hx hb hr hlocks X hf dX11_best_32
        · have hf := ite_f hf c23
          refine lv_iload_n hx hb dX11_best_26 rfl (lv_at hl 3 rfl) ?_
          refine lv_iconst (v := (4 : Int32)) hx hb dX11_best_27 (by decide) ?_
          refine lv_icmp_le (tgt := 33) hx hb dX11_best_28 (by decide) (fun c28 => ?_) (fun c28 => ?_)
          · have hf := ite_t hf c28
            refine lv_aload_n hx hb dX11_best_33 rfl (lv_at hl 0 rfl) ?_
            refine lv_iload_n hx hb dX11_best_34 rfl (lv_at hl 1 rfl) ?_
            refine lv_iload_n hx hb dX11_best_35 rfl (lv_at hl 2 rfl) ?_
            obtain ⟨r5, h6, q7, hf⟩ := bd_e hf
            refine c_V0 (As := [.int x1, .int x2]) (rest := []) (st1 := [.int r5]) hx hb hml hown hts hK X (k_X11_usedNow l G n hN q7) o0 hN lc_X11_usedNow lv_X11_210 (ci := 11) rfl rfl (by decide) rfl hl.1 (Nat.le_of_ble_eq_true rfl) dX11_best_36 rfl (fun H locs X => ?_)
            refine lv_istore (lv' := [(4, .int r5), (0, .ref (bs G + x0)), (1, .int x1), (2, .int x2), (3, .int x3)]) hx hb dX11_best_39 hl (by decide) rfl (fun ls hl => ?_)
            refine lv_iload hx hb dX11_best_41 (lv_at hl 0 rfl) ?_
            refine lv_if_ne (tgt := 49) hx hb dX11_best_43 (by decide) (fun c43 => ?_) (fun c43 => ?_)
            · have hf := ite_f hf c43
              refine lv_iload_n hx hb dX11_best_49 rfl (lv_at hl 4 rfl) ?_
              by_cases s50_0 : x3 = (0 : Int32)
              · have hf := ite_t hf s50_0
                refine lv_lookup (off := 26) (tgt := 76) hx hb dX11_best_50 (by decide) (by rw [s50_0]; decide) (by decide) ?_
                refine lv_iload hx hb dX11_best_76 (lv_at hl 0 rfl) ?_
                obtain ⟨r8, h9, q10, hf⟩ := bd_e hf
                refine c_S0 (As := [.int r5]) (rest := []) (st1 := [.int r8]) hx hb hml hown hts hK X (k_J6_bitCount_0f7a4 l G n hN q10) lc_J6_bitCount_0f7a4 ls_X11_213 (by decide) rfl hl.1 (Nat.le_of_ble_eq_true rfl) dX11_best_78 rfl (fun H locs X => ?_)
                exact r_I hx hb hr hlocks X hf dX11_best_81
              have hf := ite_f hf s50_0
              by_cases s50_1 : x3 = (1 : Int32)
              · have hf := ite_t hf s50_1
                refine lv_lookup (off := 32) (tgt := 82) hx hb dX11_best_50 (by decide) (by rw [s50_1]; decide) (by decide) ?_
                refine lv_aload_n hx hb dX11_best_82 rfl (lv_at hl 1 rfl) ?_
                obtain ⟨g11, hf⟩ := gd_e hf
                refine g_R hx hb hts hown hK X o0 hN g11 fl_X11_69 (by decide) rfl (by decide) dX11_best_83 ?_
                obtain ⟨r12, h13, q14, hf⟩ := bd_e hf
                refine c_V0 (As := []) (rest := []) (st1 := [.int r12]) hx hb hml hown hts hK X (k_X5_price l G n hN q14) g11 hN lc_X5_price lv_X11_233 (ci := 5) rfl rfl (by decide) rfl hl.1 (Nat.le_of_ble_eq_true rfl) dX11_best_86 rfl (fun H locs X => ?_)
                exact r_I hx hb hr hlocks X hf dX11_best_89
              have hf := ite_f hf s50_1
              refine lv_lookup (off := 40) (tgt := 90) hx hb dX11_best_50 (by decide) (lk_df (ex := [(0 : Int32), (1 : Int32)]) (by decide) (List.forall_mem_cons.mpr ⟨s50_0, List.forall_mem_cons.mpr ⟨s50_1, (fun _ hz => absurd hz List.not_mem_nil)⟩⟩)) (by decide) ?_
              refine lv_aload_n hx hb dX11_best_90 rfl (lv_at hl 1 rfl) ?_
              obtain ⟨g15, hf⟩ := gd_e hf
              refine g_R hx hb hts hown hK X o0 hN g15 fl_X11_69 (by decide) rfl (by decide) dX11_best_91 ?_
              refine lv_iload_n hx hb dX11_best_94 rfl (lv_at hl 4 rfl) ?_
              refine lv_iconst (v := (1 : Int32)) hx hb dX11_best_95 (by decide) ?_
              refine lv_isub hx hb dX11_best_96 ?_
              obtain ⟨r16, h17, q18, hf⟩ := bd_e hf
              refine c_V0 (As := [.int (x3 - (1 : Int32))]) (rest := []) (st1 := [.int r16]) hx hb hml hown hts hK X (k_X5_inUse l G n hN q18) g15 hN lc_X5_inUse lv_X11_235 (ci := 5) rfl rfl (by decide) rfl hl.1 (Nat.le_of_ble_eq_true rfl) dX11_best_97 rfl (fun H locs X => ?_)
              exact r_I hx hb hr hlocks X hf dX11_best_100
            · have hf := ite_t hf c43
              refine lv_bipush (v := (-4 : Int32)) hx hb dX11_best_46 (by decide) ?_
              exact r_I hx hb hr hlocks X hf dX11_best_48
          · have hf := ite_f hf c28
            refine lv_iconst (v := (-1 : Int32)) hx hb dX11_best_31 (by decide) ?_
            exact r_I hx hb hr hlocks X hf dX11_best_32
end
theorem dX11_stuck_0 : decode bX11_stuck 0 = .ok (.aload_n 0, 1) := by decide +kernel
theorem dX11_stuck_1 : decode bX11_stuck 1 = .ok (.getfield 85, 3) := by decide +kernel
theorem dX11_stuck_4 : decode bX11_stuck 4 = .ok (.aload_n 0, 1) := by decide +kernel
theorem dX11_stuck_5 : decode bX11_stuck 5 = .ok (.invokevirtual 161, 3) := by decide +kernel
theorem dX11_stuck_8 : decode bX11_stuck 8 = .ok (.invokevirtual 238, 3) := by decide +kernel
theorem dX11_stuck_11 : decode bX11_stuck 11 = .ok (.ireturn, 1) := by decide +kernel
section
variable {p : Program} {l : Launch} {e : Env} {s : State} {m : MethodId} {args : Array Value} {below : List Frame} {meth : Method} {c : Code} {G : GG} {n : Nat} {h' : Hp} {rv : Int32}
set_option maxHeartbeats 4000000
set_option maxRecDepth 100000
theorem k_X11_stuck (l : Launch) (G : GG) (n : Nat) (hN : NX ≤ n) {h h' : Hp} {x0 : Nat} {rv : Int32} (hf : f_X11_stuck h x0 = some (rv, h')) : CT l G n n yX11_stuck (.code yX11_stuck bX11_stuck 1 (some .int)) 5 0 0 [.ref (bs G + x0)] h h' (some (.int rv)) := by
  refine ct_of (maxL := 1) (ret := (some .int)) (bytes := bX11_stuck) (by decide) (Nat.le_of_ble_eq_true rfl) (fun p e s m below meth c C0 X ls hl => ?_)
  have hl : lv_has ls 1 [(0, .ref (bs G + x0))] := hl
  obtain ⟨hx, hb, hr, hml, hown, hts, hK, hlocks, hnm⟩ := id C0
  unfold f_X11_stuck at hf
  obtain ⟨o0, hf⟩ := gd_e hf
  refine lv_aload_n hx hb dX11_stuck_0 rfl (lv_at hl 0 rfl) ?_
  obtain ⟨g1, hf⟩ := gd_e hf
  refine g_R hx hb hts hown hK X o0 hN g1 fl_X11_85 (by decide) rfl (by decide) dX11_stuck_1 ?_
  refine lv_aload_n hx hb dX11_stuck_4 rfl (lv_at hl 0 rfl) ?_
  obtain ⟨r2, h3, q4, hf⟩ := bd_e hf
  refine c_V0 (As := []) (rest := [.ref (bs G + (h.2 x0 11))]) (st1 := [.ref (bs G + r2), .ref (bs G + (h.2 x0 11))]) hx hb hml hown hts hK X (k_X11_sceneNow l G n hN q4) o0 hN lc_X11_sceneNow lv_X11_161 (ci := 11) rfl rfl (by decide) rfl hl.1 (Nat.le_of_ble_eq_true rfl) dX11_stuck_5 rfl (fun H locs X => ?_)
  obtain ⟨g5, hf⟩ := gd_e hf
  obtain ⟨r6, h7, q8, hf⟩ := bd_e hf
  refine c_V0 (As := [.ref (bs G + r2)]) (rest := []) (st1 := [.int r6]) hx hb hml hown hts hK X (k_X1_stuckIn l G n hN q8) g1 hN lc_X1_stuckIn lv_X11_238 (ci := 1) rfl rfl (by decide) rfl hl.1 (Nat.le_of_ble_eq_true rfl) dX11_stuck_8 rfl (fun H locs X => ?_)
  exact r_I hx hb hr hlocks X hf dX11_stuck_11
end
theorem dX11_freed_0 : decode bX11_freed 0 = .ok (.aload_n 0, 1) := by decide +kernel
theorem dX11_freed_1 : decode bX11_freed 1 = .ok (.getfield 19, 3) := by decide +kernel
theorem dX11_freed_4 : decode bX11_freed 4 = .ok (.iload_n 1, 1) := by decide +kernel
theorem dX11_freed_5 : decode bX11_freed 5 = .ok (.invokevirtual 152, 3) := by decide +kernel
theorem dX11_freed_8 : decode bX11_freed 8 = .ok (.ifCond .ne 5, 3) := by decide +kernel
theorem dX11_freed_11 : decode bX11_freed 11 = .ok (.iconst (-1), 1) := by decide +kernel
theorem dX11_freed_12 : decode bX11_freed 12 = .ok (.ireturn, 1) := by decide +kernel
theorem dX11_freed_13 : decode bX11_freed 13 = .ok (.aload_n 0, 1) := by decide +kernel
theorem dX11_freed_14 : decode bX11_freed 14 = .ok (.getfield 19, 3) := by decide +kernel
theorem dX11_freed_17 : decode bX11_freed 17 = .ok (.getfield 155, 3) := by decide +kernel
theorem dX11_freed_20 : decode bX11_freed 20 = .ok (.iload_n 1, 1) := by decide +kernel
theorem dX11_freed_21 : decode bX11_freed 21 = .ok (.iaload, 1) := by decide +kernel
theorem dX11_freed_22 : decode bX11_freed 22 = .ok (.istore_n 2, 1) := by decide +kernel
theorem dX11_freed_23 : decode bX11_freed 23 = .ok (.aload_n 0, 1) := by decide +kernel
theorem dX11_freed_24 : decode bX11_freed 24 = .ok (.getfield 29, 3) := by decide +kernel
theorem dX11_freed_27 : decode bX11_freed 27 = .ok (.getfield 158, 3) := by decide +kernel
theorem dX11_freed_30 : decode bX11_freed 30 = .ok (.iload_n 1, 1) := by decide +kernel
theorem dX11_freed_31 : decode bX11_freed 31 = .ok (.invokestatic 184, 3) := by decide +kernel
theorem dX11_freed_34 : decode bX11_freed 34 = .ok (.ifCond .ne 12, 3) := by decide +kernel
theorem dX11_freed_37 : decode bX11_freed 37 = .ok (.aload_n 0, 1) := by decide +kernel
theorem dX11_freed_38 : decode bX11_freed 38 = .ok (.iload_n 1, 1) := by decide +kernel
theorem dX11_freed_39 : decode bX11_freed 39 = .ok (.iload_n 2, 1) := by decide +kernel
theorem dX11_freed_40 : decode bX11_freed 40 = .ok (.invokevirtual 210, 3) := by decide +kernel
theorem dX11_freed_43 : decode bX11_freed 43 = .ok (.ifCond .eq 6, 3) := by decide +kernel
theorem dX11_freed_46 : decode bX11_freed 46 = .ok (.bipush (-4), 2) := by decide +kernel
theorem dX11_freed_48 : decode bX11_freed 48 = .ok (.ireturn, 1) := by decide +kernel
theorem dX11_freed_49 : decode bX11_freed 49 = .ok (.aload_n 0, 1) := by decide +kernel
theorem dX11_freed_50 : decode bX11_freed 50 = .ok (.invokevirtual 161, 3) := by decide +kernel
theorem dX11_freed_53 : decode bX11_freed 53 = .ok (.astore_n 3, 1) := by decide +kernel
theorem dX11_freed_54 : decode bX11_freed 54 = .ok (.iconst 1, 1) := by decide +kernel
theorem dX11_freed_55 : decode bX11_freed 55 = .ok (.istore 4, 2) := by decide +kernel
theorem dX11_freed_57 : decode bX11_freed 57 = .ok (.iload 4, 2) := by decide +kernel
theorem dX11_freed_59 : decode bX11_freed 59 = .ok (.aload_n 0, 1) := by decide +kernel
theorem dX11_freed_60 : decode bX11_freed 60 = .ok (.getfield 19, 3) := by decide +kernel
theorem dX11_freed_63 : decode bX11_freed 63 = .ok (.getfield 128, 3) := by decide +kernel
theorem dX11_freed_66 : decode bX11_freed 66 = .ok (.if_icmp .gt 61, 3) := by decide +kernel
theorem dX11_freed_69 : decode bX11_freed 69 = .ok (.aload_n 3, 1) := by decide +kernel
theorem dX11_freed_70 : decode bX11_freed 70 = .ok (.getfield 242, 3) := by decide +kernel
theorem dX11_freed_73 : decode bX11_freed 73 = .ok (.iconst 1, 1) := by decide +kernel
theorem dX11_freed_74 : decode bX11_freed 74 = .ok (.iload 4, 2) := by decide +kernel
theorem dX11_freed_76 : decode bX11_freed 76 = .ok (.iconst 1, 1) := by decide +kernel
theorem dX11_freed_77 : decode bX11_freed 77 = .ok (.isub, 1) := by decide +kernel
theorem dX11_freed_78 : decode bX11_freed 78 = .ok (.ishl, 1) := by decide +kernel
theorem dX11_freed_79 : decode bX11_freed 79 = .ok (.iconst (-1), 1) := by decide +kernel
theorem dX11_freed_80 : decode bX11_freed 80 = .ok (.ixor, 1) := by decide +kernel
theorem dX11_freed_81 : decode bX11_freed 81 = .ok (.iand, 1) := by decide +kernel
theorem dX11_freed_82 : decode bX11_freed 82 = .ok (.istore 5, 2) := by decide +kernel
theorem dX11_freed_84 : decode bX11_freed 84 = .ok (.iload 5, 2) := by decide +kernel
theorem dX11_freed_86 : decode bX11_freed 86 = .ok (.aload_n 3, 1) := by decide +kernel
theorem dX11_freed_87 : decode bX11_freed 87 = .ok (.getfield 242, 3) := by decide +kernel
theorem dX11_freed_90 : decode bX11_freed 90 = .ok (.if_icmp .eq 31, 3) := by decide +kernel
theorem dX11_freed_93 : decode bX11_freed 93 = .ok (.aload_n 0, 1) := by decide +kernel
theorem dX11_freed_94 : decode bX11_freed 94 = .ok (.getfield 69, 3) := by decide +kernel
theorem dX11_freed_97 : decode bX11_freed 97 = .ok (.aload_n 3, 1) := by decide +kernel
theorem dX11_freed_98 : decode bX11_freed 98 = .ok (.iload_n 1, 1) := by decide +kernel
theorem dX11_freed_99 : decode bX11_freed 99 = .ok (.iload 5, 2) := by decide +kernel
theorem dX11_freed_101 : decode bX11_freed 101 = .ok (.invokevirtual 168, 3) := by decide +kernel
theorem dX11_freed_104 : decode bX11_freed 104 = .ok (.iload_n 2, 1) := by decide +kernel
theorem dX11_freed_105 : decode bX11_freed 105 = .ok (.aload_n 0, 1) := by decide +kernel
theorem dX11_freed_106 : decode bX11_freed 106 = .ok (.getfield 19, 3) := by decide +kernel
theorem dX11_freed_109 : decode bX11_freed 109 = .ok (.getfield 172, 3) := by decide +kernel
theorem dX11_freed_112 : decode bX11_freed 112 = .ok (.invokevirtual 244, 3) := by decide +kernel
theorem dX11_freed_115 : decode bX11_freed 115 = .ok (.ifCond .eq 6, 3) := by decide +kernel
theorem dX11_freed_118 : decode bX11_freed 118 = .ok (.iload 4, 2) := by decide +kernel
theorem dX11_freed_120 : decode bX11_freed 120 = .ok (.ireturn, 1) := by decide +kernel
theorem dX11_freed_121 : decode bX11_freed 121 = .ok (.iinc 4 1, 3) := by decide +kernel
theorem dX11_freed_124 : decode bX11_freed 124 = .ok (.goto (-67), 3) := by decide +kernel
theorem dX11_freed_127 : decode bX11_freed 127 = .ok (.bipush (-4), 2) := by decide +kernel
theorem dX11_freed_129 : decode bX11_freed 129 = .ok (.ireturn, 1) := by decide +kernel
section
variable {p : Program} {l : Launch} {e : Env} {s : State} {m : MethodId} {args : Array Value} {below : List Frame} {meth : Method} {c : Code} {G : GG} {n : Nat} {h' : Hp} {rv : Int32}
set_option maxHeartbeats 4000000
set_option maxRecDepth 100000
theorem j_X11_freed_57 (C0 : Cx p s m args meth c G bX11_freed RX11 6 (some .int) "freed") (hN : NX ≤ n) : ∀ (fu : Nat), ∀ {H : Heap} {locs : List Loc} {ls : Array Slot} {h : Hp} {x0 : Nat} {x1 : Int32} {x2 : Int32} {x3 : Nat} {x4 : Int32}, XW G n h s 0 H locs → lv_has ls 6 [(0, .ref (bs G + x0)), (1, .int x1), (2, .int x2), (3, .ref (bs G + x3)), (4, .int x4)] → kd x0 = 11 → kd x3 = 6 → f_X11_freed_57 fu h x0 x1 x2 x3 x4 = some (rv, h') → W p l e (rmC 5 0 0) s m args below meth c H locs 0 0 (MQ below (QP G n h' (some (.int rv))) args s 0 0 (Ab G)) (F0 m 57 ls []) := by
  obtain ⟨hx, hb, hr, hml, hown, hts, hK, hlocks, hnm⟩ := id C0
  intro fu
  induction fu with
  | zero => intro H locs ls h x0 x1 x2 x3 x4 X hl o0 o3 hf; cases hf
  | succ fu ih =>
    intro H locs ls h x0 x1 x2 x3 x4 X hl o0 o3 hf
    rw [f_X11_freed_57] at hf
    refine lv_iload hx hb dX11_freed_57 (lv_at hl 4 rfl) ?_
    refine lv_aload_n hx hb dX11_freed_59 rfl (lv_at hl 0 rfl) ?_
    obtain ⟨g1, hf⟩ := gd_e hf
    refine g_R hx hb hts hown hK X o0 hN g1 fl_X11_19 (by decide) rfl (by decide) dX11_freed_60 ?_
    refine g_I hx hb hts hown hK X g1 hN fl_X11_128 (by decide) rfl dX11_freed_63 ?_
    refine lv_icmp_gt (tgt := 127) hx hb dX11_freed_66 (by decide) (fun c66 => ?_) (fun c66 => ?_)
    · have hf := ite_t hf c66
      refine lv_bipush (v := (-4 : Int32)) hx hb dX11_freed_127 (by decide) ?_
      exact r_I hx hb hr hlocks X hf dX11_freed_129
    · have hf := ite_f hf c66
      refine lv_aload_n hx hb dX11_freed_69 rfl (lv_at hl 3 rfl) ?_
      refine g_I hx hb hts hown hK X o3 hN fl_X11_242 (by decide) rfl dX11_freed_70 ?_
      refine lv_iconst (v := (1 : Int32)) hx hb dX11_freed_73 (by decide) ?_
      refine lv_iload hx hb dX11_freed_74 (lv_at hl 4 rfl) ?_
      refine lv_iconst (v := (1 : Int32)) hx hb dX11_freed_76 (by decide) ?_
      refine lv_isub hx hb dX11_freed_77 ?_
      refine lv_ishl hx hb dX11_freed_78 ?_
      refine lv_iconst (v := (-1 : Int32)) hx hb dX11_freed_79 (by decide) ?_
      refine lv_ixor hx hb dX11_freed_80 ?_
      refine lv_iand hx hb dX11_freed_81 ?_
      refine lv_istore (lv' := [(5, .int ((h.1 x3 2) &&& (((1 : Int32) <<< ((x4 - (1 : Int32)) &&& 31)) ^^^ (-1 : Int32)))), (0, .ref (bs G + x0)), (1, .int x1), (2, .int x2), (3, .ref (bs G + x3)), (4, .int x4)]) hx hb dX11_freed_82 hl (by decide) rfl (fun ls hl => ?_)
      refine lv_iload hx hb dX11_freed_84 (lv_at hl 0 rfl) ?_
      refine lv_aload_n hx hb dX11_freed_86 rfl (lv_at hl 4 rfl) ?_
      refine g_I hx hb hts hown hK X o3 hN fl_X11_242 (by decide) rfl dX11_freed_87 ?_
      refine lv_icmp_eq (tgt := 121) hx hb dX11_freed_90 (by decide) (fun c90 => ?_) (fun c90 => ?_)
      · have hf := ite_t hf c90
        refine lv_iinc (v := (x4 + (1 : Int32))) (lv' := [(4, .int (x4 + (1 : Int32))), (5, .int ((h.1 x3 2) &&& (((1 : Int32) <<< ((x4 - (1 : Int32)) &&& 31)) ^^^ (-1 : Int32)))), (0, .ref (bs G + x0)), (1, .int x1), (2, .int x2), (3, .ref (bs G + x3))]) hx hb dX11_freed_121 hl (k := 5) rfl rfl (by decide) rfl (fun ls hl => ?_)
        refine lv_goto (tgt := 57) hx hb dX11_freed_124 (by decide) ?_
        exact ih X (lv_sub hl [2, 3, 4, 5, 0] rfl) o0 o3 hf
      · have hf := ite_f hf c90
        refine lv_aload_n hx hb dX11_freed_93 rfl (lv_at hl 1 rfl) ?_
        obtain ⟨g2, hf⟩ := gd_e hf
        refine g_R hx hb hts hown hK X o0 hN g2 fl_X11_69 (by decide) rfl (by decide) dX11_freed_94 ?_
        refine lv_aload_n hx hb dX11_freed_97 rfl (lv_at hl 4 rfl) ?_
        refine lv_iload_n hx hb dX11_freed_98 rfl (lv_at hl 2 rfl) ?_
        refine lv_iload hx hb dX11_freed_99 (lv_at hl 0 rfl) ?_
        obtain ⟨r3, h4, q5, hf⟩ := bd_e hf
        refine c_V0 (As := [.int x1, .int ((h.1 x3 2) &&& (((1 : Int32) <<< ((x4 - (1 : Int32)) &&& 31)) ^^^ (-1 : Int32)))]) (rest := [.ref (bs G + (h.2 x0 9))]) (st1 := [.int r3, .ref (bs G + (h.2 x0 9))]) hx hb hml hown hts hK X (k_X6_mayUse l G n hN q5) o3 hN lc_X6_mayUse lv_X11_168 (ci := 6) rfl rfl (by decide) rfl hl.1 (Nat.le_of_ble_eq_true rfl) dX11_freed_101 rfl (fun H locs X => ?_)
        refine lv_iload_n hx hb dX11_freed_104 rfl (lv_at hl 3 rfl) ?_
        refine lv_aload_n hx hb dX11_freed_105 rfl (lv_at hl 1 rfl) ?_
        obtain ⟨g6, hf⟩ := gd_e hf
        refine g_R hx hb hts hown hK X o0 hN g6 fl_X11_19 (by decide) rfl (by decide) dX11_freed_106 ?_
        refine g_I hx hb hts hown hK X g6 hN fl_X11_172 (by decide) rfl dX11_freed_109 ?_
        obtain ⟨r7, h8, q9, hf⟩ := bd_e hf
        refine c_V0 (As := [.int r3, .int x2, .int (h4.1 (h4.2 x0 1) 2)]) (rest := []) (st1 := [.int r7]) hx hb hml hown hts hK X (k_X5_find l G n hN q9) g2 hN lc_X5_find lv_X11_244 (ci := 5) rfl rfl (by decide) rfl hl.1 (Nat.le_of_ble_eq_true rfl) dX11_freed_112 rfl (fun H locs X => ?_)
        refine lv_if_eq (tgt := 121) hx hb dX11_freed_115 (by decide) (fun c115 => ?_) (fun c115 => ?_)
        · have hf := ite_t hf c115
          refine lv_iinc (v := (x4 + (1 : Int32))) (lv' := [(4, .int (x4 + (1 : Int32))), (5, .int ((h.1 x3 2) &&& (((1 : Int32) <<< ((x4 - (1 : Int32)) &&& 31)) ^^^ (-1 : Int32)))), (0, .ref (bs G + x0)), (1, .int x1), (2, .int x2), (3, .ref (bs G + x3))]) hx hb dX11_freed_121 hl (k := 5) rfl rfl (by decide) rfl (fun ls hl => ?_)
          refine lv_goto (tgt := 57) hx hb dX11_freed_124 (by decide) ?_
          exact ih X (lv_sub hl [2, 3, 4, 5, 0] rfl) o0 o3 hf
        · have hf := ite_f hf c115
          refine lv_iload hx hb dX11_freed_118 (lv_at hl 5 rfl) ?_
          exact r_I hx hb hr hlocks X hf dX11_freed_120
theorem k_X11_freed (l : Launch) (G : GG) (n : Nat) (hN : NX ≤ n) {h h' : Hp} {x0 : Nat} {x1 : Int32} {rv : Int32} (hf : f_X11_freed h x0 x1 = some (rv, h')) : CT l G n n yX11_freed (.code yX11_freed bX11_freed 6 (some .int)) 5 0 0 [.ref (bs G + x0), .int x1] h h' (some (.int rv)) := by
  refine ct_of (maxL := 6) (ret := (some .int)) (bytes := bX11_freed) (by decide) (Nat.le_of_ble_eq_true rfl) (fun p e s m below meth c C0 X ls hl => ?_)
  have hl : lv_has ls 6 [(0, .ref (bs G + x0)), (1, .int x1)] := hl
  obtain ⟨hx, hb, hr, hml, hown, hts, hK, hlocks, hnm⟩ := id C0
  unfold f_X11_freed at hf
  obtain ⟨o0, hf⟩ := gd_e hf
  refine lv_aload_n hx hb dX11_freed_0 rfl (lv_at hl 0 rfl) ?_
  obtain ⟨g1, hf⟩ := gd_e hf
  refine g_R hx hb hts hown hK X o0 hN g1 fl_X11_19 (by decide) rfl (by decide) dX11_freed_1 ?_
  refine lv_iload_n hx hb dX11_freed_4 rfl (lv_at hl 1 rfl) ?_
  obtain ⟨r2, h3, q4, hf⟩ := bd_e hf
  refine c_V0 (As := [.int x1]) (rest := []) (st1 := [.int r2]) hx hb hml hown hts hK X (k_X4_isPerson l G n hN q4) g1 hN lc_X4_isPerson lv_X11_152 (ci := 4) rfl rfl (by decide) rfl hl.1 (Nat.le_of_ble_eq_true rfl) dX11_freed_5 rfl (fun H locs X => ?_)
  refine lv_if_ne (tgt := 13) hx hb dX11_freed_8 (by decide) (fun c8 => ?_) (fun c8 => ?_)
  · have hf := ite_f hf c8
    refine lv_aload_n hx hb dX11_freed_13 rfl (lv_at hl 0 rfl) ?_
    obtain ⟨g5, hf⟩ := gd_e hf
    refine g_R hx hb hts hown hK X o0 hN g5 fl_X11_19 (by decide) rfl (by decide) dX11_freed_14 ?_
    obtain ⟨g6, hf⟩ := gd_e hf
    refine g_R hx hb hts hown hK X g5 hN g6 fl_X11_155 (by decide) rfl (by decide) dX11_freed_17 ?_
    refine lv_iload_n hx hb dX11_freed_20 rfl (lv_at hl 1 rfl) ?_
    obtain ⟨g7, hf⟩ := gd_e hf
    refine g_ia hx hb hK X g6 hN g7 (by decide) dX11_freed_21 ?_
    refine lv_istore_n (lv' := [(2, .int (h3.1 (h3.2 (h3.2 x0 1) 7) x1.toNatClampNeg)), (0, .ref (bs G + x0)), (1, .int x1)]) hx hb dX11_freed_22 rfl hl (by decide) rfl (fun ls hl => ?_)
    refine lv_aload_n hx hb dX11_freed_23 rfl (lv_at hl 1 rfl) ?_
    obtain ⟨g8, hf⟩ := gd_e hf
    refine g_R hx hb hts hown hK X o0 hN g8 fl_X11_29 (by decide) rfl (by decide) dX11_freed_24 ?_
    refine g_I hx hb hts hown hK X g8 hN fl_X11_158 (by decide) rfl dX11_freed_27 ?_
    refine lv_iload_n hx hb dX11_freed_30 rfl (lv_at hl 2 rfl) ?_
    obtain ⟨r9, h10, q11, hf⟩ := bd_e hf
    refine c_S0 (As := [.int (h3.1 (h3.2 x0 3) 2), .int x1]) (rest := []) (st1 := [.int r9]) hx hb hml hown hts hK X (k_X11_hasBit l G n hN q11) lc_X11_hasBit ls_X11_184 (by decide) rfl hl.1 (Nat.le_of_ble_eq_true rfl) dX11_freed_31 rfl (fun H locs X => ?_)
    refine lv_if_ne (tgt := 46) hx hb dX11_freed_34 (by decide) (fun c34 => ?_) (fun c34 => ?_)
    · have hf := ite_f hf c34
      refine lv_bipush (v := (-4 : Int32)) hx hb dX11_freed_46 (by decide) ?_
      exact r_I hx hb hr hlocks X hf dX11_freed_48
    · have hf := ite_t hf c34
      refine lv_aload_n hx hb dX11_freed_37 rfl (lv_at hl 1 rfl) ?_
      refine lv_iload_n hx hb dX11_freed_38 rfl (lv_at hl 2 rfl) ?_
      refine lv_iload_n hx hb dX11_freed_39 rfl (lv_at hl 0 rfl) ?_
      obtain ⟨r12, h13, q14, hf⟩ := bd_e hf
      refine c_V0 (As := [.int x1, .int (h3.1 (h3.2 (h3.2 x0 1) 7) x1.toNatClampNeg)]) (rest := []) (st1 := [.int r12]) hx hb hml hown hts hK X (k_X11_usedNow l G n hN q14) o0 hN lc_X11_usedNow lv_X11_210 (ci := 11) rfl rfl (by decide) rfl hl.1 (Nat.le_of_ble_eq_true rfl) dX11_freed_40 rfl (fun H locs X => ?_)
      refine lv_if_eq (tgt := 49) hx hb dX11_freed_43 (by decide) (fun c43 => ?_) (fun c43 => ?_)
      · have hf := ite_t hf c43
        refine lv_aload_n hx hb dX11_freed_49 rfl (lv_at hl 1 rfl) ?_
        obtain ⟨r15, h16, q17, hf⟩ := bd_e hf
        refine c_V0 (As := []) (rest := []) (st1 := [.ref (bs G + r15)]) hx hb hml hown hts hK X (k_X11_sceneNow l G n hN q17) o0 hN lc_X11_sceneNow lv_X11_161 (ci := 11) rfl rfl (by decide) rfl hl.1 (Nat.le_of_ble_eq_true rfl) dX11_freed_50 rfl (fun H locs X => ?_)
        obtain ⟨g18, hf⟩ := gd_e hf
        refine lv_astore_n (lv' := [(3, .ref (bs G + r15)), (2, .int (h3.1 (h3.2 (h3.2 x0 1) 7) x1.toNatClampNeg)), (0, .ref (bs G + x0)), (1, .int x1)]) hx hb dX11_freed_53 rfl hl (by decide) rfl (fun ls hl => ?_)
        refine lv_iconst (v := (1 : Int32)) hx hb dX11_freed_54 (by decide) ?_
        refine lv_istore (lv' := [(4, .int (1 : Int32)), (3, .ref (bs G + r15)), (2, .int (h3.1 (h3.2 (h3.2 x0 1) 7) x1.toNatClampNeg)), (0, .ref (bs G + x0)), (1, .int x1)]) hx hb dX11_freed_55 hl (by decide) rfl (fun ls hl => ?_)
        exact j_X11_freed_57 C0 hN FU X (lv_sub hl [3, 4, 2, 1, 0] rfl) o0 g18 hf
      · have hf := ite_f hf c43
        refine lv_bipush (v := (-4 : Int32)) hx hb dX11_freed_46 (by decide) ?_
        exact r_I hx hb hr hlocks X hf dX11_freed_48
  · have hf := ite_t hf c8
    refine lv_iconst (v := (-1 : Int32)) hx hb dX11_freed_11 (by decide) ?_
    exact r_I hx hb hr hlocks X hf dX11_freed_12
end
theorem dX11_order_0 : decode bX11_order 0 = .ok (.iload_n 1, 1) := by decide +kernel
theorem dX11_order_1 : decode bX11_order 1 = .ok (.iconst (-1), 1) := by decide +kernel
theorem dX11_order_2 : decode bX11_order 2 = .ok (.if_icmp .lt 9, 3) := by decide +kernel
theorem dX11_order_5 : decode bX11_order 5 = .ok (.iload_n 1, 1) := by decide +kernel
theorem dX11_order_6 : decode bX11_order 6 = .ok (.bipush 6, 2) := by decide +kernel
theorem dX11_order_8 : decode bX11_order 8 = .ok (.if_icmp .lt 5, 3) := by decide +kernel
theorem dX11_order_11 : decode bX11_order 11 = .ok (.iconst (-1), 1) := by decide +kernel
theorem dX11_order_12 : decode bX11_order 12 = .ok (.ireturn, 1) := by decide +kernel
theorem dX11_order_13 : decode bX11_order 13 = .ok (.aload_n 0, 1) := by decide +kernel
theorem dX11_order_14 : decode bX11_order 14 = .ok (.invokevirtual 161, 3) := by decide +kernel
theorem dX11_order_17 : decode bX11_order 17 = .ok (.astore_n 2, 1) := by decide +kernel
theorem dX11_order_18 : decode bX11_order 18 = .ok (.aload_n 0, 1) := by decide +kernel
theorem dX11_order_19 : decode bX11_order 19 = .ok (.getfield 85, 3) := by decide +kernel
theorem dX11_order_22 : decode bX11_order 22 = .ok (.aload_n 2, 1) := by decide +kernel
theorem dX11_order_23 : decode bX11_order 23 = .ok (.invokevirtual 248, 3) := by decide +kernel
theorem dX11_order_26 : decode bX11_order 26 = .ok (.iload_n 1, 1) := by decide +kernel
theorem dX11_order_27 : decode bX11_order 27 = .ok (.ifCond .ge 11, 3) := by decide +kernel
theorem dX11_order_30 : decode bX11_order 30 = .ok (.aload_n 0, 1) := by decide +kernel
theorem dX11_order_31 : decode bX11_order 31 = .ok (.getfield 85, 3) := by decide +kernel
theorem dX11_order_34 : decode bX11_order 34 = .ok (.getfield 252, 3) := by decide +kernel
theorem dX11_order_37 : decode bX11_order 37 = .ok (.ireturn, 1) := by decide +kernel
theorem dX11_order_38 : decode bX11_order 38 = .ok (.iload_n 1, 1) := by decide +kernel
theorem dX11_order_39 : decode bX11_order 39 = .ok (.aload_n 2, 1) := by decide +kernel
theorem dX11_order_40 : decode bX11_order 40 = .ok (.getfield 255, 3) := by decide +kernel
theorem dX11_order_43 : decode bX11_order 43 = .ok (.invokestatic 213, 3) := by decide +kernel
theorem dX11_order_46 : decode bX11_order 46 = .ok (.if_icmp .ge 15, 3) := by decide +kernel
theorem dX11_order_49 : decode bX11_order 49 = .ok (.aload_n 0, 1) := by decide +kernel
theorem dX11_order_50 : decode bX11_order 50 = .ok (.getfield 85, 3) := by decide +kernel
theorem dX11_order_53 : decode bX11_order 53 = .ok (.getfield 258, 3) := by decide +kernel
theorem dX11_order_56 : decode bX11_order 56 = .ok (.iload_n 1, 1) := by decide +kernel
theorem dX11_order_57 : decode bX11_order 57 = .ok (.iaload, 1) := by decide +kernel
theorem dX11_order_58 : decode bX11_order 58 = .ok (.goto 5, 3) := by decide +kernel
theorem dX11_order_61 : decode bX11_order 61 = .ok (.bipush (-4), 2) := by decide +kernel
theorem dX11_order_63 : decode bX11_order 63 = .ok (.ireturn, 1) := by decide +kernel
section
variable {p : Program} {l : Launch} {e : Env} {s : State} {m : MethodId} {args : Array Value} {below : List Frame} {meth : Method} {c : Code} {G : GG} {n : Nat} {h' : Hp} {rv : Int32}
set_option maxHeartbeats 4000000
set_option maxRecDepth 100000
theorem k_X11_order (l : Launch) (G : GG) (n : Nat) (hN : NX ≤ n) {h h' : Hp} {x0 : Nat} {x1 : Int32} {rv : Int32} (hf : f_X11_order h x0 x1 = some (rv, h')) : CT l G n n yX11_order (.code yX11_order bX11_order 3 (some .int)) 15 0 0 [.ref (bs G + x0), .int x1] h h' (some (.int rv)) := by
  refine ct_of (maxL := 3) (ret := (some .int)) (bytes := bX11_order) (by decide) (Nat.le_of_ble_eq_true rfl) (fun p e s m below meth c C0 X ls hl => ?_)
  have hl : lv_has ls 3 [(0, .ref (bs G + x0)), (1, .int x1)] := hl
  obtain ⟨hx, hb, hr, hml, hown, hts, hK, hlocks, hnm⟩ := id C0
  unfold f_X11_order at hf
  obtain ⟨o0, hf⟩ := gd_e hf
  refine lv_iload_n hx hb dX11_order_0 rfl (lv_at hl 1 rfl) ?_
  refine lv_iconst (v := (-1 : Int32)) hx hb dX11_order_1 (by decide) ?_
  refine lv_icmp_lt (tgt := 11) hx hb dX11_order_2 (by decide) (fun c2 => ?_) (fun c2 => ?_)
  · have hf := ite_t hf c2
    refine lv_iconst (v := (-1 : Int32)) hx hb dX11_order_11 (by decide) ?_
    exact r_I hx hb hr hlocks X hf dX11_order_12
  · have hf := ite_f hf c2
    refine lv_iload_n hx hb dX11_order_5 rfl (lv_at hl 1 rfl) ?_
    refine lv_bipush (v := (6 : Int32)) hx hb dX11_order_6 (by decide) ?_
    refine lv_icmp_lt (tgt := 13) hx hb dX11_order_8 (by decide) (fun c8 => ?_) (fun c8 => ?_)
    · have hf := ite_t hf c8
      refine lv_aload_n hx hb dX11_order_13 rfl (lv_at hl 0 rfl) ?_
      obtain ⟨r1, h2, q3, hf⟩ := bd_e hf
      refine c_V0 (As := []) (rest := []) (st1 := [.ref (bs G + r1)]) hx hb hml hown hts hK X (k_X11_sceneNow l G n hN q3) o0 hN lc_X11_sceneNow lv_X11_161 (ci := 11) rfl rfl (by decide) rfl hl.1 (Nat.le_of_ble_eq_true rfl) dX11_order_14 rfl (fun H locs X => ?_)
      obtain ⟨g4, hf⟩ := gd_e hf
      refine lv_astore_n (lv' := [(2, .ref (bs G + r1)), (0, .ref (bs G + x0)), (1, .int x1)]) hx hb dX11_order_17 rfl hl (by decide) rfl (fun ls hl => ?_)
      refine lv_aload_n hx hb dX11_order_18 rfl (lv_at hl 1 rfl) ?_
      obtain ⟨g5, hf⟩ := gd_e hf
      refine g_R hx hb hts hown hK X o0 hN g5 fl_X11_85 (by decide) rfl (by decide) dX11_order_19 ?_
      refine lv_aload_n hx hb dX11_order_22 rfl (lv_at hl 0 rfl) ?_
      obtain ⟨r6, h7, q8, hf⟩ := bd_e hf
      refine c_V0 (As := [.ref (bs G + r1)]) (rest := []) (st1 := []) hx hb hml hown hts hK X (k_X1_findOrder l G n hN q8) g5 hN lc_X1_findOrder lv_X11_248 (ci := 1) rfl rfl (by decide) rfl hl.1 (Nat.le_of_ble_eq_true rfl) dX11_order_23 rfl (fun H locs X => ?_)
      refine lv_iload_n hx hb dX11_order_26 rfl (lv_at hl 2 rfl) ?_
      refine lv_if_ge (tgt := 38) hx hb dX11_order_27 (by decide) (fun c27 => ?_) (fun c27 => ?_)
      · have hf := ite_t hf c27
        refine lv_iload_n hx hb dX11_order_38 rfl (lv_at hl 2 rfl) ?_
        refine lv_aload_n hx hb dX11_order_39 rfl (lv_at hl 0 rfl) ?_
        refine g_I hx hb hts hown hK X g4 hN fl_X11_255 (by decide) rfl dX11_order_40 ?_
        obtain ⟨r9, h10, q11, hf⟩ := bd_e hf
        refine c_S0 (As := [.int (h7.1 r1 0)]) (rest := [.int x1]) (st1 := [.int r9, .int x1]) hx hb hml hown hts hK X (k_J6_bitCount_0f7a4 l G n hN q11) lc_J6_bitCount_0f7a4 ls_X11_213 (by decide) rfl hl.1 (Nat.le_of_ble_eq_true rfl) dX11_order_43 rfl (fun H locs X => ?_)
        refine lv_icmp_ge (tgt := 61) hx hb dX11_order_46 (by decide) (fun c46 => ?_) (fun c46 => ?_)
        · have hf := ite_t hf c46
          refine lv_bipush (v := (-4 : Int32)) hx hb dX11_order_61 (by decide) ?_
          exact r_I hx hb hr hlocks X hf dX11_order_63
        · have hf := ite_f hf c46
          refine lv_aload_n hx hb dX11_order_49 rfl (lv_at hl 1 rfl) ?_
          obtain ⟨g12, hf⟩ := gd_e hf
          refine g_R hx hb hts hown hK X o0 hN g12 fl_X11_85 (by decide) rfl (by decide) dX11_order_50 ?_
          obtain ⟨g13, hf⟩ := gd_e hf
          refine g_R hx hb hts hown hK X g12 hN g13 fl_X11_258 (by decide) rfl (by decide) dX11_order_53 ?_
          refine lv_iload_n hx hb dX11_order_56 rfl (lv_at hl 2 rfl) ?_
          obtain ⟨g14, hf⟩ := gd_e hf
          refine g_ia hx hb hK X g13 hN g14 (by decide) dX11_order_57 ?_
          refine lv_goto (tgt := 63) hx hb dX11_order_58 (by decide) ?_
          exact r_I hx hb hr hlocks X hf dX11_order_63
      · have hf := ite_f hf c27
        refine lv_aload_n hx hb dX11_order_30 rfl (lv_at hl 1 rfl) ?_
        obtain ⟨g15, hf⟩ := gd_e hf
        refine g_R hx hb hts hown hK X o0 hN g15 fl_X11_85 (by decide) rfl (by decide) dX11_order_31 ?_
        refine g_I hx hb hts hown hK X g15 hN fl_X11_252 (by decide) rfl dX11_order_34 ?_
        exact r_I hx hb hr hlocks X hf dX11_order_37
    · have hf := ite_f hf c8
      refine lv_iconst (v := (-1 : Int32)) hx hb dX11_order_11 (by decide) ?_
      exact r_I hx hb hr hlocks X hf dX11_order_12
end
theorem dX11_deny_0 : decode bX11_deny 0 = .ok (.iload_n 1, 1) := by decide +kernel
theorem dX11_deny_1 : decode bX11_deny 1 = .ok (.iconst 1, 1) := by decide +kernel
theorem dX11_deny_2 : decode bX11_deny 2 = .ok (.if_icmp .lt 17, 3) := by decide +kernel
theorem dX11_deny_5 : decode bX11_deny 5 = .ok (.iload_n 1, 1) := by decide +kernel
theorem dX11_deny_6 : decode bX11_deny 6 = .ok (.iconst 2, 1) := by decide +kernel
theorem dX11_deny_7 : decode bX11_deny 7 = .ok (.if_icmp .gt 12, 3) := by decide +kernel
theorem dX11_deny_10 : decode bX11_deny 10 = .ok (.iload_n 2, 1) := by decide +kernel
theorem dX11_deny_11 : decode bX11_deny 11 = .ok (.ifCond .lt 8, 3) := by decide +kernel
theorem dX11_deny_14 : decode bX11_deny 14 = .ok (.iload_n 2, 1) := by decide +kernel
theorem dX11_deny_15 : decode bX11_deny 15 = .ok (.iconst 2, 1) := by decide +kernel
theorem dX11_deny_16 : decode bX11_deny 16 = .ok (.if_icmp .le 5, 3) := by decide +kernel
theorem dX11_deny_19 : decode bX11_deny 19 = .ok (.iconst (-1), 1) := by decide +kernel
theorem dX11_deny_20 : decode bX11_deny 20 = .ok (.ireturn, 1) := by decide +kernel
theorem dX11_deny_21 : decode bX11_deny 21 = .ok (.aload_n 0, 1) := by decide +kernel
theorem dX11_deny_22 : decode bX11_deny 22 = .ok (.invokevirtual 161, 3) := by decide +kernel
theorem dX11_deny_25 : decode bX11_deny 25 = .ok (.astore_n 3, 1) := by decide +kernel
theorem dX11_deny_26 : decode bX11_deny 26 = .ok (.iload_n 1, 1) := by decide +kernel
theorem dX11_deny_27 : decode bX11_deny 27 = .ok (.iconst 1, 1) := by decide +kernel
theorem dX11_deny_28 : decode bX11_deny 28 = .ok (.if_icmp .ne 17, 3) := by decide +kernel
theorem dX11_deny_31 : decode bX11_deny 31 = .ok (.aload_n 0, 1) := by decide +kernel
theorem dX11_deny_32 : decode bX11_deny 32 = .ok (.getfield 85, 3) := by decide +kernel
theorem dX11_deny_35 : decode bX11_deny 35 = .ok (.aload_n 3, 1) := by decide +kernel
theorem dX11_deny_36 : decode bX11_deny 36 = .ok (.invokevirtual 261, 3) := by decide +kernel
theorem dX11_deny_39 : decode bX11_deny 39 = .ok (.ifCond .eq 17, 3) := by decide +kernel
theorem dX11_deny_42 : decode bX11_deny 42 = .ok (.goto 17, 3) := by decide +kernel
theorem dX11_deny_45 : decode bX11_deny 45 = .ok (.aload_n 0, 1) := by decide +kernel
theorem dX11_deny_46 : decode bX11_deny 46 = .ok (.getfield 85, 3) := by decide +kernel
theorem dX11_deny_49 : decode bX11_deny 49 = .ok (.aload_n 3, 1) := by decide +kernel
theorem dX11_deny_50 : decode bX11_deny 50 = .ok (.invokevirtual 265, 3) := by decide +kernel
theorem dX11_deny_53 : decode bX11_deny 53 = .ok (.ifCond .ne 6, 3) := by decide +kernel
theorem dX11_deny_56 : decode bX11_deny 56 = .ok (.bipush (-4), 2) := by decide +kernel
theorem dX11_deny_58 : decode bX11_deny 58 = .ok (.ireturn, 1) := by decide +kernel
theorem dX11_deny_59 : decode bX11_deny 59 = .ok (.iload_n 2, 1) := by decide +kernel
theorem dX11_deny_60 : decode bX11_deny 60 = .ok (.lookupswitch 44 #[(0, 28), (1, 36)], 28) := by decide +kernel
theorem dX11_deny_88 : decode bX11_deny 88 = .ok (.aload_n 0, 1) := by decide +kernel
theorem dX11_deny_89 : decode bX11_deny 89 = .ok (.getfield 85, 3) := by decide +kernel
theorem dX11_deny_92 : decode bX11_deny 92 = .ok (.getfield 268, 3) := by decide +kernel
theorem dX11_deny_95 : decode bX11_deny 95 = .ok (.ireturn, 1) := by decide +kernel
theorem dX11_deny_96 : decode bX11_deny 96 = .ok (.aload_n 0, 1) := by decide +kernel
theorem dX11_deny_97 : decode bX11_deny 97 = .ok (.getfield 85, 3) := by decide +kernel
theorem dX11_deny_100 : decode bX11_deny 100 = .ok (.getfield 271, 3) := by decide +kernel
theorem dX11_deny_103 : decode bX11_deny 103 = .ok (.ireturn, 1) := by decide +kernel
theorem dX11_deny_104 : decode bX11_deny 104 = .ok (.aload_n 0, 1) := by decide +kernel
theorem dX11_deny_105 : decode bX11_deny 105 = .ok (.getfield 85, 3) := by decide +kernel
theorem dX11_deny_108 : decode bX11_deny 108 = .ok (.getfield 274, 3) := by decide +kernel
theorem dX11_deny_111 : decode bX11_deny 111 = .ok (.ireturn, 1) := by decide +kernel
section
variable {p : Program} {l : Launch} {e : Env} {s : State} {m : MethodId} {args : Array Value} {below : List Frame} {meth : Method} {c : Code} {G : GG} {n : Nat} {h' : Hp} {rv : Int32}
set_option maxHeartbeats 4000000
set_option maxRecDepth 100000
theorem j_X11_deny_59 (C0 : Cx p s m args meth c G bX11_deny RX11 4 (some .int) "deny") (hN : NX ≤ n) {H : Heap} {locs : List Loc} {ls : Array Slot} {h : Hp} {x0 : Nat} {x2 : Int32} (X : XW G n h s 0 H locs) (hl : lv_has ls 4 [(0, .ref (bs G + x0)), (2, .int x2)]) (o0 : kd x0 = 11) (hf : f_X11_deny_59 h x0 x2 = some (rv, h')) : W p l e (rmC 7 0 0) s m args below meth c H locs 0 0 (MQ below (QP G n h' (some (.int rv))) args s 0 0 (Ab G)) (F0 m 59 ls []) := by
  obtain ⟨hx, hb, hr, hml, hown, hts, hK, hlocks, hnm⟩ := id C0
  unfold f_X11_deny_59 at hf
  refine lv_iload_n hx hb dX11_deny_59 rfl (lv_at hl 1 rfl) ?_
  by_cases s60_0 : x2 = (0 : Int32)
  · have hf := ite_t hf s60_0
    refine lv_lookup (off := 28) (tgt := 88) hx hb dX11_deny_60 (by decide) (by rw [s60_0]; decide) (by decide) ?_
    refine lv_aload_n hx hb dX11_deny_88 rfl (lv_at hl 0 rfl) ?_
    obtain ⟨g1, hf⟩ := gd_e hf
    refine g_R hx hb hts hown hK X o0 hN g1 fl_X11_85 (by decide) rfl (by decide) dX11_deny_89 ?_
    refine g_I hx hb hts hown hK X g1 hN fl_X11_268 (by decide) rfl dX11_deny_92 ?_
    exact r_I hx hb hr hlocks X hf dX11_deny_95
  have hf := ite_f hf s60_0
  by_cases s60_1 : x2 = (1 : Int32)
  · have hf := ite_t hf s60_1
    refine lv_lookup (off := 36) (tgt := 96) hx hb dX11_deny_60 (by decide) (by rw [s60_1]; decide) (by decide) ?_
    refine lv_aload_n hx hb dX11_deny_96 rfl (lv_at hl 0 rfl) ?_
    obtain ⟨g2, hf⟩ := gd_e hf
    refine g_R hx hb hts hown hK X o0 hN g2 fl_X11_85 (by decide) rfl (by decide) dX11_deny_97 ?_
    refine g_I hx hb hts hown hK X g2 hN fl_X11_271 (by decide) rfl dX11_deny_100 ?_
    exact r_I hx hb hr hlocks X hf dX11_deny_103
  have hf := ite_f hf s60_1
  refine lv_lookup (off := 44) (tgt := 104) hx hb dX11_deny_60 (by decide) (lk_df (ex := [(0 : Int32), (1 : Int32)]) (by decide) (List.forall_mem_cons.mpr ⟨s60_0, List.forall_mem_cons.mpr ⟨s60_1, (fun _ hz => absurd hz List.not_mem_nil)⟩⟩)) (by decide) ?_
  refine lv_aload_n hx hb dX11_deny_104 rfl (lv_at hl 0 rfl) ?_
  obtain ⟨g3, hf⟩ := gd_e hf
  refine g_R hx hb hts hown hK X o0 hN g3 fl_X11_85 (by decide) rfl (by decide) dX11_deny_105 ?_
  refine g_I hx hb hts hown hK X g3 hN fl_X11_274 (by decide) rfl dX11_deny_108 ?_
  exact r_I hx hb hr hlocks X hf dX11_deny_111
theorem k_X11_deny (l : Launch) (G : GG) (n : Nat) (hN : NX ≤ n) {h h' : Hp} {x0 : Nat} {x1 : Int32} {x2 : Int32} {rv : Int32} (hf : f_X11_deny h x0 x1 x2 = some (rv, h')) : CT l G n n yX11_deny (.code yX11_deny bX11_deny 4 (some .int)) 7 0 0 [.ref (bs G + x0), .int x1, .int x2] h h' (some (.int rv)) := by
  refine ct_of (maxL := 4) (ret := (some .int)) (bytes := bX11_deny) (by decide) (Nat.le_of_ble_eq_true rfl) (fun p e s m below meth c C0 X ls hl => ?_)
  have hl : lv_has ls 4 [(0, .ref (bs G + x0)), (1, .int x1), (2, .int x2)] := hl
  obtain ⟨hx, hb, hr, hml, hown, hts, hK, hlocks, hnm⟩ := id C0
  unfold f_X11_deny at hf
  obtain ⟨o0, hf⟩ := gd_e hf
  refine lv_iload_n hx hb dX11_deny_0 rfl (lv_at hl 1 rfl) ?_
  refine lv_iconst (v := (1 : Int32)) hx hb dX11_deny_1 (by decide) ?_
  refine lv_icmp_lt (tgt := 19) hx hb dX11_deny_2 (by decide) (fun c2 => ?_) (fun c2 => ?_)
  · have hf := ite_t hf c2
    refine lv_iconst (v := (-1 : Int32)) hx hb dX11_deny_19 (by decide) ?_
    exact r_I hx hb hr hlocks X hf dX11_deny_20
  · have hf := ite_f hf c2
    refine lv_iload_n hx hb dX11_deny_5 rfl (lv_at hl 1 rfl) ?_
    refine lv_iconst (v := (2 : Int32)) hx hb dX11_deny_6 (by decide) ?_
    refine lv_icmp_gt (tgt := 19) hx hb dX11_deny_7 (by decide) (fun c7 => ?_) (fun c7 => ?_)
    · have hf := ite_t hf c7
      refine lv_iconst (v := (-1 : Int32)) hx hb dX11_deny_19 (by decide) ?_
      exact r_I hx hb hr hlocks X hf dX11_deny_20
    · have hf := ite_f hf c7
      refine lv_iload_n hx hb dX11_deny_10 rfl (lv_at hl 2 rfl) ?_
      refine lv_if_lt (tgt := 19) hx hb dX11_deny_11 (by decide) (fun c11 => ?_) (fun c11 => ?_)
      · have hf := ite_t hf c11
        refine lv_iconst (v := (-1 : Int32)) hx hb dX11_deny_19 (by decide) ?_
        exact r_I hx hb hr hlocks X hf dX11_deny_20
      · have hf := ite_f hf c11
        refine lv_iload_n hx hb dX11_deny_14 rfl (lv_at hl 2 rfl) ?_
        refine lv_iconst (v := (2 : Int32)) hx hb dX11_deny_15 (by decide) ?_
        refine lv_icmp_le (tgt := 21) hx hb dX11_deny_16 (by decide) (fun c16 => ?_) (fun c16 => ?_)
        · have hf := ite_t hf c16
          refine lv_aload_n hx hb dX11_deny_21 rfl (lv_at hl 0 rfl) ?_
          obtain ⟨r1, h2, q3, hf⟩ := bd_e hf
          refine c_V0 (As := []) (rest := []) (st1 := [.ref (bs G + r1)]) hx hb hml hown hts hK X (k_X11_sceneNow l G n hN q3) o0 hN lc_X11_sceneNow lv_X11_161 (ci := 11) rfl rfl (by decide) rfl hl.1 (Nat.le_of_ble_eq_true rfl) dX11_deny_22 rfl (fun H locs X => ?_)
          obtain ⟨g4, hf⟩ := gd_e hf
          refine lv_astore_n (lv' := [(3, .ref (bs G + r1)), (0, .ref (bs G + x0)), (1, .int x1), (2, .int x2)]) hx hb dX11_deny_25 rfl hl (by decide) rfl (fun ls hl => ?_)
          refine lv_iload_n hx hb dX11_deny_26 rfl (lv_at hl 2 rfl) ?_
          refine lv_iconst (v := (1 : Int32)) hx hb dX11_deny_27 (by decide) ?_
          refine lv_icmp_ne (tgt := 45) hx hb dX11_deny_28 (by decide) (fun c28 => ?_) (fun c28 => ?_)
          · have hf := ite_f hf c28
            refine lv_aload_n hx hb dX11_deny_45 rfl (lv_at hl 1 rfl) ?_
            obtain ⟨g5, hf⟩ := gd_e hf
            refine g_R hx hb hts hown hK X o0 hN g5 fl_X11_85 (by decide) rfl (by decide) dX11_deny_46 ?_
            refine lv_aload_n hx hb dX11_deny_49 rfl (lv_at hl 0 rfl) ?_
            obtain ⟨r6, h7, q8, hf⟩ := bd_e hf
            refine c_V0 (As := [.ref (bs G + r1)]) (rest := []) (st1 := [.int r6]) hx hb hml hown hts hK X (k_X1_denyTwo l G n hN q8) g5 hN lc_X1_denyTwo lv_X11_265 (ci := 1) rfl rfl (by decide) rfl hl.1 (Nat.le_of_ble_eq_true rfl) dX11_deny_50 rfl (fun H locs X => ?_)
            refine lv_if_ne (tgt := 59) hx hb dX11_deny_53 (by decide) (fun c53 => ?_) (fun c53 => ?_)
            · have hf := ite_f hf c53
              exact j_X11_deny_59 C0 hN X (lv_sub hl [1, 3] rfl) o0 hf
            · have hf := ite_t hf c53
              refine lv_bipush (v := (-4 : Int32)) hx hb dX11_deny_56 (by decide) ?_
              exact r_I hx hb hr hlocks X hf dX11_deny_58
          · have hf := ite_t hf c28
            refine lv_aload_n hx hb dX11_deny_31 rfl (lv_at hl 1 rfl) ?_
            obtain ⟨g9, hf⟩ := gd_e hf
            refine g_R hx hb hts hown hK X o0 hN g9 fl_X11_85 (by decide) rfl (by decide) dX11_deny_32 ?_
            refine lv_aload_n hx hb dX11_deny_35 rfl (lv_at hl 0 rfl) ?_
            obtain ⟨r10, h11, q12, hf⟩ := bd_e hf
            refine c_V0 (As := [.ref (bs G + r1)]) (rest := []) (st1 := [.int r10]) hx hb hml hown hts hK X (k_X1_denyOne l G n hN q12) g9 hN lc_X1_denyOne lv_X11_261 (ci := 1) rfl rfl (by decide) rfl hl.1 (Nat.le_of_ble_eq_true rfl) dX11_deny_36 rfl (fun H locs X => ?_)
            refine lv_if_eq (tgt := 56) hx hb dX11_deny_39 (by decide) (fun c39 => ?_) (fun c39 => ?_)
            · have hf := ite_t hf c39
              refine lv_bipush (v := (-4 : Int32)) hx hb dX11_deny_56 (by decide) ?_
              exact r_I hx hb hr hlocks X hf dX11_deny_58
            · have hf := ite_f hf c39
              refine lv_goto (tgt := 59) hx hb dX11_deny_42 (by decide) ?_
              exact j_X11_deny_59 C0 hN X (lv_sub hl [1, 3] rfl) o0 hf
        · have hf := ite_f hf c16
          refine lv_iconst (v := (-1 : Int32)) hx hb dX11_deny_19 (by decide) ?_
          exact r_I hx hb hr hlocks X hf dX11_deny_20
end
theorem dX11_guard_0 : decode bX11_guard 0 = .ok (.aload_n 0, 1) := by decide +kernel
theorem dX11_guard_1 : decode bX11_guard 1 = .ok (.invokevirtual 161, 3) := by decide +kernel
theorem dX11_guard_4 : decode bX11_guard 4 = .ok (.astore_n 1, 1) := by decide +kernel
theorem dX11_guard_5 : decode bX11_guard 5 = .ok (.aload_n 1, 1) := by decide +kernel
theorem dX11_guard_6 : decode bX11_guard 6 = .ok (.getfield 277, 3) := by decide +kernel
theorem dX11_guard_9 : decode bX11_guard 9 = .ok (.istore_n 2, 1) := by decide +kernel
theorem dX11_guard_10 : decode bX11_guard 10 = .ok (.bipush 7, 2) := by decide +kernel
theorem dX11_guard_12 : decode bX11_guard 12 = .ok (.istore_n 3, 1) := by decide +kernel
theorem dX11_guard_13 : decode bX11_guard 13 = .ok (.bipush (-4), 2) := by decide +kernel
theorem dX11_guard_15 : decode bX11_guard 15 = .ok (.istore 4, 2) := by decide +kernel
theorem dX11_guard_17 : decode bX11_guard 17 = .ok (.iconst 1, 1) := by decide +kernel
theorem dX11_guard_18 : decode bX11_guard 18 = .ok (.istore 5, 2) := by decide +kernel
theorem dX11_guard_20 : decode bX11_guard 20 = .ok (.iload 5, 2) := by decide +kernel
theorem dX11_guard_22 : decode bX11_guard 22 = .ok (.aload_n 0, 1) := by decide +kernel
theorem dX11_guard_23 : decode bX11_guard 23 = .ok (.getfield 19, 3) := by decide +kernel
theorem dX11_guard_26 : decode bX11_guard 26 = .ok (.getfield 128, 3) := by decide +kernel
theorem dX11_guard_29 : decode bX11_guard 29 = .ok (.if_icmp .gt 65, 3) := by decide +kernel
theorem dX11_guard_32 : decode bX11_guard 32 = .ok (.iload_n 3, 1) := by decide +kernel
theorem dX11_guard_33 : decode bX11_guard 33 = .ok (.ifCond .le 61, 3) := by decide +kernel
theorem dX11_guard_36 : decode bX11_guard 36 = .ok (.aload_n 1, 1) := by decide +kernel
theorem dX11_guard_37 : decode bX11_guard 37 = .ok (.getfield 242, 3) := by decide +kernel
theorem dX11_guard_40 : decode bX11_guard 40 = .ok (.iload 5, 2) := by decide +kernel
theorem dX11_guard_42 : decode bX11_guard 42 = .ok (.iconst 1, 1) := by decide +kernel
theorem dX11_guard_43 : decode bX11_guard 43 = .ok (.isub, 1) := by decide +kernel
theorem dX11_guard_44 : decode bX11_guard 44 = .ok (.invokestatic 184, 3) := by decide +kernel
theorem dX11_guard_47 : decode bX11_guard 47 = .ok (.ifCond .ne 41, 3) := by decide +kernel
theorem dX11_guard_50 : decode bX11_guard 50 = .ok (.aload_n 1, 1) := by decide +kernel
theorem dX11_guard_51 : decode bX11_guard 51 = .ok (.iload_n 2, 1) := by decide +kernel
theorem dX11_guard_52 : decode bX11_guard 52 = .ok (.iconst 1, 1) := by decide +kernel
theorem dX11_guard_53 : decode bX11_guard 53 = .ok (.iload 5, 2) := by decide +kernel
theorem dX11_guard_55 : decode bX11_guard 55 = .ok (.iconst 1, 1) := by decide +kernel
theorem dX11_guard_56 : decode bX11_guard 56 = .ok (.isub, 1) := by decide +kernel
theorem dX11_guard_57 : decode bX11_guard 57 = .ok (.ishl, 1) := by decide +kernel
theorem dX11_guard_58 : decode bX11_guard 58 = .ok (.ior, 1) := by decide +kernel
theorem dX11_guard_59 : decode bX11_guard 59 = .ok (.putfield 277, 3) := by decide +kernel
theorem dX11_guard_62 : decode bX11_guard 62 = .ok (.aload_n 0, 1) := by decide +kernel
theorem dX11_guard_63 : decode bX11_guard 63 = .ok (.getfield 85, 3) := by decide +kernel
theorem dX11_guard_66 : decode bX11_guard 66 = .ok (.aload_n 1, 1) := by decide +kernel
theorem dX11_guard_67 : decode bX11_guard 67 = .ok (.invokevirtual 238, 3) := by decide +kernel
theorem dX11_guard_70 : decode bX11_guard 70 = .ok (.invokestatic 213, 3) := by decide +kernel
theorem dX11_guard_73 : decode bX11_guard 73 = .ok (.istore 6, 2) := by decide +kernel
theorem dX11_guard_75 : decode bX11_guard 75 = .ok (.iload 6, 2) := by decide +kernel
theorem dX11_guard_77 : decode bX11_guard 77 = .ok (.iload_n 3, 1) := by decide +kernel
theorem dX11_guard_78 : decode bX11_guard 78 = .ok (.if_icmp .ge 10, 3) := by decide +kernel
theorem dX11_guard_81 : decode bX11_guard 81 = .ok (.iload 6, 2) := by decide +kernel
theorem dX11_guard_83 : decode bX11_guard 83 = .ok (.istore_n 3, 1) := by decide +kernel
theorem dX11_guard_84 : decode bX11_guard 84 = .ok (.iload 5, 2) := by decide +kernel
theorem dX11_guard_86 : decode bX11_guard 86 = .ok (.istore 4, 2) := by decide +kernel
theorem dX11_guard_88 : decode bX11_guard 88 = .ok (.iinc 5 1, 3) := by decide +kernel
theorem dX11_guard_91 : decode bX11_guard 91 = .ok (.goto (-71), 3) := by decide +kernel
theorem dX11_guard_94 : decode bX11_guard 94 = .ok (.iload 4, 2) := by decide +kernel
theorem dX11_guard_96 : decode bX11_guard 96 = .ok (.ireturn, 1) := by decide +kernel
section
variable {p : Program} {l : Launch} {e : Env} {s : State} {m : MethodId} {args : Array Value} {below : List Frame} {meth : Method} {c : Code} {G : GG} {n : Nat} {h' : Hp} {rv : Int32}
set_option maxHeartbeats 4000000
set_option maxRecDepth 100000
theorem j_X11_guard_20 (C0 : Cx p s m args meth c G bX11_guard RX11 7 (some .int) "guard") (hN : NX ≤ n) : ∀ (fu : Nat), ∀ {H : Heap} {locs : List Loc} {ls : Array Slot} {h : Hp} {x0 : Nat} {x1 : Nat} {x2 : Int32} {x3 : Int32} {x4 : Int32} {x5 : Int32}, XW G n h s 0 H locs → lv_has ls 7 [(0, .ref (bs G + x0)), (1, .ref (bs G + x1)), (2, .int x2), (3, .int x3), (4, .int x4), (5, .int x5)] → kd x0 = 11 → kd x1 = 6 → f_X11_guard_20 fu h x0 x1 x2 x3 x4 x5 = some (rv, h') → W p l e (rmC 5 0 0) s m args below meth c H locs 0 0 (MQ below (QP G n h' (some (.int rv))) args s 0 0 (Ab G)) (F0 m 20 ls []) := by
  obtain ⟨hx, hb, hr, hml, hown, hts, hK, hlocks, hnm⟩ := id C0
  intro fu
  induction fu with
  | zero => intro H locs ls h x0 x1 x2 x3 x4 x5 X hl o0 o1 hf; cases hf
  | succ fu ih =>
    intro H locs ls h x0 x1 x2 x3 x4 x5 X hl o0 o1 hf
    rw [f_X11_guard_20] at hf
    refine lv_iload hx hb dX11_guard_20 (lv_at hl 5 rfl) ?_
    refine lv_aload_n hx hb dX11_guard_22 rfl (lv_at hl 0 rfl) ?_
    obtain ⟨g1, hf⟩ := gd_e hf
    refine g_R hx hb hts hown hK X o0 hN g1 fl_X11_19 (by decide) rfl (by decide) dX11_guard_23 ?_
    refine g_I hx hb hts hown hK X g1 hN fl_X11_128 (by decide) rfl dX11_guard_26 ?_
    refine lv_icmp_gt (tgt := 94) hx hb dX11_guard_29 (by decide) (fun c29 => ?_) (fun c29 => ?_)
    · have hf := ite_t hf c29
      refine lv_iload hx hb dX11_guard_94 (lv_at hl 4 rfl) ?_
      exact r_I hx hb hr hlocks X hf dX11_guard_96
    · have hf := ite_f hf c29
      refine lv_iload_n hx hb dX11_guard_32 rfl (lv_at hl 3 rfl) ?_
      refine lv_if_le (tgt := 94) hx hb dX11_guard_33 (by decide) (fun c33 => ?_) (fun c33 => ?_)
      · have hf := ite_t hf c33
        refine lv_iload hx hb dX11_guard_94 (lv_at hl 4 rfl) ?_
        exact r_I hx hb hr hlocks X hf dX11_guard_96
      · have hf := ite_f hf c33
        refine lv_aload_n hx hb dX11_guard_36 rfl (lv_at hl 1 rfl) ?_
        refine g_I hx hb hts hown hK X o1 hN fl_X11_242 (by decide) rfl dX11_guard_37 ?_
        refine lv_iload hx hb dX11_guard_40 (lv_at hl 5 rfl) ?_
        refine lv_iconst (v := (1 : Int32)) hx hb dX11_guard_42 (by decide) ?_
        refine lv_isub hx hb dX11_guard_43 ?_
        obtain ⟨r2, h3, q4, hf⟩ := bd_e hf
        refine c_S0 (As := [.int (h.1 x1 2), .int (x5 - (1 : Int32))]) (rest := []) (st1 := [.int r2]) hx hb hml hown hts hK X (k_X11_hasBit l G n hN q4) lc_X11_hasBit ls_X11_184 (by decide) rfl hl.1 (Nat.le_of_ble_eq_true rfl) dX11_guard_44 rfl (fun H locs X => ?_)
        refine lv_if_ne (tgt := 88) hx hb dX11_guard_47 (by decide) (fun c47 => ?_) (fun c47 => ?_)
        · have hf := ite_f hf c47
          refine lv_iinc (v := (x5 + (1 : Int32))) (lv' := [(5, .int (x5 + (1 : Int32))), (0, .ref (bs G + x0)), (1, .ref (bs G + x1)), (2, .int x2), (3, .int x3), (4, .int x4)]) hx hb dX11_guard_88 hl (k := 5) rfl rfl (by decide) rfl (fun ls hl => ?_)
          refine lv_goto (tgt := 20) hx hb dX11_guard_91 (by decide) ?_
          exact ih X (lv_sub hl [1, 2, 3, 4, 5, 0] rfl) o0 o1 hf
        · have hf := ite_t hf c47
          refine lv_aload_n hx hb dX11_guard_50 rfl (lv_at hl 1 rfl) ?_
          refine lv_iload_n hx hb dX11_guard_51 rfl (lv_at hl 2 rfl) ?_
          refine lv_iconst (v := (1 : Int32)) hx hb dX11_guard_52 (by decide) ?_
          refine lv_iload hx hb dX11_guard_53 (lv_at hl 5 rfl) ?_
          refine lv_iconst (v := (1 : Int32)) hx hb dX11_guard_55 (by decide) ?_
          refine lv_isub hx hb dX11_guard_56 ?_
          refine lv_ishl hx hb dX11_guard_57 ?_
          refine lv_ior hx hb dX11_guard_58 ?_
          refine g_PI hx hb hts hown hK X o1 hN fl_X11_277 ft_6_3 (by decide) rfl dX11_guard_59 (fun H locs X => ?_)
          obtain ⟨h5, e6, hf⟩ := lt_e hf
          rw [← e6] at X
          refine lv_aload_n hx hb dX11_guard_62 rfl (lv_at hl 0 rfl) ?_
          obtain ⟨g7, hf⟩ := gd_e hf
          refine g_R hx hb hts hown hK X o0 hN g7 fl_X11_85 (by decide) rfl (by decide) dX11_guard_63 ?_
          refine lv_aload_n hx hb dX11_guard_66 rfl (lv_at hl 1 rfl) ?_
          obtain ⟨r8, h9, q10, hf⟩ := bd_e hf
          refine c_V0 (As := [.ref (bs G + x1)]) (rest := []) (st1 := [.int r8]) hx hb hml hown hts hK X (k_X1_stuckIn l G n hN q10) g7 hN lc_X1_stuckIn lv_X11_238 (ci := 1) rfl rfl (by decide) rfl hl.1 (Nat.le_of_ble_eq_true rfl) dX11_guard_67 rfl (fun H locs X => ?_)
          obtain ⟨r11, h12, q13, hf⟩ := bd_e hf
          refine c_S0 (As := [.int r8]) (rest := []) (st1 := [.int r11]) hx hb hml hown hts hK X (k_J6_bitCount_0f7a4 l G n hN q13) lc_J6_bitCount_0f7a4 ls_X11_213 (by decide) rfl hl.1 (Nat.le_of_ble_eq_true rfl) dX11_guard_70 rfl (fun H locs X => ?_)
          refine lv_istore (lv' := [(6, .int r11), (0, .ref (bs G + x0)), (1, .ref (bs G + x1)), (2, .int x2), (3, .int x3), (4, .int x4), (5, .int x5)]) hx hb dX11_guard_73 hl (by decide) rfl (fun ls hl => ?_)
          refine lv_iload hx hb dX11_guard_75 (lv_at hl 0 rfl) ?_
          refine lv_iload_n hx hb dX11_guard_77 rfl (lv_at hl 4 rfl) ?_
          refine lv_icmp_ge (tgt := 88) hx hb dX11_guard_78 (by decide) (fun c78 => ?_) (fun c78 => ?_)
          · have hf := ite_t hf c78
            refine lv_iinc (v := (x5 + (1 : Int32))) (lv' := [(5, .int (x5 + (1 : Int32))), (6, .int r11), (0, .ref (bs G + x0)), (1, .ref (bs G + x1)), (2, .int x2), (3, .int x3), (4, .int x4)]) hx hb dX11_guard_88 hl (k := 6) rfl rfl (by decide) rfl (fun ls hl => ?_)
            refine lv_goto (tgt := 20) hx hb dX11_guard_91 (by decide) ?_
            exact ih X (lv_sub hl [2, 3, 4, 5, 6, 0] rfl) o0 o1 hf
          · have hf := ite_f hf c78
            refine lv_iload hx hb dX11_guard_81 (lv_at hl 0 rfl) ?_
            refine lv_istore_n (lv' := [(3, .int r11), (6, .int r11), (0, .ref (bs G + x0)), (1, .ref (bs G + x1)), (2, .int x2), (4, .int x4), (5, .int x5)]) hx hb dX11_guard_83 rfl hl (by decide) rfl (fun ls hl => ?_)
            refine lv_iload hx hb dX11_guard_84 (lv_at hl 6 rfl) ?_
            refine lv_istore (lv' := [(4, .int x5), (3, .int r11), (6, .int r11), (0, .ref (bs G + x0)), (1, .ref (bs G + x1)), (2, .int x2), (5, .int x5)]) hx hb dX11_guard_86 hl (by decide) rfl (fun ls hl => ?_)
            refine lv_iinc (v := (x5 + (1 : Int32))) (lv' := [(5, .int (x5 + (1 : Int32))), (4, .int x5), (3, .int r11), (6, .int r11), (0, .ref (bs G + x0)), (1, .ref (bs G + x1)), (2, .int x2)]) hx hb dX11_guard_88 hl (k := 6) rfl rfl (by decide) rfl (fun ls hl => ?_)
            refine lv_goto (tgt := 20) hx hb dX11_guard_91 (by decide) ?_
            exact ih X (lv_sub hl [4, 5, 6, 2, 1, 0] rfl) o0 o1 hf
theorem k_X11_guard (l : Launch) (G : GG) (n : Nat) (hN : NX ≤ n) {h h' : Hp} {x0 : Nat} {rv : Int32} (hf : f_X11_guard h x0 = some (rv, h')) : CT l G n n yX11_guard (.code yX11_guard bX11_guard 7 (some .int)) 5 0 0 [.ref (bs G + x0)] h h' (some (.int rv)) := by
  refine ct_of (maxL := 7) (ret := (some .int)) (bytes := bX11_guard) (by decide) (Nat.le_of_ble_eq_true rfl) (fun p e s m below meth c C0 X ls hl => ?_)
  have hl : lv_has ls 7 [(0, .ref (bs G + x0))] := hl
  obtain ⟨hx, hb, hr, hml, hown, hts, hK, hlocks, hnm⟩ := id C0
  unfold f_X11_guard at hf
  obtain ⟨o0, hf⟩ := gd_e hf
  refine lv_aload_n hx hb dX11_guard_0 rfl (lv_at hl 0 rfl) ?_
  obtain ⟨r1, h2, q3, hf⟩ := bd_e hf
  refine c_V0 (As := []) (rest := []) (st1 := [.ref (bs G + r1)]) hx hb hml hown hts hK X (k_X11_sceneNow l G n hN q3) o0 hN lc_X11_sceneNow lv_X11_161 (ci := 11) rfl rfl (by decide) rfl hl.1 (Nat.le_of_ble_eq_true rfl) dX11_guard_1 rfl (fun H locs X => ?_)
  obtain ⟨g4, hf⟩ := gd_e hf
  refine lv_astore_n (lv' := [(1, .ref (bs G + r1)), (0, .ref (bs G + x0))]) hx hb dX11_guard_4 rfl hl (by decide) rfl (fun ls hl => ?_)
  refine lv_aload_n hx hb dX11_guard_5 rfl (lv_at hl 0 rfl) ?_
  refine g_I hx hb hts hown hK X g4 hN fl_X11_277 (by decide) rfl dX11_guard_6 ?_
  refine lv_istore_n (lv' := [(2, .int (h2.1 r1 3)), (1, .ref (bs G + r1)), (0, .ref (bs G + x0))]) hx hb dX11_guard_9 rfl hl (by decide) rfl (fun ls hl => ?_)
  refine lv_bipush (v := (7 : Int32)) hx hb dX11_guard_10 (by decide) ?_
  refine lv_istore_n (lv' := [(3, .int (7 : Int32)), (2, .int (h2.1 r1 3)), (1, .ref (bs G + r1)), (0, .ref (bs G + x0))]) hx hb dX11_guard_12 rfl hl (by decide) rfl (fun ls hl => ?_)
  refine lv_bipush (v := (-4 : Int32)) hx hb dX11_guard_13 (by decide) ?_
  refine lv_istore (lv' := [(4, .int (-4 : Int32)), (3, .int (7 : Int32)), (2, .int (h2.1 r1 3)), (1, .ref (bs G + r1)), (0, .ref (bs G + x0))]) hx hb dX11_guard_15 hl (by decide) rfl (fun ls hl => ?_)
  refine lv_iconst (v := (1 : Int32)) hx hb dX11_guard_17 (by decide) ?_
  refine lv_istore (lv' := [(5, .int (1 : Int32)), (4, .int (-4 : Int32)), (3, .int (7 : Int32)), (2, .int (h2.1 r1 3)), (1, .ref (bs G + r1)), (0, .ref (bs G + x0))]) hx hb dX11_guard_18 hl (by decide) rfl (fun ls hl => ?_)
  exact j_X11_guard_20 C0 hN FU X (lv_sub hl [5, 4, 3, 2, 1, 0] rfl) o0 g4 hf
end
theorem dX11_value_0 : decode bX11_value 0 = .ok (.aload_n 0, 1) := by decide +kernel
theorem dX11_value_1 : decode bX11_value 1 = .ok (.getfield 19, 3) := by decide +kernel
theorem dX11_value_4 : decode bX11_value 4 = .ok (.iload_n 1, 1) := by decide +kernel
theorem dX11_value_5 : decode bX11_value 5 = .ok (.invokevirtual 131, 3) := by decide +kernel
theorem dX11_value_8 : decode bX11_value 8 = .ok (.ifCond .ne 5, 3) := by decide +kernel
theorem dX11_value_11 : decode bX11_value 11 = .ok (.iconst (-1), 1) := by decide +kernel
theorem dX11_value_12 : decode bX11_value 12 = .ok (.ireturn, 1) := by decide +kernel
theorem dX11_value_13 : decode bX11_value 13 = .ok (.aload_n 0, 1) := by decide +kernel
theorem dX11_value_14 : decode bX11_value 14 = .ok (.getfield 29, 3) := by decide +kernel
theorem dX11_value_17 : decode bX11_value 17 = .ok (.invokevirtual 165, 3) := by decide +kernel
theorem dX11_value_20 : decode bX11_value 20 = .ok (.iload_n 1, 1) := by decide +kernel
theorem dX11_value_21 : decode bX11_value 21 = .ok (.iconst 1, 1) := by decide +kernel
theorem dX11_value_22 : decode bX11_value 22 = .ok (.isub, 1) := by decide +kernel
theorem dX11_value_23 : decode bX11_value 23 = .ok (.invokestatic 184, 3) := by decide +kernel
theorem dX11_value_26 : decode bX11_value 26 = .ok (.ifCond .eq 6, 3) := by decide +kernel
theorem dX11_value_29 : decode bX11_value 29 = .ok (.bipush (-2), 2) := by decide +kernel
theorem dX11_value_31 : decode bX11_value 31 = .ok (.ireturn, 1) := by decide +kernel
theorem dX11_value_32 : decode bX11_value 32 = .ok (.aload_n 0, 1) := by decide +kernel
theorem dX11_value_33 : decode bX11_value 33 = .ok (.invokevirtual 161, 3) := by decide +kernel
theorem dX11_value_36 : decode bX11_value 36 = .ok (.astore_n 2, 1) := by decide +kernel
theorem dX11_value_37 : decode bX11_value 37 = .ok (.iconst 0, 1) := by decide +kernel
theorem dX11_value_38 : decode bX11_value 38 = .ok (.istore_n 3, 1) := by decide +kernel
theorem dX11_value_39 : decode bX11_value 39 = .ok (.iconst 0, 1) := by decide +kernel
theorem dX11_value_40 : decode bX11_value 40 = .ok (.istore 4, 2) := by decide +kernel
theorem dX11_value_42 : decode bX11_value 42 = .ok (.iload 4, 2) := by decide +kernel
theorem dX11_value_44 : decode bX11_value 44 = .ok (.aload_n 0, 1) := by decide +kernel
theorem dX11_value_45 : decode bX11_value 45 = .ok (.getfield 19, 3) := by decide +kernel
theorem dX11_value_48 : decode bX11_value 48 = .ok (.getfield 116, 3) := by decide +kernel
theorem dX11_value_51 : decode bX11_value 51 = .ok (.if_icmp .ge 94, 3) := by decide +kernel
theorem dX11_value_54 : decode bX11_value 54 = .ok (.aload_n 2, 1) := by decide +kernel
theorem dX11_value_55 : decode bX11_value 55 = .ok (.iload 4, 2) := by decide +kernel
theorem dX11_value_57 : decode bX11_value 57 = .ok (.aload_n 2, 1) := by decide +kernel
theorem dX11_value_58 : decode bX11_value 58 = .ok (.getfield 242, 3) := by decide +kernel
theorem dX11_value_61 : decode bX11_value 61 = .ok (.invokevirtual 168, 3) := by decide +kernel
theorem dX11_value_64 : decode bX11_value 64 = .ok (.istore 5, 2) := by decide +kernel
theorem dX11_value_66 : decode bX11_value 66 = .ok (.iload 5, 2) := by decide +kernel
theorem dX11_value_68 : decode bX11_value 68 = .ok (.iconst 1, 1) := by decide +kernel
theorem dX11_value_69 : decode bX11_value 69 = .ok (.iload_n 1, 1) := by decide +kernel
theorem dX11_value_70 : decode bX11_value 70 = .ok (.iconst 1, 1) := by decide +kernel
theorem dX11_value_71 : decode bX11_value 71 = .ok (.isub, 1) := by decide +kernel
theorem dX11_value_72 : decode bX11_value 72 = .ok (.ishl, 1) := by decide +kernel
theorem dX11_value_73 : decode bX11_value 73 = .ok (.iconst (-1), 1) := by decide +kernel
theorem dX11_value_74 : decode bX11_value 74 = .ok (.ixor, 1) := by decide +kernel
theorem dX11_value_75 : decode bX11_value 75 = .ok (.iand, 1) := by decide +kernel
theorem dX11_value_76 : decode bX11_value 76 = .ok (.istore 6, 2) := by decide +kernel
theorem dX11_value_78 : decode bX11_value 78 = .ok (.aload_n 0, 1) := by decide +kernel
theorem dX11_value_79 : decode bX11_value 79 = .ok (.getfield 69, 3) := by decide +kernel
theorem dX11_value_82 : decode bX11_value 82 = .ok (.iload 5, 2) := by decide +kernel
theorem dX11_value_84 : decode bX11_value 84 = .ok (.aload_n 0, 1) := by decide +kernel
theorem dX11_value_85 : decode bX11_value 85 = .ok (.getfield 19, 3) := by decide +kernel
theorem dX11_value_88 : decode bX11_value 88 = .ok (.getfield 155, 3) := by decide +kernel
theorem dX11_value_91 : decode bX11_value 91 = .ok (.iload 4, 2) := by decide +kernel
theorem dX11_value_93 : decode bX11_value 93 = .ok (.iaload, 1) := by decide +kernel
theorem dX11_value_94 : decode bX11_value 94 = .ok (.aload_n 0, 1) := by decide +kernel
theorem dX11_value_95 : decode bX11_value 95 = .ok (.getfield 19, 3) := by decide +kernel
theorem dX11_value_98 : decode bX11_value 98 = .ok (.getfield 172, 3) := by decide +kernel
theorem dX11_value_101 : decode bX11_value 101 = .ok (.invokevirtual 244, 3) := by decide +kernel
theorem dX11_value_104 : decode bX11_value 104 = .ok (.ifCond .eq 35, 3) := by decide +kernel
theorem dX11_value_107 : decode bX11_value 107 = .ok (.aload_n 0, 1) := by decide +kernel
theorem dX11_value_108 : decode bX11_value 108 = .ok (.getfield 69, 3) := by decide +kernel
theorem dX11_value_111 : decode bX11_value 111 = .ok (.iload 6, 2) := by decide +kernel
theorem dX11_value_113 : decode bX11_value 113 = .ok (.aload_n 0, 1) := by decide +kernel
theorem dX11_value_114 : decode bX11_value 114 = .ok (.getfield 19, 3) := by decide +kernel
theorem dX11_value_117 : decode bX11_value 117 = .ok (.getfield 155, 3) := by decide +kernel
theorem dX11_value_120 : decode bX11_value 120 = .ok (.iload 4, 2) := by decide +kernel
theorem dX11_value_122 : decode bX11_value 122 = .ok (.iaload, 1) := by decide +kernel
theorem dX11_value_123 : decode bX11_value 123 = .ok (.aload_n 0, 1) := by decide +kernel
theorem dX11_value_124 : decode bX11_value 124 = .ok (.getfield 19, 3) := by decide +kernel
theorem dX11_value_127 : decode bX11_value 127 = .ok (.getfield 172, 3) := by decide +kernel
theorem dX11_value_130 : decode bX11_value 130 = .ok (.invokevirtual 244, 3) := by decide +kernel
theorem dX11_value_133 : decode bX11_value 133 = .ok (.ifCond .ne 6, 3) := by decide +kernel
theorem dX11_value_136 : decode bX11_value 136 = .ok (.iinc 3 1, 3) := by decide +kernel
theorem dX11_value_139 : decode bX11_value 139 = .ok (.iinc 4 1, 3) := by decide +kernel
theorem dX11_value_142 : decode bX11_value 142 = .ok (.goto (-100), 3) := by decide +kernel
theorem dX11_value_145 : decode bX11_value 145 = .ok (.iload_n 3, 1) := by decide +kernel
theorem dX11_value_146 : decode bX11_value 146 = .ok (.ireturn, 1) := by decide +kernel
section
variable {p : Program} {l : Launch} {e : Env} {s : State} {m : MethodId} {args : Array Value} {below : List Frame} {meth : Method} {c : Code} {G : GG} {n : Nat} {h' : Hp} {rv : Int32}
set_option maxHeartbeats 4000000
set_option maxRecDepth 100000
theorem j_X11_value_42 (C0 : Cx p s m args meth c G bX11_value RX11 7 (some .int) "value") (hN : NX ≤ n) : ∀ (fu : Nat), ∀ {H : Heap} {locs : List Loc} {ls : Array Slot} {h : Hp} {x0 : Nat} {x1 : Int32} {x2 : Nat} {x3 : Int32} {x4 : Int32}, XW G n h s 0 H locs → lv_has ls 7 [(0, .ref (bs G + x0)), (1, .int x1), (2, .ref (bs G + x2)), (3, .int x3), (4, .int x4)] → kd x0 = 11 → kd x2 = 6 → f_X11_value_42 fu h x0 x1 x2 x3 x4 = some (rv, h') → W p l e (rmC 4 0 0) s m args below meth c H locs 0 0 (MQ below (QP G n h' (some (.int rv))) args s 0 0 (Ab G)) (F0 m 42 ls []) := by
  obtain ⟨hx, hb, hr, hml, hown, hts, hK, hlocks, hnm⟩ := id C0
  intro fu
  induction fu with
  | zero => intro H locs ls h x0 x1 x2 x3 x4 X hl o0 o2 hf; cases hf
  | succ fu ih =>
    intro H locs ls h x0 x1 x2 x3 x4 X hl o0 o2 hf
    rw [f_X11_value_42] at hf
    refine lv_iload hx hb dX11_value_42 (lv_at hl 4 rfl) ?_
    refine lv_aload_n hx hb dX11_value_44 rfl (lv_at hl 0 rfl) ?_
    obtain ⟨g1, hf⟩ := gd_e hf
    refine g_R hx hb hts hown hK X o0 hN g1 fl_X11_19 (by decide) rfl (by decide) dX11_value_45 ?_
    refine g_I hx hb hts hown hK X g1 hN fl_X11_116 (by decide) rfl dX11_value_48 ?_
    refine lv_icmp_ge (tgt := 145) hx hb dX11_value_51 (by decide) (fun c51 => ?_) (fun c51 => ?_)
    · have hf := ite_t hf c51
      refine lv_iload_n hx hb dX11_value_145 rfl (lv_at hl 3 rfl) ?_
      exact r_I hx hb hr hlocks X hf dX11_value_146
    · have hf := ite_f hf c51
      refine lv_aload_n hx hb dX11_value_54 rfl (lv_at hl 2 rfl) ?_
      refine lv_iload hx hb dX11_value_55 (lv_at hl 4 rfl) ?_
      refine lv_aload_n hx hb dX11_value_57 rfl (lv_at hl 2 rfl) ?_
      refine g_I hx hb hts hown hK X o2 hN fl_X11_242 (by decide) rfl dX11_value_58 ?_
      obtain ⟨r2, h3, q4, hf⟩ := bd_e hf
      refine c_V0 (As := [.int x4, .int (h.1 x2 2)]) (rest := []) (st1 := [.int r2]) hx hb hml hown hts hK X (k_X6_mayUse l G n hN q4) o2 hN lc_X6_mayUse lv_X11_168 (ci := 6) rfl rfl (by decide) rfl hl.1 (Nat.le_of_ble_eq_true rfl) dX11_value_61 rfl (fun H locs X => ?_)
      refine lv_istore (lv' := [(5, .int r2), (0, .ref (bs G + x0)), (1, .int x1), (2, .ref (bs G + x2)), (3, .int x3), (4, .int x4)]) hx hb dX11_value_64 hl (by decide) rfl (fun ls hl => ?_)
      refine lv_iload hx hb dX11_value_66 (lv_at hl 0 rfl) ?_
      refine lv_iconst (v := (1 : Int32)) hx hb dX11_value_68 (by decide) ?_
      refine lv_iload_n hx hb dX11_value_69 rfl (lv_at hl 2 rfl) ?_
      refine lv_iconst (v := (1 : Int32)) hx hb dX11_value_70 (by decide) ?_
      refine lv_isub hx hb dX11_value_71 ?_
      refine lv_ishl hx hb dX11_value_72 ?_
      refine lv_iconst (v := (-1 : Int32)) hx hb dX11_value_73 (by decide) ?_
      refine lv_ixor hx hb dX11_value_74 ?_
      refine lv_iand hx hb dX11_value_75 ?_
      refine lv_istore (lv' := [(6, .int (r2 &&& (((1 : Int32) <<< ((x1 - (1 : Int32)) &&& 31)) ^^^ (-1 : Int32)))), (5, .int r2), (0, .ref (bs G + x0)), (1, .int x1), (2, .ref (bs G + x2)), (3, .int x3), (4, .int x4)]) hx hb dX11_value_76 hl (by decide) rfl (fun ls hl => ?_)
      refine lv_aload_n hx hb dX11_value_78 rfl (lv_at hl 2 rfl) ?_
      obtain ⟨g5, hf⟩ := gd_e hf
      refine g_R hx hb hts hown hK X o0 hN g5 fl_X11_69 (by decide) rfl (by decide) dX11_value_79 ?_
      refine lv_iload hx hb dX11_value_82 (lv_at hl 1 rfl) ?_
      refine lv_aload_n hx hb dX11_value_84 rfl (lv_at hl 2 rfl) ?_
      obtain ⟨g6, hf⟩ := gd_e hf
      refine g_R hx hb hts hown hK X o0 hN g6 fl_X11_19 (by decide) rfl (by decide) dX11_value_85 ?_
      obtain ⟨g7, hf⟩ := gd_e hf
      refine g_R hx hb hts hown hK X g6 hN g7 fl_X11_155 (by decide) rfl (by decide) dX11_value_88 ?_
      refine lv_iload hx hb dX11_value_91 (lv_at hl 6 rfl) ?_
      obtain ⟨g8, hf⟩ := gd_e hf
      refine g_ia hx hb hK X g7 hN g8 (by decide) dX11_value_93 ?_
      refine lv_aload_n hx hb dX11_value_94 rfl (lv_at hl 2 rfl) ?_
      obtain ⟨g9, hf⟩ := gd_e hf
      refine g_R hx hb hts hown hK X o0 hN g9 fl_X11_19 (by decide) rfl (by decide) dX11_value_95 ?_
      refine g_I hx hb hts hown hK X g9 hN fl_X11_172 (by decide) rfl dX11_value_98 ?_
      obtain ⟨r10, h11, q12, hf⟩ := bd_e hf
      refine c_V0 (As := [.int r2, .int (h3.1 (h3.2 (h3.2 x0 1) 7) x4.toNatClampNeg), .int (h3.1 (h3.2 x0 1) 2)]) (rest := []) (st1 := [.int r10]) hx hb hml hown hts hK X (k_X5_find l G n hN q12) g5 hN lc_X5_find lv_X11_244 (ci := 5) rfl rfl (by decide) rfl hl.1 (Nat.le_of_ble_eq_true rfl) dX11_value_101 rfl (fun H locs X => ?_)
      refine lv_if_eq (tgt := 139) hx hb dX11_value_104 (by decide) (fun c104 => ?_) (fun c104 => ?_)
      · have hf := ite_t hf c104
        refine lv_iinc (v := (x4 + (1 : Int32))) (lv' := [(4, .int (x4 + (1 : Int32))), (6, .int (r2 &&& (((1 : Int32) <<< ((x1 - (1 : Int32)) &&& 31)) ^^^ (-1 : Int32)))), (5, .int r2), (0, .ref (bs G + x0)), (1, .int x1), (2, .ref (bs G + x2)), (3, .int x3)]) hx hb dX11_value_139 hl (k := 6) rfl rfl (by decide) rfl (fun ls hl => ?_)
        refine lv_goto (tgt := 42) hx hb dX11_value_142 (by decide) ?_
        exact ih X (lv_sub hl [3, 4, 5, 6, 0] rfl) o0 o2 hf
      · have hf := ite_f hf c104
        refine lv_aload_n hx hb dX11_value_107 rfl (lv_at hl 2 rfl) ?_
        obtain ⟨g13, hf⟩ := gd_e hf
        refine g_R hx hb hts hown hK X o0 hN g13 fl_X11_69 (by decide) rfl (by decide) dX11_value_108 ?_
        refine lv_iload hx hb dX11_value_111 (lv_at hl 0 rfl) ?_
        refine lv_aload_n hx hb dX11_value_113 rfl (lv_at hl 2 rfl) ?_
        obtain ⟨g14, hf⟩ := gd_e hf
        refine g_R hx hb hts hown hK X o0 hN g14 fl_X11_19 (by decide) rfl (by decide) dX11_value_114 ?_
        obtain ⟨g15, hf⟩ := gd_e hf
        refine g_R hx hb hts hown hK X g14 hN g15 fl_X11_155 (by decide) rfl (by decide) dX11_value_117 ?_
        refine lv_iload hx hb dX11_value_120 (lv_at hl 6 rfl) ?_
        obtain ⟨g16, hf⟩ := gd_e hf
        refine g_ia hx hb hK X g15 hN g16 (by decide) dX11_value_122 ?_
        refine lv_aload_n hx hb dX11_value_123 rfl (lv_at hl 2 rfl) ?_
        obtain ⟨g17, hf⟩ := gd_e hf
        refine g_R hx hb hts hown hK X o0 hN g17 fl_X11_19 (by decide) rfl (by decide) dX11_value_124 ?_
        refine g_I hx hb hts hown hK X g17 hN fl_X11_172 (by decide) rfl dX11_value_127 ?_
        obtain ⟨r18, h19, q20, hf⟩ := bd_e hf
        refine c_V0 (As := [.int (r2 &&& (((1 : Int32) <<< ((x1 - (1 : Int32)) &&& 31)) ^^^ (-1 : Int32))), .int (h11.1 (h11.2 (h11.2 x0 1) 7) x4.toNatClampNeg), .int (h11.1 (h11.2 x0 1) 2)]) (rest := []) (st1 := [.int r18]) hx hb hml hown hts hK X (k_X5_find l G n hN q20) g13 hN lc_X5_find lv_X11_244 (ci := 5) rfl rfl (by decide) rfl hl.1 (Nat.le_of_ble_eq_true rfl) dX11_value_130 rfl (fun H locs X => ?_)
        refine lv_if_ne (tgt := 139) hx hb dX11_value_133 (by decide) (fun c133 => ?_) (fun c133 => ?_)
        · have hf := ite_f hf c133
          refine lv_iinc (v := (x4 + (1 : Int32))) (lv' := [(4, .int (x4 + (1 : Int32))), (6, .int (r2 &&& (((1 : Int32) <<< ((x1 - (1 : Int32)) &&& 31)) ^^^ (-1 : Int32)))), (5, .int r2), (0, .ref (bs G + x0)), (1, .int x1), (2, .ref (bs G + x2)), (3, .int x3)]) hx hb dX11_value_139 hl (k := 6) rfl rfl (by decide) rfl (fun ls hl => ?_)
          refine lv_goto (tgt := 42) hx hb dX11_value_142 (by decide) ?_
          exact ih X (lv_sub hl [3, 4, 5, 6, 0] rfl) o0 o2 hf
        · have hf := ite_t hf c133
          refine lv_iinc (v := (x3 + (1 : Int32))) (lv' := [(3, .int (x3 + (1 : Int32))), (6, .int (r2 &&& (((1 : Int32) <<< ((x1 - (1 : Int32)) &&& 31)) ^^^ (-1 : Int32)))), (5, .int r2), (0, .ref (bs G + x0)), (1, .int x1), (2, .ref (bs G + x2)), (4, .int x4)]) hx hb dX11_value_136 hl (k := 5) rfl rfl (by decide) rfl (fun ls hl => ?_)
          refine lv_iinc (v := (x4 + (1 : Int32))) (lv' := [(4, .int (x4 + (1 : Int32))), (3, .int (x3 + (1 : Int32))), (6, .int (r2 &&& (((1 : Int32) <<< ((x1 - (1 : Int32)) &&& 31)) ^^^ (-1 : Int32)))), (5, .int r2), (0, .ref (bs G + x0)), (1, .int x1), (2, .ref (bs G + x2))]) hx hb dX11_value_139 hl (k := 6) rfl rfl (by decide) rfl (fun ls hl => ?_)
          refine lv_goto (tgt := 42) hx hb dX11_value_142 (by decide) ?_
          exact ih X (lv_sub hl [4, 5, 6, 1, 0] rfl) o0 o2 hf
theorem k_X11_value (l : Launch) (G : GG) (n : Nat) (hN : NX ≤ n) {h h' : Hp} {x0 : Nat} {x1 : Int32} {rv : Int32} (hf : f_X11_value h x0 x1 = some (rv, h')) : CT l G n n yX11_value (.code yX11_value bX11_value 7 (some .int)) 4 0 0 [.ref (bs G + x0), .int x1] h h' (some (.int rv)) := by
  refine ct_of (maxL := 7) (ret := (some .int)) (bytes := bX11_value) (by decide) (Nat.le_of_ble_eq_true rfl) (fun p e s m below meth c C0 X ls hl => ?_)
  have hl : lv_has ls 7 [(0, .ref (bs G + x0)), (1, .int x1)] := hl
  obtain ⟨hx, hb, hr, hml, hown, hts, hK, hlocks, hnm⟩ := id C0
  unfold f_X11_value at hf
  obtain ⟨o0, hf⟩ := gd_e hf
  refine lv_aload_n hx hb dX11_value_0 rfl (lv_at hl 0 rfl) ?_
  obtain ⟨g1, hf⟩ := gd_e hf
  refine g_R hx hb hts hown hK X o0 hN g1 fl_X11_19 (by decide) rfl (by decide) dX11_value_1 ?_
  refine lv_iload_n hx hb dX11_value_4 rfl (lv_at hl 1 rfl) ?_
  obtain ⟨r2, h3, q4, hf⟩ := bd_e hf
  refine c_V0 (As := [.int x1]) (rest := []) (st1 := [.int r2]) hx hb hml hown hts hK X (k_X4_isNumber l G n hN q4) g1 hN lc_X4_isNumber lv_X11_131 (ci := 4) rfl rfl (by decide) rfl hl.1 (Nat.le_of_ble_eq_true rfl) dX11_value_5 rfl (fun H locs X => ?_)
  refine lv_if_ne (tgt := 13) hx hb dX11_value_8 (by decide) (fun c8 => ?_) (fun c8 => ?_)
  · have hf := ite_f hf c8
    refine lv_aload_n hx hb dX11_value_13 rfl (lv_at hl 0 rfl) ?_
    obtain ⟨g5, hf⟩ := gd_e hf
    refine g_R hx hb hts hown hK X o0 hN g5 fl_X11_29 (by decide) rfl (by decide) dX11_value_14 ?_
    obtain ⟨r6, h7, q8, hf⟩ := bd_e hf
    refine c_V0 (As := []) (rest := []) (st1 := [.int r6]) hx hb hml hown hts hK X (k_X2_taken l G n hN q8) g5 hN lc_X2_taken lv_X11_165 (ci := 2) rfl rfl (by decide) rfl hl.1 (Nat.le_of_ble_eq_true rfl) dX11_value_17 rfl (fun H locs X => ?_)
    refine lv_iload_n hx hb dX11_value_20 rfl (lv_at hl 1 rfl) ?_
    refine lv_iconst (v := (1 : Int32)) hx hb dX11_value_21 (by decide) ?_
    refine lv_isub hx hb dX11_value_22 ?_
    obtain ⟨r9, h10, q11, hf⟩ := bd_e hf
    refine c_S0 (As := [.int r6, .int (x1 - (1 : Int32))]) (rest := []) (st1 := [.int r9]) hx hb hml hown hts hK X (k_X11_hasBit l G n hN q11) lc_X11_hasBit ls_X11_184 (by decide) rfl hl.1 (Nat.le_of_ble_eq_true rfl) dX11_value_23 rfl (fun H locs X => ?_)
    refine lv_if_eq (tgt := 32) hx hb dX11_value_26 (by decide) (fun c26 => ?_) (fun c26 => ?_)
    · have hf := ite_t hf c26
      refine lv_aload_n hx hb dX11_value_32 rfl (lv_at hl 0 rfl) ?_
      obtain ⟨r12, h13, q14, hf⟩ := bd_e hf
      refine c_V0 (As := []) (rest := []) (st1 := [.ref (bs G + r12)]) hx hb hml hown hts hK X (k_X11_sceneNow l G n hN q14) o0 hN lc_X11_sceneNow lv_X11_161 (ci := 11) rfl rfl (by decide) rfl hl.1 (Nat.le_of_ble_eq_true rfl) dX11_value_33 rfl (fun H locs X => ?_)
      obtain ⟨g15, hf⟩ := gd_e hf
      refine lv_astore_n (lv' := [(2, .ref (bs G + r12)), (0, .ref (bs G + x0)), (1, .int x1)]) hx hb dX11_value_36 rfl hl (by decide) rfl (fun ls hl => ?_)
      refine lv_iconst (v := (0 : Int32)) hx hb dX11_value_37 (by decide) ?_
      refine lv_istore_n (lv' := [(3, .int (0 : Int32)), (2, .ref (bs G + r12)), (0, .ref (bs G + x0)), (1, .int x1)]) hx hb dX11_value_38 rfl hl (by decide) rfl (fun ls hl => ?_)
      refine lv_iconst (v := (0 : Int32)) hx hb dX11_value_39 (by decide) ?_
      refine lv_istore (lv' := [(4, .int (0 : Int32)), (3, .int (0 : Int32)), (2, .ref (bs G + r12)), (0, .ref (bs G + x0)), (1, .int x1)]) hx hb dX11_value_40 hl (by decide) rfl (fun ls hl => ?_)
      exact j_X11_value_42 C0 hN FU X (lv_sub hl [3, 4, 2, 1, 0] rfl) o0 g15 hf
    · have hf := ite_f hf c26
      refine lv_bipush (v := (-2 : Int32)) hx hb dX11_value_29 (by decide) ?_
      exact r_I hx hb hr hlocks X hf dX11_value_31
  · have hf := ite_t hf c8
    refine lv_iconst (v := (-1 : Int32)) hx hb dX11_value_11 (by decide) ?_
    exact r_I hx hb hr hlocks X hf dX11_value_12
end
theorem dX11_changed_0 : decode bX11_changed 0 = .ok (.aload_n 0, 1) := by decide +kernel
theorem dX11_changed_1 : decode bX11_changed 1 = .ok (.invokevirtual 161, 3) := by decide +kernel
theorem dX11_changed_4 : decode bX11_changed 4 = .ok (.astore_n 1, 1) := by decide +kernel
theorem dX11_changed_5 : decode bX11_changed 5 = .ok (.bipush 7, 2) := by decide +kernel
theorem dX11_changed_7 : decode bX11_changed 7 = .ok (.istore_n 2, 1) := by decide +kernel
theorem dX11_changed_8 : decode bX11_changed 8 = .ok (.iconst 0, 1) := by decide +kernel
theorem dX11_changed_9 : decode bX11_changed 9 = .ok (.istore_n 3, 1) := by decide +kernel
theorem dX11_changed_10 : decode bX11_changed 10 = .ok (.iconst 0, 1) := by decide +kernel
theorem dX11_changed_11 : decode bX11_changed 11 = .ok (.istore 4, 2) := by decide +kernel
theorem dX11_changed_13 : decode bX11_changed 13 = .ok (.iload 4, 2) := by decide +kernel
theorem dX11_changed_15 : decode bX11_changed 15 = .ok (.iconst 3, 1) := by decide +kernel
theorem dX11_changed_16 : decode bX11_changed 16 = .ok (.if_icmp .gt 40, 3) := by decide +kernel
theorem dX11_changed_19 : decode bX11_changed 19 = .ok (.aload_n 1, 1) := by decide +kernel
theorem dX11_changed_20 : decode bX11_changed 20 = .ok (.iload 4, 2) := by decide +kernel
theorem dX11_changed_22 : decode bX11_changed 22 = .ok (.putfield 280, 3) := by decide +kernel
theorem dX11_changed_25 : decode bX11_changed 25 = .ok (.aload_n 0, 1) := by decide +kernel
theorem dX11_changed_26 : decode bX11_changed 26 = .ok (.getfield 85, 3) := by decide +kernel
theorem dX11_changed_29 : decode bX11_changed 29 = .ok (.aload_n 1, 1) := by decide +kernel
theorem dX11_changed_30 : decode bX11_changed 30 = .ok (.invokevirtual 238, 3) := by decide +kernel
theorem dX11_changed_33 : decode bX11_changed 33 = .ok (.invokestatic 213, 3) := by decide +kernel
theorem dX11_changed_36 : decode bX11_changed 36 = .ok (.istore 5, 2) := by decide +kernel
theorem dX11_changed_38 : decode bX11_changed 38 = .ok (.iload 5, 2) := by decide +kernel
theorem dX11_changed_40 : decode bX11_changed 40 = .ok (.iload_n 2, 1) := by decide +kernel
theorem dX11_changed_41 : decode bX11_changed 41 = .ok (.if_icmp .ge 9, 3) := by decide +kernel
theorem dX11_changed_44 : decode bX11_changed 44 = .ok (.iload 5, 2) := by decide +kernel
theorem dX11_changed_46 : decode bX11_changed 46 = .ok (.istore_n 2, 1) := by decide +kernel
theorem dX11_changed_47 : decode bX11_changed 47 = .ok (.iload 4, 2) := by decide +kernel
theorem dX11_changed_49 : decode bX11_changed 49 = .ok (.istore_n 3, 1) := by decide +kernel
theorem dX11_changed_50 : decode bX11_changed 50 = .ok (.iinc 4 1, 3) := by decide +kernel
theorem dX11_changed_53 : decode bX11_changed 53 = .ok (.goto (-40), 3) := by decide +kernel
theorem dX11_changed_56 : decode bX11_changed 56 = .ok (.iload_n 3, 1) := by decide +kernel
theorem dX11_changed_57 : decode bX11_changed 57 = .ok (.ireturn, 1) := by decide +kernel
section
variable {p : Program} {l : Launch} {e : Env} {s : State} {m : MethodId} {args : Array Value} {below : List Frame} {meth : Method} {c : Code} {G : GG} {n : Nat} {h' : Hp} {rv : Int32}
set_option maxHeartbeats 4000000
set_option maxRecDepth 100000
theorem j_X11_changed_13 (C0 : Cx p s m args meth c G bX11_changed RX11 6 (some .int) "changed") (hN : NX ≤ n) : ∀ (fu : Nat), ∀ {H : Heap} {locs : List Loc} {ls : Array Slot} {h : Hp} {x0 : Nat} {x1 : Nat} {x2 : Int32} {x3 : Int32} {x4 : Int32}, XW G n h s 0 H locs → lv_has ls 6 [(0, .ref (bs G + x0)), (1, .ref (bs G + x1)), (2, .int x2), (3, .int x3), (4, .int x4)] → kd x0 = 11 → kd x1 = 6 → f_X11_changed_13 fu h x0 x1 x2 x3 x4 = some (rv, h') → W p l e (rmC 5 0 0) s m args below meth c H locs 0 0 (MQ below (QP G n h' (some (.int rv))) args s 0 0 (Ab G)) (F0 m 13 ls []) := by
  obtain ⟨hx, hb, hr, hml, hown, hts, hK, hlocks, hnm⟩ := id C0
  intro fu
  induction fu with
  | zero => intro H locs ls h x0 x1 x2 x3 x4 X hl o0 o1 hf; cases hf
  | succ fu ih =>
    intro H locs ls h x0 x1 x2 x3 x4 X hl o0 o1 hf
    rw [f_X11_changed_13] at hf
    refine lv_iload hx hb dX11_changed_13 (lv_at hl 4 rfl) ?_
    refine lv_iconst (v := (3 : Int32)) hx hb dX11_changed_15 (by decide) ?_
    refine lv_icmp_gt (tgt := 56) hx hb dX11_changed_16 (by decide) (fun c16 => ?_) (fun c16 => ?_)
    · have hf := ite_t hf c16
      refine lv_iload_n hx hb dX11_changed_56 rfl (lv_at hl 3 rfl) ?_
      exact r_I hx hb hr hlocks X hf dX11_changed_57
    · have hf := ite_f hf c16
      refine lv_aload_n hx hb dX11_changed_19 rfl (lv_at hl 1 rfl) ?_
      refine lv_iload hx hb dX11_changed_20 (lv_at hl 4 rfl) ?_
      refine g_PI hx hb hts hown hK X o1 hN fl_X11_280 ft_6_4 (by decide) rfl dX11_changed_22 (fun H locs X => ?_)
      obtain ⟨h1, e2, hf⟩ := lt_e hf
      rw [← e2] at X
      refine lv_aload_n hx hb dX11_changed_25 rfl (lv_at hl 0 rfl) ?_
      obtain ⟨g3, hf⟩ := gd_e hf
      refine g_R hx hb hts hown hK X o0 hN g3 fl_X11_85 (by decide) rfl (by decide) dX11_changed_26 ?_
      refine lv_aload_n hx hb dX11_changed_29 rfl (lv_at hl 1 rfl) ?_
      obtain ⟨r4, h5, q6, hf⟩ := bd_e hf
      refine c_V0 (As := [.ref (bs G + x1)]) (rest := []) (st1 := [.int r4]) hx hb hml hown hts hK X (k_X1_stuckIn l G n hN q6) g3 hN lc_X1_stuckIn lv_X11_238 (ci := 1) rfl rfl (by decide) rfl hl.1 (Nat.le_of_ble_eq_true rfl) dX11_changed_30 rfl (fun H locs X => ?_)
      obtain ⟨r7, h8, q9, hf⟩ := bd_e hf
      refine c_S0 (As := [.int r4]) (rest := []) (st1 := [.int r7]) hx hb hml hown hts hK X (k_J6_bitCount_0f7a4 l G n hN q9) lc_J6_bitCount_0f7a4 ls_X11_213 (by decide) rfl hl.1 (Nat.le_of_ble_eq_true rfl) dX11_changed_33 rfl (fun H locs X => ?_)
      refine lv_istore (lv' := [(5, .int r7), (0, .ref (bs G + x0)), (1, .ref (bs G + x1)), (2, .int x2), (3, .int x3), (4, .int x4)]) hx hb dX11_changed_36 hl (by decide) rfl (fun ls hl => ?_)
      refine lv_iload hx hb dX11_changed_38 (lv_at hl 0 rfl) ?_
      refine lv_iload_n hx hb dX11_changed_40 rfl (lv_at hl 3 rfl) ?_
      refine lv_icmp_ge (tgt := 50) hx hb dX11_changed_41 (by decide) (fun c41 => ?_) (fun c41 => ?_)
      · have hf := ite_t hf c41
        refine lv_iinc (v := (x4 + (1 : Int32))) (lv' := [(4, .int (x4 + (1 : Int32))), (5, .int r7), (0, .ref (bs G + x0)), (1, .ref (bs G + x1)), (2, .int x2), (3, .int x3)]) hx hb dX11_changed_50 hl (k := 5) rfl rfl (by decide) rfl (fun ls hl => ?_)
        refine lv_goto (tgt := 13) hx hb dX11_changed_53 (by decide) ?_
        exact ih X (lv_sub hl [2, 3, 4, 5, 0] rfl) o0 o1 hf
      · have hf := ite_f hf c41
        refine lv_iload hx hb dX11_changed_44 (lv_at hl 0 rfl) ?_
        refine lv_istore_n (lv' := [(2, .int r7), (5, .int r7), (0, .ref (bs G + x0)), (1, .ref (bs G + x1)), (3, .int x3), (4, .int x4)]) hx hb dX11_changed_46 rfl hl (by decide) rfl (fun ls hl => ?_)
        refine lv_iload hx hb dX11_changed_47 (lv_at hl 5 rfl) ?_
        refine lv_istore_n (lv' := [(3, .int x4), (2, .int r7), (5, .int r7), (0, .ref (bs G + x0)), (1, .ref (bs G + x1)), (4, .int x4)]) hx hb dX11_changed_49 rfl hl (by decide) rfl (fun ls hl => ?_)
        refine lv_iinc (v := (x4 + (1 : Int32))) (lv' := [(4, .int (x4 + (1 : Int32))), (3, .int x4), (2, .int r7), (5, .int r7), (0, .ref (bs G + x0)), (1, .ref (bs G + x1))]) hx hb dX11_changed_50 hl (k := 5) rfl rfl (by decide) rfl (fun ls hl => ?_)
        refine lv_goto (tgt := 13) hx hb dX11_changed_53 (by decide) ?_
        exact ih X (lv_sub hl [4, 5, 2, 1, 0] rfl) o0 o1 hf
theorem k_X11_changed (l : Launch) (G : GG) (n : Nat) (hN : NX ≤ n) {h h' : Hp} {x0 : Nat} {rv : Int32} (hf : f_X11_changed h x0 = some (rv, h')) : CT l G n n yX11_changed (.code yX11_changed bX11_changed 6 (some .int)) 5 0 0 [.ref (bs G + x0)] h h' (some (.int rv)) := by
  refine ct_of (maxL := 6) (ret := (some .int)) (bytes := bX11_changed) (by decide) (Nat.le_of_ble_eq_true rfl) (fun p e s m below meth c C0 X ls hl => ?_)
  have hl : lv_has ls 6 [(0, .ref (bs G + x0))] := hl
  obtain ⟨hx, hb, hr, hml, hown, hts, hK, hlocks, hnm⟩ := id C0
  unfold f_X11_changed at hf
  obtain ⟨o0, hf⟩ := gd_e hf
  refine lv_aload_n hx hb dX11_changed_0 rfl (lv_at hl 0 rfl) ?_
  obtain ⟨r1, h2, q3, hf⟩ := bd_e hf
  refine c_V0 (As := []) (rest := []) (st1 := [.ref (bs G + r1)]) hx hb hml hown hts hK X (k_X11_sceneNow l G n hN q3) o0 hN lc_X11_sceneNow lv_X11_161 (ci := 11) rfl rfl (by decide) rfl hl.1 (Nat.le_of_ble_eq_true rfl) dX11_changed_1 rfl (fun H locs X => ?_)
  obtain ⟨g4, hf⟩ := gd_e hf
  refine lv_astore_n (lv' := [(1, .ref (bs G + r1)), (0, .ref (bs G + x0))]) hx hb dX11_changed_4 rfl hl (by decide) rfl (fun ls hl => ?_)
  refine lv_bipush (v := (7 : Int32)) hx hb dX11_changed_5 (by decide) ?_
  refine lv_istore_n (lv' := [(2, .int (7 : Int32)), (1, .ref (bs G + r1)), (0, .ref (bs G + x0))]) hx hb dX11_changed_7 rfl hl (by decide) rfl (fun ls hl => ?_)
  refine lv_iconst (v := (0 : Int32)) hx hb dX11_changed_8 (by decide) ?_
  refine lv_istore_n (lv' := [(3, .int (0 : Int32)), (2, .int (7 : Int32)), (1, .ref (bs G + r1)), (0, .ref (bs G + x0))]) hx hb dX11_changed_9 rfl hl (by decide) rfl (fun ls hl => ?_)
  refine lv_iconst (v := (0 : Int32)) hx hb dX11_changed_10 (by decide) ?_
  refine lv_istore (lv' := [(4, .int (0 : Int32)), (3, .int (0 : Int32)), (2, .int (7 : Int32)), (1, .ref (bs G + r1)), (0, .ref (bs G + x0))]) hx hb dX11_changed_11 hl (by decide) rfl (fun ls hl => ?_)
  exact j_X11_changed_13 C0 hN FU X (lv_sub hl [4, 3, 2, 1, 0] rfl) o0 g4 hf
end
theorem dX11_ways_0 : decode bX11_ways 0 = .ok (.aload_n 0, 1) := by decide +kernel
theorem dX11_ways_1 : decode bX11_ways 1 = .ok (.getfield 19, 3) := by decide +kernel
theorem dX11_ways_4 : decode bX11_ways 4 = .ok (.iload_n 1, 1) := by decide +kernel
theorem dX11_ways_5 : decode bX11_ways 5 = .ok (.invokevirtual 281, 3) := by decide +kernel
theorem dX11_ways_8 : decode bX11_ways 8 = .ok (.ifCond .eq 22, 3) := by decide +kernel
theorem dX11_ways_11 : decode bX11_ways 11 = .ok (.iload_n 2, 1) := by decide +kernel
theorem dX11_ways_12 : decode bX11_ways 12 = .ok (.ifCond .lt 18, 3) := by decide +kernel
theorem dX11_ways_15 : decode bX11_ways 15 = .ok (.iload_n 2, 1) := by decide +kernel
theorem dX11_ways_16 : decode bX11_ways 16 = .ok (.bipush 99, 2) := by decide +kernel
theorem dX11_ways_18 : decode bX11_ways 18 = .ok (.if_icmp .gt 12, 3) := by decide +kernel
theorem dX11_ways_21 : decode bX11_ways 21 = .ok (.iload_n 3, 1) := by decide +kernel
theorem dX11_ways_22 : decode bX11_ways 22 = .ok (.ifCond .lt 8, 3) := by decide +kernel
theorem dX11_ways_25 : decode bX11_ways 25 = .ok (.iload_n 3, 1) := by decide +kernel
theorem dX11_ways_26 : decode bX11_ways 26 = .ok (.iconst 3, 1) := by decide +kernel
theorem dX11_ways_27 : decode bX11_ways 27 = .ok (.if_icmp .le 5, 3) := by decide +kernel
theorem dX11_ways_30 : decode bX11_ways 30 = .ok (.iconst (-1), 1) := by decide +kernel
theorem dX11_ways_31 : decode bX11_ways 31 = .ok (.ireturn, 1) := by decide +kernel
theorem dX11_ways_32 : decode bX11_ways 32 = .ok (.aload_n 0, 1) := by decide +kernel
theorem dX11_ways_33 : decode bX11_ways 33 = .ok (.getfield 62, 3) := by decide +kernel
theorem dX11_ways_36 : decode bX11_ways 36 = .ok (.iload_n 1, 1) := by decide +kernel
theorem dX11_ways_37 : decode bX11_ways 37 = .ok (.iload_n 3, 1) := by decide +kernel
theorem dX11_ways_38 : decode bX11_ways 38 = .ok (.invokevirtual 284, 3) := by decide +kernel
theorem dX11_ways_41 : decode bX11_ways 41 = .ok (.aload_n 0, 1) := by decide +kernel
theorem dX11_ways_42 : decode bX11_ways 42 = .ok (.getfield 62, 3) := by decide +kernel
theorem dX11_ways_45 : decode bX11_ways 45 = .ok (.iload_n 2, 1) := by decide +kernel
theorem dX11_ways_46 : decode bX11_ways 46 = .ok (.invokevirtual 287, 3) := by decide +kernel
theorem dX11_ways_49 : decode bX11_ways 49 = .ok (.ireturn, 1) := by decide +kernel
section
variable {p : Program} {l : Launch} {e : Env} {s : State} {m : MethodId} {args : Array Value} {below : List Frame} {meth : Method} {c : Code} {G : GG} {n : Nat} {h' : Hp} {rv : Int32}
set_option maxHeartbeats 4000000
set_option maxRecDepth 100000
theorem k_X11_ways (l : Launch) (G : GG) (n : Nat) (hN : NX ≤ n) {h h' : Hp} {x0 : Nat} {x1 : Int32} {x2 : Int32} {x3 : Int32} {rv : Int32} (hf : f_X11_ways h x0 x1 x2 x3 = some (rv, h')) : CT l G n n yX11_ways (.code yX11_ways bX11_ways 4 (some .int)) 3 0 0 [.ref (bs G + x0), .int x1, .int x2, .int x3] h h' (some (.int rv)) := by
  refine ct_of (maxL := 4) (ret := (some .int)) (bytes := bX11_ways) (by decide) (Nat.le_of_ble_eq_true rfl) (fun p e s m below meth c C0 X ls hl => ?_)
  have hl : lv_has ls 4 [(0, .ref (bs G + x0)), (1, .int x1), (2, .int x2), (3, .int x3)] := hl
  obtain ⟨hx, hb, hr, hml, hown, hts, hK, hlocks, hnm⟩ := id C0
  unfold f_X11_ways at hf
  obtain ⟨o0, hf⟩ := gd_e hf
  refine lv_aload_n hx hb dX11_ways_0 rfl (lv_at hl 0 rfl) ?_
  obtain ⟨g1, hf⟩ := gd_e hf
  refine g_R hx hb hts hown hK X o0 hN g1 fl_X11_19 (by decide) rfl (by decide) dX11_ways_1 ?_
  refine lv_iload_n hx hb dX11_ways_4 rfl (lv_at hl 1 rfl) ?_
  obtain ⟨r2, h3, q4, hf⟩ := bd_e hf
  refine c_V0 (As := [.int x1]) (rest := []) (st1 := [.int r2]) hx hb hml hown hts hK X (k_X4_isSet l G n hN q4) g1 hN lc_X4_isSet lv_X11_281 (ci := 4) rfl rfl (by decide) rfl hl.1 (Nat.le_of_ble_eq_true rfl) dX11_ways_5 rfl (fun H locs X => ?_)
  refine lv_if_eq (tgt := 30) hx hb dX11_ways_8 (by decide) (fun c8 => ?_) (fun c8 => ?_)
  · have hf := ite_t hf c8
    refine lv_iconst (v := (-1 : Int32)) hx hb dX11_ways_30 (by decide) ?_
    exact r_I hx hb hr hlocks X hf dX11_ways_31
  · have hf := ite_f hf c8
    refine lv_iload_n hx hb dX11_ways_11 rfl (lv_at hl 2 rfl) ?_
    refine lv_if_lt (tgt := 30) hx hb dX11_ways_12 (by decide) (fun c12 => ?_) (fun c12 => ?_)
    · have hf := ite_t hf c12
      refine lv_iconst (v := (-1 : Int32)) hx hb dX11_ways_30 (by decide) ?_
      exact r_I hx hb hr hlocks X hf dX11_ways_31
    · have hf := ite_f hf c12
      refine lv_iload_n hx hb dX11_ways_15 rfl (lv_at hl 2 rfl) ?_
      refine lv_bipush (v := (99 : Int32)) hx hb dX11_ways_16 (by decide) ?_
      refine lv_icmp_gt (tgt := 30) hx hb dX11_ways_18 (by decide) (fun c18 => ?_) (fun c18 => ?_)
      · have hf := ite_t hf c18
        refine lv_iconst (v := (-1 : Int32)) hx hb dX11_ways_30 (by decide) ?_
        exact r_I hx hb hr hlocks X hf dX11_ways_31
      · have hf := ite_f hf c18
        refine lv_iload_n hx hb dX11_ways_21 rfl (lv_at hl 3 rfl) ?_
        refine lv_if_lt (tgt := 30) hx hb dX11_ways_22 (by decide) (fun c22 => ?_) (fun c22 => ?_)
        · have hf := ite_t hf c22
          refine lv_iconst (v := (-1 : Int32)) hx hb dX11_ways_30 (by decide) ?_
          exact r_I hx hb hr hlocks X hf dX11_ways_31
        · have hf := ite_f hf c22
          refine lv_iload_n hx hb dX11_ways_25 rfl (lv_at hl 3 rfl) ?_
          refine lv_iconst (v := (3 : Int32)) hx hb dX11_ways_26 (by decide) ?_
          refine lv_icmp_le (tgt := 32) hx hb dX11_ways_27 (by decide) (fun c27 => ?_) (fun c27 => ?_)
          · have hf := ite_t hf c27
            refine lv_aload_n hx hb dX11_ways_32 rfl (lv_at hl 0 rfl) ?_
            obtain ⟨g5, hf⟩ := gd_e hf
            refine g_R hx hb hts hown hK X o0 hN g5 fl_X11_62 (by decide) rfl (by decide) dX11_ways_33 ?_
            refine lv_iload_n hx hb dX11_ways_36 rfl (lv_at hl 1 rfl) ?_
            refine lv_iload_n hx hb dX11_ways_37 rfl (lv_at hl 3 rfl) ?_
            obtain ⟨r6, h7, q8, hf⟩ := bd_e hf
            refine c_V0 (As := [.int x1, .int x3]) (rest := []) (st1 := []) hx hb hml hown hts hK X (k_X9_reckon l G n hN q8) g5 hN lc_X9_reckon lv_X11_284 (ci := 9) rfl rfl (by decide) rfl hl.1 (Nat.le_of_ble_eq_true rfl) dX11_ways_38 rfl (fun H locs X => ?_)
            refine lv_aload_n hx hb dX11_ways_41 rfl (lv_at hl 0 rfl) ?_
            obtain ⟨g9, hf⟩ := gd_e hf
            refine g_R hx hb hts hown hK X o0 hN g9 fl_X11_62 (by decide) rfl (by decide) dX11_ways_42 ?_
            refine lv_iload_n hx hb dX11_ways_45 rfl (lv_at hl 2 rfl) ?_
            obtain ⟨r10, h11, q12, hf⟩ := bd_e hf
            refine c_V0 (As := [.int x2]) (rest := []) (st1 := [.int r10]) hx hb hml hown hts hK X (k_X9_comingTo l G n hN q12) g9 hN lc_X9_comingTo lv_X11_287 (ci := 9) rfl rfl (by decide) rfl hl.1 (Nat.le_of_ble_eq_true rfl) dX11_ways_46 rfl (fun H locs X => ?_)
            exact r_I hx hb hr hlocks X hf dX11_ways_49
          · have hf := ite_f hf c27
            refine lv_iconst (v := (-1 : Int32)) hx hb dX11_ways_30 (by decide) ?_
            exact r_I hx hb hr hlocks X hf dX11_ways_31
end
theorem dX11_lowest_0 : decode bX11_lowest 0 = .ok (.aload_n 0, 1) := by decide +kernel
theorem dX11_lowest_1 : decode bX11_lowest 1 = .ok (.getfield 19, 3) := by decide +kernel
theorem dX11_lowest_4 : decode bX11_lowest 4 = .ok (.iload_n 1, 1) := by decide +kernel
theorem dX11_lowest_5 : decode bX11_lowest 5 = .ok (.invokevirtual 152, 3) := by decide +kernel
theorem dX11_lowest_8 : decode bX11_lowest 8 = .ok (.ifCond .ne 5, 3) := by decide +kernel
theorem dX11_lowest_11 : decode bX11_lowest 11 = .ok (.iconst (-1), 1) := by decide +kernel
theorem dX11_lowest_12 : decode bX11_lowest 12 = .ok (.ireturn, 1) := by decide +kernel
theorem dX11_lowest_13 : decode bX11_lowest 13 = .ok (.iconst 1, 1) := by decide +kernel
theorem dX11_lowest_14 : decode bX11_lowest 14 = .ok (.istore_n 2, 1) := by decide +kernel
theorem dX11_lowest_15 : decode bX11_lowest 15 = .ok (.iload_n 2, 1) := by decide +kernel
theorem dX11_lowest_16 : decode bX11_lowest 16 = .ok (.bipush 99, 2) := by decide +kernel
theorem dX11_lowest_18 : decode bX11_lowest 18 = .ok (.if_icmp .gt 20, 3) := by decide +kernel
theorem dX11_lowest_21 : decode bX11_lowest 21 = .ok (.aload_n 0, 1) := by decide +kernel
theorem dX11_lowest_22 : decode bX11_lowest 22 = .ok (.iload_n 1, 1) := by decide +kernel
theorem dX11_lowest_23 : decode bX11_lowest 23 = .ok (.iload_n 2, 1) := by decide +kernel
theorem dX11_lowest_24 : decode bX11_lowest 24 = .ok (.invokevirtual 210, 3) := by decide +kernel
theorem dX11_lowest_27 : decode bX11_lowest 27 = .ok (.ifCond .ne 5, 3) := by decide +kernel
theorem dX11_lowest_30 : decode bX11_lowest 30 = .ok (.iload_n 2, 1) := by decide +kernel
theorem dX11_lowest_31 : decode bX11_lowest 31 = .ok (.ireturn, 1) := by decide +kernel
theorem dX11_lowest_32 : decode bX11_lowest 32 = .ok (.iinc 2 1, 3) := by decide +kernel
theorem dX11_lowest_35 : decode bX11_lowest 35 = .ok (.goto (-20), 3) := by decide +kernel
theorem dX11_lowest_38 : decode bX11_lowest 38 = .ok (.bipush (-4), 2) := by decide +kernel
theorem dX11_lowest_40 : decode bX11_lowest 40 = .ok (.ireturn, 1) := by decide +kernel
section
variable {p : Program} {l : Launch} {e : Env} {s : State} {m : MethodId} {args : Array Value} {below : List Frame} {meth : Method} {c : Code} {G : GG} {n : Nat} {h' : Hp} {rv : Int32}
set_option maxHeartbeats 4000000
set_option maxRecDepth 100000
theorem j_X11_lowest_15 (C0 : Cx p s m args meth c G bX11_lowest RX11 3 (some .int) "lowest") (hN : NX ≤ n) : ∀ (fu : Nat), ∀ {H : Heap} {locs : List Loc} {ls : Array Slot} {h : Hp} {x0 : Nat} {x1 : Int32} {x2 : Int32}, XW G n h s 0 H locs → lv_has ls 3 [(0, .ref (bs G + x0)), (1, .int x1), (2, .int x2)] → kd x0 = 11 → f_X11_lowest_15 fu h x0 x1 x2 = some (rv, h') → W p l e (rmC 5 0 0) s m args below meth c H locs 0 0 (MQ below (QP G n h' (some (.int rv))) args s 0 0 (Ab G)) (F0 m 15 ls []) := by
  obtain ⟨hx, hb, hr, hml, hown, hts, hK, hlocks, hnm⟩ := id C0
  intro fu
  induction fu with
  | zero => intro H locs ls h x0 x1 x2 X hl o0 hf; cases hf
  | succ fu ih =>
    intro H locs ls h x0 x1 x2 X hl o0 hf
    rw [f_X11_lowest_15] at hf
    refine lv_iload_n hx hb dX11_lowest_15 rfl (lv_at hl 2 rfl) ?_
    refine lv_bipush (v := (99 : Int32)) hx hb dX11_lowest_16 (by decide) ?_
    refine lv_icmp_gt (tgt := 38) hx hb dX11_lowest_18 (by decide) (fun c18 => ?_) (fun c18 => ?_)
    · have hf := ite_t hf c18
      refine lv_bipush (v := (-4 : Int32)) hx hb dX11_lowest_38 (by decide) ?_
      exact r_I hx hb hr hlocks X hf dX11_lowest_40
    · have hf := ite_f hf c18
      refine lv_aload_n hx hb dX11_lowest_21 rfl (lv_at hl 0 rfl) ?_
      refine lv_iload_n hx hb dX11_lowest_22 rfl (lv_at hl 1 rfl) ?_
      refine lv_iload_n hx hb dX11_lowest_23 rfl (lv_at hl 2 rfl) ?_
      obtain ⟨r1, h2, q3, hf⟩ := bd_e hf
      refine c_V0 (As := [.int x1, .int x2]) (rest := []) (st1 := [.int r1]) hx hb hml hown hts hK X (k_X11_usedNow l G n hN q3) o0 hN lc_X11_usedNow lv_X11_210 (ci := 11) rfl rfl (by decide) rfl hl.1 (Nat.le_of_ble_eq_true rfl) dX11_lowest_24 rfl (fun H locs X => ?_)
      refine lv_if_ne (tgt := 32) hx hb dX11_lowest_27 (by decide) (fun c27 => ?_) (fun c27 => ?_)
      · have hf := ite_f hf c27
        refine lv_iinc (v := (x2 + (1 : Int32))) (lv' := [(2, .int (x2 + (1 : Int32))), (0, .ref (bs G + x0)), (1, .int x1)]) hx hb dX11_lowest_32 hl (k := 2) rfl rfl (by decide) rfl (fun ls hl => ?_)
        refine lv_goto (tgt := 15) hx hb dX11_lowest_35 (by decide) ?_
        exact ih X (lv_sub hl [1, 2, 0] rfl) o0 hf
      · have hf := ite_t hf c27
        refine lv_iload_n hx hb dX11_lowest_30 rfl (lv_at hl 2 rfl) ?_
        exact r_I hx hb hr hlocks X hf dX11_lowest_31
theorem k_X11_lowest (l : Launch) (G : GG) (n : Nat) (hN : NX ≤ n) {h h' : Hp} {x0 : Nat} {x1 : Int32} {rv : Int32} (hf : f_X11_lowest h x0 x1 = some (rv, h')) : CT l G n n yX11_lowest (.code yX11_lowest bX11_lowest 3 (some .int)) 5 0 0 [.ref (bs G + x0), .int x1] h h' (some (.int rv)) := by
  refine ct_of (maxL := 3) (ret := (some .int)) (bytes := bX11_lowest) (by decide) (Nat.le_of_ble_eq_true rfl) (fun p e s m below meth c C0 X ls hl => ?_)
  have hl : lv_has ls 3 [(0, .ref (bs G + x0)), (1, .int x1)] := hl
  obtain ⟨hx, hb, hr, hml, hown, hts, hK, hlocks, hnm⟩ := id C0
  unfold f_X11_lowest at hf
  obtain ⟨o0, hf⟩ := gd_e hf
  refine lv_aload_n hx hb dX11_lowest_0 rfl (lv_at hl 0 rfl) ?_
  obtain ⟨g1, hf⟩ := gd_e hf
  refine g_R hx hb hts hown hK X o0 hN g1 fl_X11_19 (by decide) rfl (by decide) dX11_lowest_1 ?_
  refine lv_iload_n hx hb dX11_lowest_4 rfl (lv_at hl 1 rfl) ?_
  obtain ⟨r2, h3, q4, hf⟩ := bd_e hf
  refine c_V0 (As := [.int x1]) (rest := []) (st1 := [.int r2]) hx hb hml hown hts hK X (k_X4_isPerson l G n hN q4) g1 hN lc_X4_isPerson lv_X11_152 (ci := 4) rfl rfl (by decide) rfl hl.1 (Nat.le_of_ble_eq_true rfl) dX11_lowest_5 rfl (fun H locs X => ?_)
  refine lv_if_ne (tgt := 13) hx hb dX11_lowest_8 (by decide) (fun c8 => ?_) (fun c8 => ?_)
  · have hf := ite_f hf c8
    refine lv_iconst (v := (1 : Int32)) hx hb dX11_lowest_13 (by decide) ?_
    refine lv_istore_n (lv' := [(2, .int (1 : Int32)), (0, .ref (bs G + x0)), (1, .int x1)]) hx hb dX11_lowest_14 rfl hl (by decide) rfl (fun ls hl => ?_)
    exact j_X11_lowest_15 C0 hN FU X (lv_sub hl [1, 2, 0] rfl) o0 hf
  · have hf := ite_t hf c8
    refine lv_iconst (v := (-1 : Int32)) hx hb dX11_lowest_11 (by decide) ?_
    exact r_I hx hb hr hlocks X hf dX11_lowest_12
end
theorem dX11_enter_0 : decode bX11_enter 0 = .ok (.aload_n 0, 1) := by decide +kernel
theorem dX11_enter_1 : decode bX11_enter 1 = .ok (.getfield 19, 3) := by decide +kernel
theorem dX11_enter_4 : decode bX11_enter 4 = .ok (.iload_n 1, 1) := by decide +kernel
theorem dX11_enter_5 : decode bX11_enter 5 = .ok (.invokevirtual 281, 3) := by decide +kernel
theorem dX11_enter_8 : decode bX11_enter 8 = .ok (.ifCond .ne 5, 3) := by decide +kernel
theorem dX11_enter_11 : decode bX11_enter 11 = .ok (.iconst (-1), 1) := by decide +kernel
theorem dX11_enter_12 : decode bX11_enter 12 = .ok (.ireturn, 1) := by decide +kernel
theorem dX11_enter_13 : decode bX11_enter 13 = .ok (.aload_n 0, 1) := by decide +kernel
theorem dX11_enter_14 : decode bX11_enter 14 = .ok (.getfield 55, 3) := by decide +kernel
theorem dX11_enter_17 : decode bX11_enter 17 = .ok (.iload_n 1, 1) := by decide +kernel
theorem dX11_enter_18 : decode bX11_enter 18 = .ok (.invokevirtual 290, 3) := by decide +kernel
theorem dX11_enter_21 : decode bX11_enter 21 = .ok (.ifCond .eq 13, 3) := by decide +kernel
theorem dX11_enter_24 : decode bX11_enter 24 = .ok (.aload_n 0, 1) := by decide +kernel
theorem dX11_enter_25 : decode bX11_enter 25 = .ok (.getfield 55, 3) := by decide +kernel
theorem dX11_enter_28 : decode bX11_enter 28 = .ok (.getfield 127, 3) := by decide +kernel
theorem dX11_enter_31 : decode bX11_enter 31 = .ok (.goto 5, 3) := by decide +kernel
theorem dX11_enter_34 : decode bX11_enter 34 = .ok (.bipush (-3), 2) := by decide +kernel
theorem dX11_enter_36 : decode bX11_enter 36 = .ok (.ireturn, 1) := by decide +kernel
section
variable {p : Program} {l : Launch} {e : Env} {s : State} {m : MethodId} {args : Array Value} {below : List Frame} {meth : Method} {c : Code} {G : GG} {n : Nat} {h' : Hp} {rv : Int32}
set_option maxHeartbeats 4000000
set_option maxRecDepth 100000
theorem k_X11_enter (l : Launch) (G : GG) (n : Nat) (hN : NX ≤ n) {h h' : Hp} {x0 : Nat} {x1 : Int32} {rv : Int32} (hf : f_X11_enter h x0 x1 = some (rv, h')) : CT l G n n yX11_enter (.code yX11_enter bX11_enter 2 (some .int)) 2 0 0 [.ref (bs G + x0), .int x1] h h' (some (.int rv)) := by
  refine ct_of (maxL := 2) (ret := (some .int)) (bytes := bX11_enter) (by decide) (Nat.le_of_ble_eq_true rfl) (fun p e s m below meth c C0 X ls hl => ?_)
  have hl : lv_has ls 2 [(0, .ref (bs G + x0)), (1, .int x1)] := hl
  obtain ⟨hx, hb, hr, hml, hown, hts, hK, hlocks, hnm⟩ := id C0
  unfold f_X11_enter at hf
  obtain ⟨o0, hf⟩ := gd_e hf
  refine lv_aload_n hx hb dX11_enter_0 rfl (lv_at hl 0 rfl) ?_
  obtain ⟨g1, hf⟩ := gd_e hf
  refine g_R hx hb hts hown hK X o0 hN g1 fl_X11_19 (by decide) rfl (by decide) dX11_enter_1 ?_
  refine lv_iload_n hx hb dX11_enter_4 rfl (lv_at hl 1 rfl) ?_
  obtain ⟨r2, h3, q4, hf⟩ := bd_e hf
  refine c_V0 (As := [.int x1]) (rest := []) (st1 := [.int r2]) hx hb hml hown hts hK X (k_X4_isSet l G n hN q4) g1 hN lc_X4_isSet lv_X11_281 (ci := 4) rfl rfl (by decide) rfl hl.1 (Nat.le_of_ble_eq_true rfl) dX11_enter_5 rfl (fun H locs X => ?_)
  refine lv_if_ne (tgt := 13) hx hb dX11_enter_8 (by decide) (fun c8 => ?_) (fun c8 => ?_)
  · have hf := ite_f hf c8
    refine lv_aload_n hx hb dX11_enter_13 rfl (lv_at hl 0 rfl) ?_
    obtain ⟨g5, hf⟩ := gd_e hf
    refine g_R hx hb hts hown hK X o0 hN g5 fl_X11_55 (by decide) rfl (by decide) dX11_enter_14 ?_
    refine lv_iload_n hx hb dX11_enter_17 rfl (lv_at hl 1 rfl) ?_
    obtain ⟨r6, h7, q8, hf⟩ := bd_e hf
    refine c_V0 (As := [.int x1]) (rest := []) (st1 := [.int r6]) hx hb hml hown hts hK X (k_X0_append l G n hN q8) g5 hN lc_X0_append lv_X11_290 (ci := 0) rfl rfl (by decide) rfl hl.1 (Nat.le_of_ble_eq_true rfl) dX11_enter_18 rfl (fun H locs X => ?_)
    refine lv_if_eq (tgt := 34) hx hb dX11_enter_21 (by decide) (fun c21 => ?_) (fun c21 => ?_)
    · have hf := ite_t hf c21
      refine lv_bipush (v := (-3 : Int32)) hx hb dX11_enter_34 (by decide) ?_
      exact r_I hx hb hr hlocks X hf dX11_enter_36
    · have hf := ite_f hf c21
      refine lv_aload_n hx hb dX11_enter_24 rfl (lv_at hl 0 rfl) ?_
      obtain ⟨g9, hf⟩ := gd_e hf
      refine g_R hx hb hts hown hK X o0 hN g9 fl_X11_55 (by decide) rfl (by decide) dX11_enter_25 ?_
      refine g_I hx hb hts hown hK X g9 hN fl_X11_127 (by decide) rfl dX11_enter_28 ?_
      refine lv_goto (tgt := 36) hx hb dX11_enter_31 (by decide) ?_
      exact r_I hx hb hr hlocks X hf dX11_enter_36
  · have hf := ite_t hf c8
    refine lv_iconst (v := (-1 : Int32)) hx hb dX11_enter_11 (by decide) ?_
    exact r_I hx hb hr hlocks X hf dX11_enter_12
end
theorem dX11_close_0 : decode bX11_close 0 = .ok (.aload_n 0, 1) := by decide +kernel
theorem dX11_close_1 : decode bX11_close 1 = .ok (.getfield 55, 3) := by decide +kernel
theorem dX11_close_4 : decode bX11_close 4 = .ok (.getfield 127, 3) := by decide +kernel
theorem dX11_close_7 : decode bX11_close 7 = .ok (.istore_n 1, 1) := by decide +kernel
theorem dX11_close_8 : decode bX11_close 8 = .ok (.aload_n 0, 1) := by decide +kernel
theorem dX11_close_9 : decode bX11_close 9 = .ok (.getfield 55, 3) := by decide +kernel
theorem dX11_close_12 : decode bX11_close 12 = .ok (.iconst 0, 1) := by decide +kernel
theorem dX11_close_13 : decode bX11_close 13 = .ok (.putfield 127, 3) := by decide +kernel
theorem dX11_close_16 : decode bX11_close 16 = .ok (.iload_n 1, 1) := by decide +kernel
theorem dX11_close_17 : decode bX11_close 17 = .ok (.ireturn, 1) := by decide +kernel
section
variable {p : Program} {l : Launch} {e : Env} {s : State} {m : MethodId} {args : Array Value} {below : List Frame} {meth : Method} {c : Code} {G : GG} {n : Nat} {h' : Hp} {rv : Int32}
set_option maxHeartbeats 4000000
set_option maxRecDepth 100000
theorem k_X11_close (l : Launch) (G : GG) (n : Nat) (hN : NX ≤ n) {h h' : Hp} {x0 : Nat} {rv : Int32} (hf : f_X11_close h x0 = some (rv, h')) : CT l G n n yX11_close (.code yX11_close bX11_close 2 (some .int)) 0 0 0 [.ref (bs G + x0)] h h' (some (.int rv)) := by
  refine ct_of (maxL := 2) (ret := (some .int)) (bytes := bX11_close) (by decide) (Nat.le_of_ble_eq_true rfl) (fun p e s m below meth c C0 X ls hl => ?_)
  have hl : lv_has ls 2 [(0, .ref (bs G + x0))] := hl
  obtain ⟨hx, hb, hr, hml, hown, hts, hK, hlocks, hnm⟩ := id C0
  unfold f_X11_close at hf
  obtain ⟨o0, hf⟩ := gd_e hf
  refine lv_aload_n hx hb dX11_close_0 rfl (lv_at hl 0 rfl) ?_
  obtain ⟨g1, hf⟩ := gd_e hf
  refine g_R hx hb hts hown hK X o0 hN g1 fl_X11_55 (by decide) rfl (by decide) dX11_close_1 ?_
  refine g_I hx hb hts hown hK X g1 hN fl_X11_127 (by decide) rfl dX11_close_4 ?_
  refine lv_istore_n (lv' := [(1, .int (h.1 (h.2 x0 7) 0)), (0, .ref (bs G + x0))]) hx hb dX11_close_7 rfl hl (by decide) rfl (fun ls hl => ?_)
  refine lv_aload_n hx hb dX11_close_8 rfl (lv_at hl 1 rfl) ?_
  obtain ⟨g2, hf⟩ := gd_e hf
  refine g_R hx hb hts hown hK X o0 hN g2 fl_X11_55 (by decide) rfl (by decide) dX11_close_9 ?_
  refine lv_iconst (v := (0 : Int32)) hx hb dX11_close_12 (by decide) ?_
  refine g_PI hx hb hts hown hK X g2 hN fl_X11_127 ft_0_0 (by decide) rfl dX11_close_13 (fun H locs X => ?_)
  obtain ⟨h3, e4, hf⟩ := lt_e hf
  rw [← e4] at X
  refine lv_iload_n hx hb dX11_close_16 rfl (lv_at hl 0 rfl) ?_
  exact r_I hx hb hr hlocks X hf dX11_close_17
end
theorem dX11_book_0 : decode bX11_book 0 = .ok (.iload_n 1, 1) := by decide +kernel
theorem dX11_book_1 : decode bX11_book 1 = .ok (.iconst (-1), 1) := by decide +kernel
theorem dX11_book_2 : decode bX11_book 2 = .ok (.if_icmp .lt 14, 3) := by decide +kernel
theorem dX11_book_5 : decode bX11_book 5 = .ok (.iload_n 1, 1) := by decide +kernel
theorem dX11_book_6 : decode bX11_book 6 = .ok (.aload_n 0, 1) := by decide +kernel
theorem dX11_book_7 : decode bX11_book 7 = .ok (.getfield 55, 3) := by decide +kernel
theorem dX11_book_10 : decode bX11_book 10 = .ok (.getfield 127, 3) := by decide +kernel
theorem dX11_book_13 : decode bX11_book 13 = .ok (.if_icmp .lt 5, 3) := by decide +kernel
theorem dX11_book_16 : decode bX11_book 16 = .ok (.iconst (-1), 1) := by decide +kernel
theorem dX11_book_17 : decode bX11_book 17 = .ok (.ireturn, 1) := by decide +kernel
theorem dX11_book_18 : decode bX11_book 18 = .ok (.aload_n 0, 1) := by decide +kernel
theorem dX11_book_19 : decode bX11_book 19 = .ok (.getfield 55, 3) := by decide +kernel
theorem dX11_book_22 : decode bX11_book 22 = .ok (.aload_n 0, 1) := by decide +kernel
theorem dX11_book_23 : decode bX11_book 23 = .ok (.getfield 19, 3) := by decide +kernel
theorem dX11_book_26 : decode bX11_book 26 = .ok (.aload_n 0, 1) := by decide +kernel
theorem dX11_book_27 : decode bX11_book 27 = .ok (.getfield 62, 3) := by decide +kernel
theorem dX11_book_30 : decode bX11_book 30 = .ok (.invokevirtual 292, 3) := by decide +kernel
theorem dX11_book_33 : decode bX11_book 33 = .ok (.iload_n 1, 1) := by decide +kernel
theorem dX11_book_34 : decode bX11_book 34 = .ok (.ifCond .ge 13, 3) := by decide +kernel
theorem dX11_book_37 : decode bX11_book 37 = .ok (.aload_n 0, 1) := by decide +kernel
theorem dX11_book_38 : decode bX11_book 38 = .ok (.getfield 55, 3) := by decide +kernel
theorem dX11_book_41 : decode bX11_book 41 = .ok (.getfield 296, 3) := by decide +kernel
theorem dX11_book_44 : decode bX11_book 44 = .ok (.goto 11, 3) := by decide +kernel
theorem dX11_book_47 : decode bX11_book 47 = .ok (.aload_n 0, 1) := by decide +kernel
theorem dX11_book_48 : decode bX11_book 48 = .ok (.getfield 55, 3) := by decide +kernel
theorem dX11_book_51 : decode bX11_book 51 = .ok (.iload_n 1, 1) := by decide +kernel
theorem dX11_book_52 : decode bX11_book 52 = .ok (.invokevirtual 299, 3) := by decide +kernel
theorem dX11_book_55 : decode bX11_book 55 = .ok (.ireturn, 1) := by decide +kernel
section
variable {p : Program} {l : Launch} {e : Env} {s : State} {m : MethodId} {args : Array Value} {below : List Frame} {meth : Method} {c : Code} {G : GG} {n : Nat} {h' : Hp} {rv : Int32}
set_option maxHeartbeats 4000000
set_option maxRecDepth 100000
theorem k_X11_book (l : Launch) (G : GG) (n : Nat) (hN : NX ≤ n) {h h' : Hp} {x0 : Nat} {x1 : Int32} {rv : Int32} (hf : f_X11_book h x0 x1 = some (rv, h')) : CT l G n n yX11_book (.code yX11_book bX11_book 2 (some .int)) 11 0 0 [.ref (bs G + x0), .int x1] h h' (some (.int rv)) := by
  refine ct_of (maxL := 2) (ret := (some .int)) (bytes := bX11_book) (by decide) (Nat.le_of_ble_eq_true rfl) (fun p e s m below meth c C0 X ls hl => ?_)
  have hl : lv_has ls 2 [(0, .ref (bs G + x0)), (1, .int x1)] := hl
  obtain ⟨hx, hb, hr, hml, hown, hts, hK, hlocks, hnm⟩ := id C0
  unfold f_X11_book at hf
  obtain ⟨o0, hf⟩ := gd_e hf
  refine lv_iload_n hx hb dX11_book_0 rfl (lv_at hl 1 rfl) ?_
  refine lv_iconst (v := (-1 : Int32)) hx hb dX11_book_1 (by decide) ?_
  refine lv_icmp_lt (tgt := 16) hx hb dX11_book_2 (by decide) (fun c2 => ?_) (fun c2 => ?_)
  · have hf := ite_t hf c2
    refine lv_iconst (v := (-1 : Int32)) hx hb dX11_book_16 (by decide) ?_
    exact r_I hx hb hr hlocks X hf dX11_book_17
  · have hf := ite_f hf c2
    refine lv_iload_n hx hb dX11_book_5 rfl (lv_at hl 1 rfl) ?_
    refine lv_aload_n hx hb dX11_book_6 rfl (lv_at hl 0 rfl) ?_
    obtain ⟨g1, hf⟩ := gd_e hf
    refine g_R hx hb hts hown hK X o0 hN g1 fl_X11_55 (by decide) rfl (by decide) dX11_book_7 ?_
    refine g_I hx hb hts hown hK X g1 hN fl_X11_127 (by decide) rfl dX11_book_10 ?_
    refine lv_icmp_lt (tgt := 18) hx hb dX11_book_13 (by decide) (fun c13 => ?_) (fun c13 => ?_)
    · have hf := ite_t hf c13
      refine lv_aload_n hx hb dX11_book_18 rfl (lv_at hl 0 rfl) ?_
      obtain ⟨g2, hf⟩ := gd_e hf
      refine g_R hx hb hts hown hK X o0 hN g2 fl_X11_55 (by decide) rfl (by decide) dX11_book_19 ?_
      refine lv_aload_n hx hb dX11_book_22 rfl (lv_at hl 0 rfl) ?_
      obtain ⟨g3, hf⟩ := gd_e hf
      refine g_R hx hb hts hown hK X o0 hN g3 fl_X11_19 (by decide) rfl (by decide) dX11_book_23 ?_
      refine lv_aload_n hx hb dX11_book_26 rfl (lv_at hl 0 rfl) ?_
      obtain ⟨g4, hf⟩ := gd_e hf
      refine g_R hx hb hts hown hK X o0 hN g4 fl_X11_62 (by decide) rfl (by decide) dX11_book_27 ?_
      obtain ⟨r5, h6, q7, hf⟩ := bd_e hf
      refine c_V0 (As := [.ref (bs G + (h.2 x0 1)), .ref (bs G + (h.2 x0 8))]) (rest := []) (st1 := []) hx hb hml hown hts hK X (k_X0_read l G n hN q7) g2 hN lc_X0_read lv_X11_292 (ci := 0) rfl rfl (by decide) rfl hl.1 (Nat.le_of_ble_eq_true rfl) dX11_book_30 rfl (fun H locs X => ?_)
      refine lv_iload_n hx hb dX11_book_33 rfl (lv_at hl 1 rfl) ?_
      refine lv_if_ge (tgt := 47) hx hb dX11_book_34 (by decide) (fun c34 => ?_) (fun c34 => ?_)
      · have hf := ite_t hf c34
        refine lv_aload_n hx hb dX11_book_47 rfl (lv_at hl 0 rfl) ?_
        obtain ⟨g8, hf⟩ := gd_e hf
        refine g_R hx hb hts hown hK X o0 hN g8 fl_X11_55 (by decide) rfl (by decide) dX11_book_48 ?_
        refine lv_iload_n hx hb dX11_book_51 rfl (lv_at hl 1 rfl) ?_
        obtain ⟨r9, h10, q11, hf⟩ := bd_e hf
        refine c_V0 (As := [.int x1]) (rest := []) (st1 := [.int r9]) hx hb hml hown hts hK X (k_X0_surePerson l G n hN q11) g8 hN lc_X0_surePerson lv_X11_299 (ci := 0) rfl rfl (by decide) rfl hl.1 (Nat.le_of_ble_eq_true rfl) dX11_book_52 rfl (fun H locs X => ?_)
        exact r_I hx hb hr hlocks X hf dX11_book_55
      · have hf := ite_f hf c34
        refine lv_aload_n hx hb dX11_book_37 rfl (lv_at hl 0 rfl) ?_
        obtain ⟨g12, hf⟩ := gd_e hf
        refine g_R hx hb hts hown hK X o0 hN g12 fl_X11_55 (by decide) rfl (by decide) dX11_book_38 ?_
        refine g_I hx hb hts hown hK X g12 hN fl_X11_296 (by decide) rfl dX11_book_41 ?_
        refine lv_goto (tgt := 55) hx hb dX11_book_44 (by decide) ?_
        exact r_I hx hb hr hlocks X hf dX11_book_55
    · have hf := ite_f hf c13
      refine lv_iconst (v := (-1 : Int32)) hx hb dX11_book_16 (by decide) ?_
      exact r_I hx hb hr hlocks X hf dX11_book_17
end
theorem dX11_twice_0 : decode bX11_twice 0 = .ok (.aload_n 0, 1) := by decide +kernel
theorem dX11_twice_1 : decode bX11_twice 1 = .ok (.getfield 55, 3) := by decide +kernel
theorem dX11_twice_4 : decode bX11_twice 4 = .ok (.invokevirtual 302, 3) := by decide +kernel
theorem dX11_twice_7 : decode bX11_twice 7 = .ok (.istore_n 1, 1) := by decide +kernel
theorem dX11_twice_8 : decode bX11_twice 8 = .ok (.iload_n 1, 1) := by decide +kernel
theorem dX11_twice_9 : decode bX11_twice 9 = .ok (.ifCond .ne 8, 3) := by decide +kernel
theorem dX11_twice_12 : decode bX11_twice 12 = .ok (.bipush (-4), 2) := by decide +kernel
theorem dX11_twice_14 : decode bX11_twice 14 = .ok (.goto 9, 3) := by decide +kernel
theorem dX11_twice_17 : decode bX11_twice 17 = .ok (.iload_n 1, 1) := by decide +kernel
theorem dX11_twice_18 : decode bX11_twice 18 = .ok (.invokestatic 305, 3) := by decide +kernel
theorem dX11_twice_21 : decode bX11_twice 21 = .ok (.iconst 1, 1) := by decide +kernel
theorem dX11_twice_22 : decode bX11_twice 22 = .ok (.iadd, 1) := by decide +kernel
theorem dX11_twice_23 : decode bX11_twice 23 = .ok (.ireturn, 1) := by decide +kernel
section
variable {p : Program} {l : Launch} {e : Env} {s : State} {m : MethodId} {args : Array Value} {below : List Frame} {meth : Method} {c : Code} {G : GG} {n : Nat} {h' : Hp} {rv : Int32}
set_option maxHeartbeats 4000000
set_option maxRecDepth 100000
theorem k_X11_twice (l : Launch) (G : GG) (n : Nat) (hN : NX ≤ n) {h h' : Hp} {x0 : Nat} {rv : Int32} (hf : f_X11_twice h x0 = some (rv, h')) : CT l G n n yX11_twice (.code yX11_twice bX11_twice 2 (some .int)) 2 0 0 [.ref (bs G + x0)] h h' (some (.int rv)) := by
  refine ct_of (maxL := 2) (ret := (some .int)) (bytes := bX11_twice) (by decide) (Nat.le_of_ble_eq_true rfl) (fun p e s m below meth c C0 X ls hl => ?_)
  have hl : lv_has ls 2 [(0, .ref (bs G + x0))] := hl
  obtain ⟨hx, hb, hr, hml, hown, hts, hK, hlocks, hnm⟩ := id C0
  unfold f_X11_twice at hf
  obtain ⟨o0, hf⟩ := gd_e hf
  refine lv_aload_n hx hb dX11_twice_0 rfl (lv_at hl 0 rfl) ?_
  obtain ⟨g1, hf⟩ := gd_e hf
  refine g_R hx hb hts hown hK X o0 hN g1 fl_X11_55 (by decide) rfl (by decide) dX11_twice_1 ?_
  obtain ⟨r2, h3, q4, hf⟩ := bd_e hf
  refine c_V0 (As := []) (rest := []) (st1 := [.int r2]) hx hb hml hown hts hK X (k_X0_inTwoRows l G n hN q4) g1 hN lc_X0_inTwoRows lv_X11_302 (ci := 0) rfl rfl (by decide) rfl hl.1 (Nat.le_of_ble_eq_true rfl) dX11_twice_4 rfl (fun H locs X => ?_)
  refine lv_istore_n (lv' := [(1, .int r2), (0, .ref (bs G + x0))]) hx hb dX11_twice_7 rfl hl (by decide) rfl (fun ls hl => ?_)
  refine lv_iload_n hx hb dX11_twice_8 rfl (lv_at hl 0 rfl) ?_
  refine lv_if_ne (tgt := 17) hx hb dX11_twice_9 (by decide) (fun c9 => ?_) (fun c9 => ?_)
  · have hf := ite_f hf c9
    refine lv_iload_n hx hb dX11_twice_17 rfl (lv_at hl 0 rfl) ?_
    obtain ⟨r5, h6, q7, hf⟩ := bd_e hf
    refine c_S0 (As := [.int r2]) (rest := []) (st1 := [.int r5]) hx hb hml hown hts hK X (k_X11_firstBit l G n hN q7) lc_X11_firstBit ls_X11_305 (by decide) rfl hl.1 (Nat.le_of_ble_eq_true rfl) dX11_twice_18 rfl (fun H locs X => ?_)
    refine lv_iconst (v := (1 : Int32)) hx hb dX11_twice_21 (by decide) ?_
    refine lv_iadd hx hb dX11_twice_22 ?_
    exact r_I hx hb hr hlocks X hf dX11_twice_23
  · have hf := ite_t hf c9
    refine lv_bipush (v := (-4 : Int32)) hx hb dX11_twice_12 (by decide) ?_
    refine lv_goto (tgt := 23) hx hb dX11_twice_14 (by decide) ?_
    exact r_I hx hb hr hlocks X hf dX11_twice_23
end
theorem dX11_corner_0 : decode bX11_corner 0 = .ok (.aload_n 0, 1) := by decide +kernel
theorem dX11_corner_1 : decode bX11_corner 1 = .ok (.getfield 19, 3) := by decide +kernel
theorem dX11_corner_4 : decode bX11_corner 4 = .ok (.iload_n 1, 1) := by decide +kernel
theorem dX11_corner_5 : decode bX11_corner 5 = .ok (.invokevirtual 152, 3) := by decide +kernel
theorem dX11_corner_8 : decode bX11_corner 8 = .ok (.ifCond .eq 12, 3) := by decide +kernel
theorem dX11_corner_11 : decode bX11_corner 11 = .ok (.iload_n 2, 1) := by decide +kernel
theorem dX11_corner_12 : decode bX11_corner 12 = .ok (.ifCond .lt 8, 3) := by decide +kernel
theorem dX11_corner_15 : decode bX11_corner 15 = .ok (.iload_n 2, 1) := by decide +kernel
theorem dX11_corner_16 : decode bX11_corner 16 = .ok (.iconst 1, 1) := by decide +kernel
theorem dX11_corner_17 : decode bX11_corner 17 = .ok (.if_icmp .le 5, 3) := by decide +kernel
theorem dX11_corner_20 : decode bX11_corner 20 = .ok (.iconst (-1), 1) := by decide +kernel
theorem dX11_corner_21 : decode bX11_corner 21 = .ok (.ireturn, 1) := by decide +kernel
theorem dX11_corner_22 : decode bX11_corner 22 = .ok (.aload_n 0, 1) := by decide +kernel
theorem dX11_corner_23 : decode bX11_corner 23 = .ok (.getfield 29, 3) := by decide +kernel
theorem dX11_corner_26 : decode bX11_corner 26 = .ok (.getfield 158, 3) := by decide +kernel
theorem dX11_corner_29 : decode bX11_corner 29 = .ok (.iload_n 1, 1) := by decide +kernel
theorem dX11_corner_30 : decode bX11_corner 30 = .ok (.invokestatic 184, 3) := by decide +kernel
theorem dX11_corner_33 : decode bX11_corner 33 = .ok (.ifCond .eq 6, 3) := by decide +kernel
theorem dX11_corner_36 : decode bX11_corner 36 = .ok (.bipush (-2), 2) := by decide +kernel
theorem dX11_corner_38 : decode bX11_corner 38 = .ok (.ireturn, 1) := by decide +kernel
theorem dX11_corner_39 : decode bX11_corner 39 = .ok (.aload_n 0, 1) := by decide +kernel
theorem dX11_corner_40 : decode bX11_corner 40 = .ok (.getfield 85, 3) := by decide +kernel
theorem dX11_corner_43 : decode bX11_corner 43 = .ok (.aload_n 0, 1) := by decide +kernel
theorem dX11_corner_44 : decode bX11_corner 44 = .ok (.invokevirtual 161, 3) := by decide +kernel
theorem dX11_corner_47 : decode bX11_corner 47 = .ok (.iload_n 1, 1) := by decide +kernel
theorem dX11_corner_48 : decode bX11_corner 48 = .ok (.invokevirtual 308, 3) := by decide +kernel
theorem dX11_corner_51 : decode bX11_corner 51 = .ok (.ifCond .ne 6, 3) := by decide +kernel
theorem dX11_corner_54 : decode bX11_corner 54 = .ok (.bipush (-4), 2) := by decide +kernel
theorem dX11_corner_56 : decode bX11_corner 56 = .ok (.ireturn, 1) := by decide +kernel
theorem dX11_corner_57 : decode bX11_corner 57 = .ok (.iload_n 2, 1) := by decide +kernel
theorem dX11_corner_58 : decode bX11_corner 58 = .ok (.ifCond .ne 13, 3) := by decide +kernel
theorem dX11_corner_61 : decode bX11_corner 61 = .ok (.aload_n 0, 1) := by decide +kernel
theorem dX11_corner_62 : decode bX11_corner 62 = .ok (.getfield 85, 3) := by decide +kernel
theorem dX11_corner_65 : decode bX11_corner 65 = .ok (.getfield 312, 3) := by decide +kernel
theorem dX11_corner_68 : decode bX11_corner 68 = .ok (.goto 10, 3) := by decide +kernel
theorem dX11_corner_71 : decode bX11_corner 71 = .ok (.aload_n 0, 1) := by decide +kernel
theorem dX11_corner_72 : decode bX11_corner 72 = .ok (.getfield 85, 3) := by decide +kernel
theorem dX11_corner_75 : decode bX11_corner 75 = .ok (.getfield 268, 3) := by decide +kernel
theorem dX11_corner_78 : decode bX11_corner 78 = .ok (.ireturn, 1) := by decide +kernel
section
variable {p : Program} {l : Launch} {e : Env} {s : State} {m : MethodId} {args : Array Value} {below : List Frame} {meth : Method} {c : Code} {G : GG} {n : Nat} {h' : Hp} {rv : Int32}
set_option maxHeartbeats 4000000
set_option maxRecDepth 100000
theorem k_X11_corner (l : Launch) (G : GG) (n : Nat) (hN : NX ≤ n) {h h' : Hp} {x0 : Nat} {x1 : Int32} {x2 : Int32} {rv : Int32} (hf : f_X11_corner h x0 x1 x2 = some (rv, h')) : CT l G n n yX11_corner (.code yX11_corner bX11_corner 3 (some .int)) 7 0 0 [.ref (bs G + x0), .int x1, .int x2] h h' (some (.int rv)) := by
  refine ct_of (maxL := 3) (ret := (some .int)) (bytes := bX11_corner) (by decide) (Nat.le_of_ble_eq_true rfl) (fun p e s m below meth c C0 X ls hl => ?_)
  have hl : lv_has ls 3 [(0, .ref (bs G + x0)), (1, .int x1), (2, .int x2)] := hl
  obtain ⟨hx, hb, hr, hml, hown, hts, hK, hlocks, hnm⟩ := id C0
  unfold f_X11_corner at hf
  obtain ⟨o0, hf⟩ := gd_e hf
  refine lv_aload_n hx hb dX11_corner_0 rfl (lv_at hl 0 rfl) ?_
  obtain ⟨g1, hf⟩ := gd_e hf
  refine g_R hx hb hts hown hK X o0 hN g1 fl_X11_19 (by decide) rfl (by decide) dX11_corner_1 ?_
  refine lv_iload_n hx hb dX11_corner_4 rfl (lv_at hl 1 rfl) ?_
  obtain ⟨r2, h3, q4, hf⟩ := bd_e hf
  refine c_V0 (As := [.int x1]) (rest := []) (st1 := [.int r2]) hx hb hml hown hts hK X (k_X4_isPerson l G n hN q4) g1 hN lc_X4_isPerson lv_X11_152 (ci := 4) rfl rfl (by decide) rfl hl.1 (Nat.le_of_ble_eq_true rfl) dX11_corner_5 rfl (fun H locs X => ?_)
  refine lv_if_eq (tgt := 20) hx hb dX11_corner_8 (by decide) (fun c8 => ?_) (fun c8 => ?_)
  · have hf := ite_t hf c8
    refine lv_iconst (v := (-1 : Int32)) hx hb dX11_corner_20 (by decide) ?_
    exact r_I hx hb hr hlocks X hf dX11_corner_21
  · have hf := ite_f hf c8
    refine lv_iload_n hx hb dX11_corner_11 rfl (lv_at hl 2 rfl) ?_
    refine lv_if_lt (tgt := 20) hx hb dX11_corner_12 (by decide) (fun c12 => ?_) (fun c12 => ?_)
    · have hf := ite_t hf c12
      refine lv_iconst (v := (-1 : Int32)) hx hb dX11_corner_20 (by decide) ?_
      exact r_I hx hb hr hlocks X hf dX11_corner_21
    · have hf := ite_f hf c12
      refine lv_iload_n hx hb dX11_corner_15 rfl (lv_at hl 2 rfl) ?_
      refine lv_iconst (v := (1 : Int32)) hx hb dX11_corner_16 (by decide) ?_
      refine lv_icmp_le (tgt := 22) hx hb dX11_corner_17 (by decide) (fun c17 => ?_) (fun c17 => ?_)
      · have hf := ite_t hf c17
        refine lv_aload_n hx hb dX11_corner_22 rfl (lv_at hl 0 rfl) ?_
        obtain ⟨g5, hf⟩ := gd_e hf
        refine g_R hx hb hts hown hK X o0 hN g5 fl_X11_29 (by decide) rfl (by decide) dX11_corner_23 ?_
        refine g_I hx hb hts hown hK X g5 hN fl_X11_158 (by decide) rfl dX11_corner_26 ?_
        refine lv_iload_n hx hb dX11_corner_29 rfl (lv_at hl 1 rfl) ?_
        obtain ⟨r6, h7, q8, hf⟩ := bd_e hf
        refine c_S0 (As := [.int (h3.1 (h3.2 x0 3) 2), .int x1]) (rest := []) (st1 := [.int r6]) hx hb hml hown hts hK X (k_X11_hasBit l G n hN q8) lc_X11_hasBit ls_X11_184 (by decide) rfl hl.1 (Nat.le_of_ble_eq_true rfl) dX11_corner_30 rfl (fun H locs X => ?_)
        refine lv_if_eq (tgt := 39) hx hb dX11_corner_33 (by decide) (fun c33 => ?_) (fun c33 => ?_)
        · have hf := ite_t hf c33
          refine lv_aload_n hx hb dX11_corner_39 rfl (lv_at hl 0 rfl) ?_
          obtain ⟨g9, hf⟩ := gd_e hf
          refine g_R hx hb hts hown hK X o0 hN g9 fl_X11_85 (by decide) rfl (by decide) dX11_corner_40 ?_
          refine lv_aload_n hx hb dX11_corner_43 rfl (lv_at hl 0 rfl) ?_
          obtain ⟨r10, h11, q12, hf⟩ := bd_e hf
          refine c_V0 (As := []) (rest := [.ref (bs G + (h7.2 x0 11))]) (st1 := [.ref (bs G + r10), .ref (bs G + (h7.2 x0 11))]) hx hb hml hown hts hK X (k_X11_sceneNow l G n hN q12) o0 hN lc_X11_sceneNow lv_X11_161 (ci := 11) rfl rfl (by decide) rfl hl.1 (Nat.le_of_ble_eq_true rfl) dX11_corner_44 rfl (fun H locs X => ?_)
          obtain ⟨g13, hf⟩ := gd_e hf
          refine lv_iload_n hx hb dX11_corner_47 rfl (lv_at hl 1 rfl) ?_
          obtain ⟨r14, h15, q16, hf⟩ := bd_e hf
          refine c_V0 (As := [.ref (bs G + r10), .int x1]) (rest := []) (st1 := [.int r14]) hx hb hml hown hts hK X (k_X1_cornerBy l G n hN q16) g9 hN lc_X1_cornerBy lv_X11_308 (ci := 1) rfl rfl (by decide) rfl hl.1 (Nat.le_of_ble_eq_true rfl) dX11_corner_48 rfl (fun H locs X => ?_)
          refine lv_if_ne (tgt := 57) hx hb dX11_corner_51 (by decide) (fun c51 => ?_) (fun c51 => ?_)
          · have hf := ite_f hf c51
            refine lv_iload_n hx hb dX11_corner_57 rfl (lv_at hl 2 rfl) ?_
            refine lv_if_ne (tgt := 71) hx hb dX11_corner_58 (by decide) (fun c58 => ?_) (fun c58 => ?_)
            · have hf := ite_f hf c58
              refine lv_aload_n hx hb dX11_corner_71 rfl (lv_at hl 0 rfl) ?_
              obtain ⟨g17, hf⟩ := gd_e hf
              refine g_R hx hb hts hown hK X o0 hN g17 fl_X11_85 (by decide) rfl (by decide) dX11_corner_72 ?_
              refine g_I hx hb hts hown hK X g17 hN fl_X11_268 (by decide) rfl dX11_corner_75 ?_
              exact r_I hx hb hr hlocks X hf dX11_corner_78
            · have hf := ite_t hf c58
              refine lv_aload_n hx hb dX11_corner_61 rfl (lv_at hl 0 rfl) ?_
              obtain ⟨g18, hf⟩ := gd_e hf
              refine g_R hx hb hts hown hK X o0 hN g18 fl_X11_85 (by decide) rfl (by decide) dX11_corner_62 ?_
              refine g_I hx hb hts hown hK X g18 hN fl_X11_312 (by decide) rfl dX11_corner_65 ?_
              refine lv_goto (tgt := 78) hx hb dX11_corner_68 (by decide) ?_
              exact r_I hx hb hr hlocks X hf dX11_corner_78
          · have hf := ite_t hf c51
            refine lv_bipush (v := (-4 : Int32)) hx hb dX11_corner_54 (by decide) ?_
            exact r_I hx hb hr hlocks X hf dX11_corner_56
        · have hf := ite_f hf c33
          refine lv_bipush (v := (-2 : Int32)) hx hb dX11_corner_36 (by decide) ?_
          exact r_I hx hb hr hlocks X hf dX11_corner_38
      · have hf := ite_f hf c17
        refine lv_iconst (v := (-1 : Int32)) hx hb dX11_corner_20 (by decide) ?_
        exact r_I hx hb hr hlocks X hf dX11_corner_21
end
theorem dX11_year_0 : decode bX11_year 0 = .ok (.iload_n 1, 1) := by decide +kernel
theorem dX11_year_1 : decode bX11_year 1 = .ok (.ifCond .lt 30, 3) := by decide +kernel
theorem dX11_year_4 : decode bX11_year 4 = .ok (.iload_n 1, 1) := by decide +kernel
theorem dX11_year_5 : decode bX11_year 5 = .ok (.sipush 9999, 3) := by decide +kernel
theorem dX11_year_8 : decode bX11_year 8 = .ok (.if_icmp .gt 23, 3) := by decide +kernel
theorem dX11_year_11 : decode bX11_year 11 = .ok (.iload_n 2, 1) := by decide +kernel
theorem dX11_year_12 : decode bX11_year 12 = .ok (.iconst 1, 1) := by decide +kernel
theorem dX11_year_13 : decode bX11_year 13 = .ok (.if_icmp .lt 18, 3) := by decide +kernel
theorem dX11_year_16 : decode bX11_year 16 = .ok (.iload_n 2, 1) := by decide +kernel
theorem dX11_year_17 : decode bX11_year 17 = .ok (.bipush 30, 2) := by decide +kernel
theorem dX11_year_19 : decode bX11_year 19 = .ok (.if_icmp .gt 12, 3) := by decide +kernel
theorem dX11_year_22 : decode bX11_year 22 = .ok (.iload_n 3, 1) := by decide +kernel
theorem dX11_year_23 : decode bX11_year 23 = .ok (.ifCond .lt 8, 3) := by decide +kernel
theorem dX11_year_26 : decode bX11_year 26 = .ok (.iload_n 3, 1) := by decide +kernel
theorem dX11_year_27 : decode bX11_year 27 = .ok (.iconst 1, 1) := by decide +kernel
theorem dX11_year_28 : decode bX11_year 28 = .ok (.if_icmp .le 5, 3) := by decide +kernel
theorem dX11_year_31 : decode bX11_year 31 = .ok (.iconst (-1), 1) := by decide +kernel
theorem dX11_year_32 : decode bX11_year 32 = .ok (.ireturn, 1) := by decide +kernel
theorem dX11_year_33 : decode bX11_year 33 = .ok (.iconst 0, 1) := by decide +kernel
theorem dX11_year_34 : decode bX11_year 34 = .ok (.istore 4, 2) := by decide +kernel
theorem dX11_year_36 : decode bX11_year 36 = .ok (.iconst 0, 1) := by decide +kernel
theorem dX11_year_37 : decode bX11_year 37 = .ok (.istore 5, 2) := by decide +kernel
theorem dX11_year_39 : decode bX11_year 39 = .ok (.iconst 0, 1) := by decide +kernel
theorem dX11_year_40 : decode bX11_year 40 = .ok (.istore 6, 2) := by decide +kernel
theorem dX11_year_42 : decode bX11_year 42 = .ok (.iload 6, 2) := by decide +kernel
theorem dX11_year_44 : decode bX11_year 44 = .ok (.iload_n 2, 1) := by decide +kernel
theorem dX11_year_45 : decode bX11_year 45 = .ok (.if_icmp .ge 61, 3) := by decide +kernel
theorem dX11_year_48 : decode bX11_year 48 = .ok (.aload_n 0, 1) := by decide +kernel
theorem dX11_year_49 : decode bX11_year 49 = .ok (.getfield 76, 3) := by decide +kernel
theorem dX11_year_52 : decode bX11_year 52 = .ok (.aload_n 0, 1) := by decide +kernel
theorem dX11_year_53 : decode bX11_year 53 = .ok (.getfield 19, 3) := by decide +kernel
theorem dX11_year_56 : decode bX11_year 56 = .ok (.iload_n 1, 1) := by decide +kernel
theorem dX11_year_57 : decode bX11_year 57 = .ok (.iload 6, 2) := by decide +kernel
theorem dX11_year_59 : decode bX11_year 59 = .ok (.invokevirtual 315, 3) := by decide +kernel
theorem dX11_year_62 : decode bX11_year 62 = .ok (.aload_n 0, 1) := by decide +kernel
theorem dX11_year_63 : decode bX11_year 63 = .ok (.getfield 85, 3) := by decide +kernel
theorem dX11_year_66 : decode bX11_year 66 = .ok (.aload_n 0, 1) := by decide +kernel
theorem dX11_year_67 : decode bX11_year 67 = .ok (.getfield 76, 3) := by decide +kernel
theorem dX11_year_70 : decode bX11_year 70 = .ok (.invokevirtual 238, 3) := by decide +kernel
theorem dX11_year_73 : decode bX11_year 73 = .ok (.istore 7, 2) := by decide +kernel
theorem dX11_year_75 : decode bX11_year 75 = .ok (.iload 4, 2) := by decide +kernel
theorem dX11_year_77 : decode bX11_year 77 = .ok (.iload 7, 2) := by decide +kernel
theorem dX11_year_79 : decode bX11_year 79 = .ok (.invokestatic 213, 3) := by decide +kernel
theorem dX11_year_82 : decode bX11_year 82 = .ok (.iadd, 1) := by decide +kernel
theorem dX11_year_83 : decode bX11_year 83 = .ok (.istore 4, 2) := by decide +kernel
theorem dX11_year_85 : decode bX11_year 85 = .ok (.iload 5, 2) := by decide +kernel
theorem dX11_year_87 : decode bX11_year 87 = .ok (.iload 7, 2) := by decide +kernel
theorem dX11_year_89 : decode bX11_year 89 = .ok (.ifCond .ne 7, 3) := by decide +kernel
theorem dX11_year_92 : decode bX11_year 92 = .ok (.iconst 1, 1) := by decide +kernel
theorem dX11_year_93 : decode bX11_year 93 = .ok (.goto 4, 3) := by decide +kernel
theorem dX11_year_96 : decode bX11_year 96 = .ok (.iconst 0, 1) := by decide +kernel
theorem dX11_year_97 : decode bX11_year 97 = .ok (.iadd, 1) := by decide +kernel
theorem dX11_year_98 : decode bX11_year 98 = .ok (.istore 5, 2) := by decide +kernel
theorem dX11_year_100 : decode bX11_year 100 = .ok (.iinc 6 1, 3) := by decide +kernel
theorem dX11_year_103 : decode bX11_year 103 = .ok (.goto (-61), 3) := by decide +kernel
theorem dX11_year_106 : decode bX11_year 106 = .ok (.iload_n 3, 1) := by decide +kernel
theorem dX11_year_107 : decode bX11_year 107 = .ok (.ifCond .ne 8, 3) := by decide +kernel
theorem dX11_year_110 : decode bX11_year 110 = .ok (.iload 4, 2) := by decide +kernel
theorem dX11_year_112 : decode bX11_year 112 = .ok (.goto 5, 3) := by decide +kernel
theorem dX11_year_115 : decode bX11_year 115 = .ok (.iload 5, 2) := by decide +kernel
theorem dX11_year_117 : decode bX11_year 117 = .ok (.ireturn, 1) := by decide +kernel
section
variable {p : Program} {l : Launch} {e : Env} {s : State} {m : MethodId} {args : Array Value} {below : List Frame} {meth : Method} {c : Code} {G : GG} {n : Nat} {h' : Hp} {rv : Int32}
set_option maxHeartbeats 4000000
set_option maxRecDepth 100000
theorem j_X11_year_42 (C0 : Cx p s m args meth c G bX11_year RX11 8 (some .int) "year") (hN : NX ≤ n) : ∀ (fu : Nat), ∀ {H : Heap} {locs : List Loc} {ls : Array Slot} {h : Hp} {x0 : Nat} {x1 : Int32} {x2 : Int32} {x3 : Int32} {x4 : Int32} {x5 : Int32} {x6 : Int32}, XW G n h s 0 H locs → lv_has ls 8 [(0, .ref (bs G + x0)), (1, .int x1), (2, .int x2), (3, .int x3), (4, .int x4), (5, .int x5), (6, .int x6)] → kd x0 = 11 → f_X11_year_42 fu h x0 x1 x2 x3 x4 x5 x6 = some (rv, h') → W p l e (rmC 5 0 0) s m args below meth c H locs 0 0 (MQ below (QP G n h' (some (.int rv))) args s 0 0 (Ab G)) (F0 m 42 ls []) := by
  obtain ⟨hx, hb, hr, hml, hown, hts, hK, hlocks, hnm⟩ := id C0
  intro fu
  induction fu with
  | zero => intro H locs ls h x0 x1 x2 x3 x4 x5 x6 X hl o0 hf; cases hf
  | succ fu ih =>
    intro H locs ls h x0 x1 x2 x3 x4 x5 x6 X hl o0 hf
    rw [f_X11_year_42] at hf
    refine lv_iload hx hb dX11_year_42 (lv_at hl 6 rfl) ?_
    refine lv_iload_n hx hb dX11_year_44 rfl (lv_at hl 2 rfl) ?_
    refine lv_icmp_ge (tgt := 106) hx hb dX11_year_45 (by decide) (fun c45 => ?_) (fun c45 => ?_)
    · have hf := ite_t hf c45
      refine lv_iload_n hx hb dX11_year_106 rfl (lv_at hl 3 rfl) ?_
      refine lv_if_ne (tgt := 115) hx hb dX11_year_107 (by decide) (fun c107 => ?_) (fun c107 => ?_)
      · have hf := ite_f hf c107
        refine lv_iload hx hb dX11_year_115 (lv_at hl 5 rfl) ?_
        exact r_I hx hb hr hlocks X hf dX11_year_117
      · have hf := ite_t hf c107
        refine lv_iload hx hb dX11_year_110 (lv_at hl 4 rfl) ?_
        refine lv_goto (tgt := 117) hx hb dX11_year_112 (by decide) ?_
        exact r_I hx hb hr hlocks X hf dX11_year_117
    · have hf := ite_f hf c45
      refine lv_aload_n hx hb dX11_year_48 rfl (lv_at hl 0 rfl) ?_
      obtain ⟨g1, hf⟩ := gd_e hf
      refine g_R hx hb hts hown hK X o0 hN g1 fl_X11_76 (by decide) rfl (by decide) dX11_year_49 ?_
      refine lv_aload_n hx hb dX11_year_52 rfl (lv_at hl 0 rfl) ?_
      obtain ⟨g2, hf⟩ := gd_e hf
      refine g_R hx hb hts hown hK X o0 hN g2 fl_X11_19 (by decide) rfl (by decide) dX11_year_53 ?_
      refine lv_iload_n hx hb dX11_year_56 rfl (lv_at hl 1 rfl) ?_
      refine lv_iload hx hb dX11_year_57 (lv_at hl 6 rfl) ?_
      obtain ⟨r3, h4, q5, hf⟩ := bd_e hf
      refine c_V0 (As := [.ref (bs G + (h.2 x0 1)), .int x1, .int x6]) (rest := []) (st1 := []) hx hb hml hown hts hK X (k_X6_setDrawn l G n hN q5) g1 hN lc_X6_setDrawn lv_X11_315 (ci := 6) rfl rfl (by decide) rfl hl.1 (Nat.le_of_ble_eq_true rfl) dX11_year_59 rfl (fun H locs X => ?_)
      refine lv_aload_n hx hb dX11_year_62 rfl (lv_at hl 0 rfl) ?_
      obtain ⟨g6, hf⟩ := gd_e hf
      refine g_R hx hb hts hown hK X o0 hN g6 fl_X11_85 (by decide) rfl (by decide) dX11_year_63 ?_
      refine lv_aload_n hx hb dX11_year_66 rfl (lv_at hl 0 rfl) ?_
      obtain ⟨g7, hf⟩ := gd_e hf
      refine g_R hx hb hts hown hK X o0 hN g7 fl_X11_76 (by decide) rfl (by decide) dX11_year_67 ?_
      obtain ⟨r8, h9, q10, hf⟩ := bd_e hf
      refine c_V0 (As := [.ref (bs G + (h4.2 x0 10))]) (rest := []) (st1 := [.int r8]) hx hb hml hown hts hK X (k_X1_stuckIn l G n hN q10) g6 hN lc_X1_stuckIn lv_X11_238 (ci := 1) rfl rfl (by decide) rfl hl.1 (Nat.le_of_ble_eq_true rfl) dX11_year_70 rfl (fun H locs X => ?_)
      refine lv_istore (lv' := [(7, .int r8), (0, .ref (bs G + x0)), (1, .int x1), (2, .int x2), (3, .int x3), (4, .int x4), (5, .int x5), (6, .int x6)]) hx hb dX11_year_73 hl (by decide) rfl (fun ls hl => ?_)
      refine lv_iload hx hb dX11_year_75 (lv_at hl 5 rfl) ?_
      refine lv_iload hx hb dX11_year_77 (lv_at hl 0 rfl) ?_
      obtain ⟨r11, h12, q13, hf⟩ := bd_e hf
      refine c_S0 (As := [.int r8]) (rest := [.int x4]) (st1 := [.int r11, .int x4]) hx hb hml hown hts hK X (k_J6_bitCount_0f7a4 l G n hN q13) lc_J6_bitCount_0f7a4 ls_X11_213 (by decide) rfl hl.1 (Nat.le_of_ble_eq_true rfl) dX11_year_79 rfl (fun H locs X => ?_)
      refine lv_iadd hx hb dX11_year_82 ?_
      refine lv_istore (lv' := [(4, .int (x4 + r11)), (7, .int r8), (0, .ref (bs G + x0)), (1, .int x1), (2, .int x2), (3, .int x3), (5, .int x5), (6, .int x6)]) hx hb dX11_year_83 hl (by decide) rfl (fun ls hl => ?_)
      refine lv_iload hx hb dX11_year_85 (lv_at hl 6 rfl) ?_
      refine lv_iload hx hb dX11_year_87 (lv_at hl 1 rfl) ?_
      refine lv_if_ne (tgt := 96) hx hb dX11_year_89 (by decide) (fun c89 => ?_) (fun c89 => ?_)
      · have hf := ite_f hf c89
        refine lv_iconst (v := (0 : Int32)) hx hb dX11_year_96 (by decide) ?_
        refine lv_iadd hx hb dX11_year_97 ?_
        refine lv_istore (lv' := [(5, .int (x5 + (0 : Int32))), (4, .int (x4 + r11)), (7, .int r8), (0, .ref (bs G + x0)), (1, .int x1), (2, .int x2), (3, .int x3), (6, .int x6)]) hx hb dX11_year_98 hl (by decide) rfl (fun ls hl => ?_)
        refine lv_iinc (v := (x6 + (1 : Int32))) (lv' := [(6, .int (x6 + (1 : Int32))), (5, .int (x5 + (0 : Int32))), (4, .int (x4 + r11)), (7, .int r8), (0, .ref (bs G + x0)), (1, .int x1), (2, .int x2), (3, .int x3)]) hx hb dX11_year_100 hl (k := 7) rfl rfl (by decide) rfl (fun ls hl => ?_)
        refine lv_goto (tgt := 42) hx hb dX11_year_103 (by decide) ?_
        exact ih X (lv_sub hl [4, 5, 6, 7, 2, 1, 0] rfl) o0 hf
      · have hf := ite_t hf c89
        refine lv_iconst (v := (1 : Int32)) hx hb dX11_year_92 (by decide) ?_
        refine lv_goto (tgt := 97) hx hb dX11_year_93 (by decide) ?_
        refine lv_iadd hx hb dX11_year_97 ?_
        refine lv_istore (lv' := [(5, .int (x5 + (1 : Int32))), (4, .int (x4 + r11)), (7, .int r8), (0, .ref (bs G + x0)), (1, .int x1), (2, .int x2), (3, .int x3), (6, .int x6)]) hx hb dX11_year_98 hl (by decide) rfl (fun ls hl => ?_)
        refine lv_iinc (v := (x6 + (1 : Int32))) (lv' := [(6, .int (x6 + (1 : Int32))), (5, .int (x5 + (1 : Int32))), (4, .int (x4 + r11)), (7, .int r8), (0, .ref (bs G + x0)), (1, .int x1), (2, .int x2), (3, .int x3)]) hx hb dX11_year_100 hl (k := 7) rfl rfl (by decide) rfl (fun ls hl => ?_)
        refine lv_goto (tgt := 42) hx hb dX11_year_103 (by decide) ?_
        exact ih X (lv_sub hl [4, 5, 6, 7, 2, 1, 0] rfl) o0 hf
theorem k_X11_year (l : Launch) (G : GG) (n : Nat) (hN : NX ≤ n) {h h' : Hp} {x0 : Nat} {x1 : Int32} {x2 : Int32} {x3 : Int32} {rv : Int32} (hf : f_X11_year h x0 x1 x2 x3 = some (rv, h')) : CT l G n n yX11_year (.code yX11_year bX11_year 8 (some .int)) 5 0 0 [.ref (bs G + x0), .int x1, .int x2, .int x3] h h' (some (.int rv)) := by
  refine ct_of (maxL := 8) (ret := (some .int)) (bytes := bX11_year) (by decide) (Nat.le_of_ble_eq_true rfl) (fun p e s m below meth c C0 X ls hl => ?_)
  have hl : lv_has ls 8 [(0, .ref (bs G + x0)), (1, .int x1), (2, .int x2), (3, .int x3)] := hl
  obtain ⟨hx, hb, hr, hml, hown, hts, hK, hlocks, hnm⟩ := id C0
  unfold f_X11_year at hf
  obtain ⟨o0, hf⟩ := gd_e hf
  refine lv_iload_n hx hb dX11_year_0 rfl (lv_at hl 1 rfl) ?_
  refine lv_if_lt (tgt := 31) hx hb dX11_year_1 (by decide) (fun c1 => ?_) (fun c1 => ?_)
  · have hf := ite_t hf c1
    refine lv_iconst (v := (-1 : Int32)) hx hb dX11_year_31 (by decide) ?_
    exact r_I hx hb hr hlocks X hf dX11_year_32
  · have hf := ite_f hf c1
    refine lv_iload_n hx hb dX11_year_4 rfl (lv_at hl 1 rfl) ?_
    refine lv_sipush (v := (9999 : Int32)) hx hb dX11_year_5 (by decide) ?_
    refine lv_icmp_gt (tgt := 31) hx hb dX11_year_8 (by decide) (fun c8 => ?_) (fun c8 => ?_)
    · have hf := ite_t hf c8
      refine lv_iconst (v := (-1 : Int32)) hx hb dX11_year_31 (by decide) ?_
      exact r_I hx hb hr hlocks X hf dX11_year_32
    · have hf := ite_f hf c8
      refine lv_iload_n hx hb dX11_year_11 rfl (lv_at hl 2 rfl) ?_
      refine lv_iconst (v := (1 : Int32)) hx hb dX11_year_12 (by decide) ?_
      refine lv_icmp_lt (tgt := 31) hx hb dX11_year_13 (by decide) (fun c13 => ?_) (fun c13 => ?_)
      · have hf := ite_t hf c13
        refine lv_iconst (v := (-1 : Int32)) hx hb dX11_year_31 (by decide) ?_
        exact r_I hx hb hr hlocks X hf dX11_year_32
      · have hf := ite_f hf c13
        refine lv_iload_n hx hb dX11_year_16 rfl (lv_at hl 2 rfl) ?_
        refine lv_bipush (v := (30 : Int32)) hx hb dX11_year_17 (by decide) ?_
        refine lv_icmp_gt (tgt := 31) hx hb dX11_year_19 (by decide) (fun c19 => ?_) (fun c19 => ?_)
        · have hf := ite_t hf c19
          refine lv_iconst (v := (-1 : Int32)) hx hb dX11_year_31 (by decide) ?_
          exact r_I hx hb hr hlocks X hf dX11_year_32
        · have hf := ite_f hf c19
          refine lv_iload_n hx hb dX11_year_22 rfl (lv_at hl 3 rfl) ?_
          refine lv_if_lt (tgt := 31) hx hb dX11_year_23 (by decide) (fun c23 => ?_) (fun c23 => ?_)
          · have hf := ite_t hf c23
            refine lv_iconst (v := (-1 : Int32)) hx hb dX11_year_31 (by decide) ?_
            exact r_I hx hb hr hlocks X hf dX11_year_32
          · have hf := ite_f hf c23
            refine lv_iload_n hx hb dX11_year_26 rfl (lv_at hl 3 rfl) ?_
            refine lv_iconst (v := (1 : Int32)) hx hb dX11_year_27 (by decide) ?_
            refine lv_icmp_le (tgt := 33) hx hb dX11_year_28 (by decide) (fun c28 => ?_) (fun c28 => ?_)
            · have hf := ite_t hf c28
              refine lv_iconst (v := (0 : Int32)) hx hb dX11_year_33 (by decide) ?_
              refine lv_istore (lv' := [(4, .int (0 : Int32)), (0, .ref (bs G + x0)), (1, .int x1), (2, .int x2), (3, .int x3)]) hx hb dX11_year_34 hl (by decide) rfl (fun ls hl => ?_)
              refine lv_iconst (v := (0 : Int32)) hx hb dX11_year_36 (by decide) ?_
              refine lv_istore (lv' := [(5, .int (0 : Int32)), (4, .int (0 : Int32)), (0, .ref (bs G + x0)), (1, .int x1), (2, .int x2), (3, .int x3)]) hx hb dX11_year_37 hl (by decide) rfl (fun ls hl => ?_)
              refine lv_iconst (v := (0 : Int32)) hx hb dX11_year_39 (by decide) ?_
              refine lv_istore (lv' := [(6, .int (0 : Int32)), (5, .int (0 : Int32)), (4, .int (0 : Int32)), (0, .ref (bs G + x0)), (1, .int x1), (2, .int x2), (3, .int x3)]) hx hb dX11_year_40 hl (by decide) rfl (fun ls hl => ?_)
              exact j_X11_year_42 C0 hN FU X (lv_sub hl [3, 4, 5, 6, 2, 1, 0] rfl) o0 hf
            · have hf := ite_f hf c28
              refine lv_iconst (v := (-1 : Int32)) hx hb dX11_year_31 (by decide) ?_
              exact r_I hx hb hr hlocks X hf dX11_year_32
end
