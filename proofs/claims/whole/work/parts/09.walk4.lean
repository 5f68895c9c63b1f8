theorem dX4_isSet_0 : decode bX4_isSet 0 = .ok (.iload_n 1, 1) := by decide +kernel
theorem dX4_isSet_1 : decode bX4_isSet 1 = .ok (.ifCond .eq 18, 3) := by decide +kernel
theorem dX4_isSet_4 : decode bX4_isSet 4 = .ok (.iload_n 1, 1) := by decide +kernel
theorem dX4_isSet_5 : decode bX4_isSet 5 = .ok (.aload_n 0, 1) := by decide +kernel
theorem dX4_isSet_6 : decode bX4_isSet 6 = .ok (.invokevirtual 32, 3) := by decide +kernel
theorem dX4_isSet_9 : decode bX4_isSet 9 = .ok (.iconst (-1), 1) := by decide +kernel
theorem dX4_isSet_10 : decode bX4_isSet 10 = .ok (.ixor, 1) := by decide +kernel
theorem dX4_isSet_11 : decode bX4_isSet 11 = .ok (.iand, 1) := by decide +kernel
theorem dX4_isSet_12 : decode bX4_isSet 12 = .ok (.ifCond .ne 7, 3) := by decide +kernel
theorem dX4_isSet_15 : decode bX4_isSet 15 = .ok (.iconst 1, 1) := by decide +kernel
theorem dX4_isSet_16 : decode bX4_isSet 16 = .ok (.goto 4, 3) := by decide +kernel
theorem dX4_isSet_19 : decode bX4_isSet 19 = .ok (.iconst 0, 1) := by decide +kernel
theorem dX4_isSet_20 : decode bX4_isSet 20 = .ok (.ireturn, 1) := by decide +kernel
section
variable {p : Program} {l : Launch} {e : Env} {s : State} {m : MethodId} {args : Array Value} {below : List Frame} {meth : Method} {c : Code} {G : GG} {n : Nat} {h' : Hp} {rv : Int32}
set_option maxHeartbeats 4000000
set_option maxRecDepth 100000
theorem k_X4_isSet (l : Launch) (G : GG) (n : Nat) (hN : NX ≤ n) {h h' : Hp} {x0 : Nat} {x1 : Int32} {rv : Int32} (hf : f_X4_isSet h x0 x1 = some (rv, h')) : CT l G n n yX4_isSet (.code yX4_isSet bX4_isSet 2 (some .boolean)) 1 0 0 [.ref (bs G + x0), .int x1] h h' (some (.int rv)) := by
  refine ct_of (maxL := 2) (ret := (some .boolean)) (bytes := bX4_isSet) (by decide) (Nat.le_of_ble_eq_true rfl) (fun p e s m below meth c C0 X ls hl => ?_)
  have hl : lv_has ls 2 [(0, .ref (bs G + x0)), (1, .int x1)] := hl
  obtain ⟨hx, hb, hr, hml, hown, hts, hK, hlocks, hnm⟩ := id C0
  unfold f_X4_isSet at hf
  obtain ⟨o0, hf⟩ := gd_e hf
  refine lv_iload_n hx hb dX4_isSet_0 rfl (lv_at hl 1 rfl) ?_
  refine lv_if_eq (tgt := 19) hx hb dX4_isSet_1 (by decide) (fun c1 => ?_) (fun c1 => ?_)
  · have hf := ite_t hf c1
    refine lv_iconst (v := (0 : Int32)) hx hb dX4_isSet_19 (by decide) ?_
    exact r_Z hx hb hr hlocks X rfl hf dX4_isSet_20
  · have hf := ite_f hf c1
    refine lv_iload_n hx hb dX4_isSet_4 rfl (lv_at hl 1 rfl) ?_
    refine lv_aload_n hx hb dX4_isSet_5 rfl (lv_at hl 0 rfl) ?_
    obtain ⟨r1, h2, q3, hf⟩ := bd_e hf
    refine c_V0 (As := []) (rest := [.int x1]) (st1 := [.int r1, .int x1]) hx hb hml hown hts hK X (k_X4_all l G n hN q3) o0 hN lc_X4_all lv_X4_32 (ci := 4) rfl rfl (by decide) rfl hl.1 (Nat.le_of_ble_eq_true rfl) dX4_isSet_6 rfl (fun H locs X => ?_)
    refine lv_iconst (v := (-1 : Int32)) hx hb dX4_isSet_9 (by decide) ?_
    refine lv_ixor hx hb dX4_isSet_10 ?_
    refine lv_iand hx hb dX4_isSet_11 ?_
    refine lv_if_ne (tgt := 19) hx hb dX4_isSet_12 (by decide) (fun c12 => ?_) (fun c12 => ?_)
    · have hf := ite_f hf c12
      refine lv_iconst (v := (0 : Int32)) hx hb dX4_isSet_19 (by decide) ?_
      exact r_Z hx hb hr hlocks X rfl hf dX4_isSet_20
    · have hf := ite_t hf c12
      refine lv_iconst (v := (1 : Int32)) hx hb dX4_isSet_15 (by decide) ?_
      refine lv_goto (tgt := 20) hx hb dX4_isSet_16 (by decide) ?_
      exact r_Z hx hb hr hlocks X rfl hf dX4_isSet_20
end
theorem dX4_price_0 : decode bX4_price 0 = .ok (.aload_n 0, 1) := by decide +kernel
theorem dX4_price_1 : decode bX4_price 1 = .ok (.iload_n 1, 1) := by decide +kernel
theorem dX4_price_2 : decode bX4_price 2 = .ok (.invokevirtual 36, 3) := by decide +kernel
theorem dX4_price_5 : decode bX4_price 5 = .ok (.ifCond .ne 5, 3) := by decide +kernel
theorem dX4_price_8 : decode bX4_price 8 = .ok (.iconst 0, 1) := by decide +kernel
theorem dX4_price_9 : decode bX4_price 9 = .ok (.ireturn, 1) := by decide +kernel
theorem dX4_price_10 : decode bX4_price 10 = .ok (.aload_n 0, 1) := by decide +kernel
theorem dX4_price_11 : decode bX4_price 11 = .ok (.getfield 9, 3) := by decide +kernel
theorem dX4_price_14 : decode bX4_price 14 = .ok (.iload_n 1, 1) := by decide +kernel
theorem dX4_price_15 : decode bX4_price 15 = .ok (.iaload, 1) := by decide +kernel
theorem dX4_price_16 : decode bX4_price 16 = .ok (.iload_n 2, 1) := by decide +kernel
theorem dX4_price_17 : decode bX4_price 17 = .ok (.iconst 2, 1) := by decide +kernel
theorem dX4_price_18 : decode bX4_price 18 = .ok (.if_icmp .ne 10, 3) := by decide +kernel
theorem dX4_price_21 : decode bX4_price 21 = .ok (.aload_n 0, 1) := by decide +kernel
theorem dX4_price_22 : decode bX4_price 22 = .ok (.getfield 40, 3) := by decide +kernel
theorem dX4_price_25 : decode bX4_price 25 = .ok (.goto 16, 3) := by decide +kernel
theorem dX4_price_28 : decode bX4_price 28 = .ok (.iload_n 2, 1) := by decide +kernel
theorem dX4_price_29 : decode bX4_price 29 = .ok (.iconst 3, 1) := by decide +kernel
theorem dX4_price_30 : decode bX4_price 30 = .ok (.if_icmp .ne 10, 3) := by decide +kernel
theorem dX4_price_33 : decode bX4_price 33 = .ok (.aload_n 0, 1) := by decide +kernel
theorem dX4_price_34 : decode bX4_price 34 = .ok (.getfield 43, 3) := by decide +kernel
theorem dX4_price_37 : decode bX4_price 37 = .ok (.goto 4, 3) := by decide +kernel
theorem dX4_price_40 : decode bX4_price 40 = .ok (.iconst 0, 1) := by decide +kernel
theorem dX4_price_41 : decode bX4_price 41 = .ok (.iadd, 1) := by decide +kernel
theorem dX4_price_42 : decode bX4_price 42 = .ok (.ireturn, 1) := by decide +kernel
section
variable {p : Program} {l : Launch} {e : Env} {s : State} {m : MethodId} {args : Array Value} {below : List Frame} {meth : Method} {c : Code} {G : GG} {n : Nat} {h' : Hp} {rv : Int32}
set_option maxHeartbeats 4000000
set_option maxRecDepth 100000
theorem k_X4_price (l : Launch) (G : GG) (n : Nat) (hN : NX ≤ n) {h h' : Hp} {x0 : Nat} {x1 : Int32} {x2 : Int32} {rv : Int32} (hf : f_X4_price h x0 x1 x2 = some (rv, h')) : CT l G n n yX4_price (.code yX4_price bX4_price 3 (some .int)) 1 0 0 [.ref (bs G + x0), .int x1, .int x2] h h' (some (.int rv)) := by
  refine ct_of (maxL := 3) (ret := (some .int)) (bytes := bX4_price) (by decide) (Nat.le_of_ble_eq_true rfl) (fun p e s m below meth c C0 X ls hl => ?_)
  have hl : lv_has ls 3 [(0, .ref (bs G + x0)), (1, .int x1), (2, .int x2)] := hl
  obtain ⟨hx, hb, hr, hml, hown, hts, hK, hlocks, hnm⟩ := id C0
  unfold f_X4_price at hf
  obtain ⟨o0, hf⟩ := gd_e hf
  refine lv_aload_n hx hb dX4_price_0 rfl (lv_at hl 0 rfl) ?_
  refine lv_iload_n hx hb dX4_price_1 rfl (lv_at hl 1 rfl) ?_
  obtain ⟨r1, h2, q3, hf⟩ := bd_e hf
  refine c_V0 (As := [.int x1]) (rest := []) (st1 := [.int r1]) hx hb hml hown hts hK X (k_X4_isNumber l G n hN q3) o0 hN lc_X4_isNumber lv_X4_36 (ci := 4) rfl rfl (by decide) rfl hl.1 (Nat.le_of_ble_eq_true rfl) dX4_price_2 rfl (fun H locs X => ?_)
  refine lv_if_ne (tgt := 10) hx hb dX4_price_5 (by decide) (fun c5 => ?_) (fun c5 => ?_)
  · have hf := ite_f hf c5
    refine lv_aload_n hx hb dX4_price_10 rfl (lv_at hl 0 rfl) ?_
    obtain ⟨g4, hf⟩ := gd_e hf
    refine g_R hx hb hts hown hK X o0 hN g4 fl_X4_9 (by decide) rfl (by decide) dX4_price_11 ?_
    refine lv_iload_n hx hb dX4_price_14 rfl (lv_at hl 1 rfl) ?_
    obtain ⟨g5, hf⟩ := gd_e hf
    refine g_ia hx hb hK X g4 hN g5 (by decide) dX4_price_15 ?_
    refine lv_iload_n hx hb dX4_price_16 rfl (lv_at hl 2 rfl) ?_
    refine lv_iconst (v := (2 : Int32)) hx hb dX4_price_17 (by decide) ?_
    refine lv_icmp_ne (tgt := 28) hx hb dX4_price_18 (by decide) (fun c18 => ?_) (fun c18 => ?_)
    · have hf := ite_f hf c18
      refine lv_iload_n hx hb dX4_price_28 rfl (lv_at hl 2 rfl) ?_
      refine lv_iconst (v := (3 : Int32)) hx hb dX4_price_29 (by decide) ?_
      refine lv_icmp_ne (tgt := 40) hx hb dX4_price_30 (by decide) (fun c30 => ?_) (fun c30 => ?_)
      · have hf := ite_f hf c30
        refine lv_iconst (v := (0 : Int32)) hx hb dX4_price_40 (by decide) ?_
        refine lv_iadd hx hb dX4_price_41 ?_
        exact r_I hx hb hr hlocks X hf dX4_price_42
      · have hf := ite_t hf c30
        refine lv_aload_n hx hb dX4_price_33 rfl (lv_at hl 0 rfl) ?_
        refine g_I hx hb hts hown hK X o0 hN fl_X4_43 (by decide) rfl dX4_price_34 ?_
        refine lv_goto (tgt := 41) hx hb dX4_price_37 (by decide) ?_
        refine lv_iadd hx hb dX4_price_41 ?_
        exact r_I hx hb hr hlocks X hf dX4_price_42
    · have hf := ite_t hf c18
      refine lv_aload_n hx hb dX4_price_21 rfl (lv_at hl 0 rfl) ?_
      refine g_I hx hb hts hown hK X o0 hN fl_X4_40 (by decide) rfl dX4_price_22 ?_
      refine lv_goto (tgt := 41) hx hb dX4_price_25 (by decide) ?_
      refine lv_iadd hx hb dX4_price_41 ?_
      exact r_I hx hb hr hlocks X hf dX4_price_42
  · have hf := ite_t hf c5
    refine lv_iconst (v := (0 : Int32)) hx hb dX4_price_8 (by decide) ?_
    exact r_I hx hb hr hlocks X hf dX4_price_9
end
theorem dX4_setNumbers_0 : decode bX4_setNumbers 0 = .ok (.iload_n 1, 1) := by decide +kernel
theorem dX4_setNumbers_1 : decode bX4_setNumbers 1 = .ok (.iconst 1, 1) := by decide +kernel
theorem dX4_setNumbers_2 : decode bX4_setNumbers 2 = .ok (.if_icmp .lt 9, 3) := by decide +kernel
theorem dX4_setNumbers_5 : decode bX4_setNumbers 5 = .ok (.iload_n 1, 1) := by decide +kernel
theorem dX4_setNumbers_6 : decode bX4_setNumbers 6 = .ok (.bipush 24, 2) := by decide +kernel
theorem dX4_setNumbers_8 : decode bX4_setNumbers 8 = .ok (.if_icmp .le 5, 3) := by decide +kernel
theorem dX4_setNumbers_11 : decode bX4_setNumbers 11 = .ok (.iconst 0, 1) := by decide +kernel
theorem dX4_setNumbers_12 : decode bX4_setNumbers 12 = .ok (.ireturn, 1) := by decide +kernel
theorem dX4_setNumbers_13 : decode bX4_setNumbers 13 = .ok (.aload_n 0, 1) := by decide +kernel
theorem dX4_setNumbers_14 : decode bX4_setNumbers 14 = .ok (.iload_n 1, 1) := by decide +kernel
theorem dX4_setNumbers_15 : decode bX4_setNumbers 15 = .ok (.putfield 21, 3) := by decide +kernel
theorem dX4_setNumbers_18 : decode bX4_setNumbers 18 = .ok (.iconst 1, 1) := by decide +kernel
theorem dX4_setNumbers_19 : decode bX4_setNumbers 19 = .ok (.ireturn, 1) := by decide +kernel
section
variable {p : Program} {l : Launch} {e : Env} {s : State} {m : MethodId} {args : Array Value} {below : List Frame} {meth : Method} {c : Code} {G : GG} {n : Nat} {h' : Hp} {rv : Int32}
set_option maxHeartbeats 4000000
set_option maxRecDepth 100000
theorem k_X4_setNumbers (l : Launch) (G : GG) (n : Nat) (hN : NX ≤ n) {h h' : Hp} {x0 : Nat} {x1 : Int32} {rv : Int32} (hf : f_X4_setNumbers h x0 x1 = some (rv, h')) : CT l G n n yX4_setNumbers (.code yX4_setNumbers bX4_setNumbers 2 (some .boolean)) 0 0 0 [.ref (bs G + x0), .int x1] h h' (some (.int rv)) := by
  refine ct_of (maxL := 2) (ret := (some .boolean)) (bytes := bX4_setNumbers) (by decide) (Nat.le_of_ble_eq_true rfl) (fun p e s m below meth c C0 X ls hl => ?_)
  have hl : lv_has ls 2 [(0, .ref (bs G + x0)), (1, .int x1)] := hl
  obtain ⟨hx, hb, hr, hml, hown, hts, hK, hlocks, hnm⟩ := id C0
  unfold f_X4_setNumbers at hf
  obtain ⟨o0, hf⟩ := gd_e hf
  refine lv_iload_n hx hb dX4_setNumbers_0 rfl (lv_at hl 1 rfl) ?_
  refine lv_iconst (v := (1 : Int32)) hx hb dX4_setNumbers_1 (by decide) ?_
  refine lv_icmp_lt (tgt := 11) hx hb dX4_setNumbers_2 (by decide) (fun c2 => ?_) (fun c2 => ?_)
  · have hf := ite_t hf c2
    refine lv_iconst (v := (0 : Int32)) hx hb dX4_setNumbers_11 (by decide) ?_
    exact r_Z hx hb hr hlocks X rfl hf dX4_setNumbers_12
  · have hf := ite_f hf c2
    refine lv_iload_n hx hb dX4_setNumbers_5 rfl (lv_at hl 1 rfl) ?_
    refine lv_bipush (v := (24 : Int32)) hx hb dX4_setNumbers_6 (by decide) ?_
    refine lv_icmp_le (tgt := 13) hx hb dX4_setNumbers_8 (by decide) (fun c8 => ?_) (fun c8 => ?_)
    · have hf := ite_t hf c8
      refine lv_aload_n hx hb dX4_setNumbers_13 rfl (lv_at hl 0 rfl) ?_
      refine lv_iload_n hx hb dX4_setNumbers_14 rfl (lv_at hl 1 rfl) ?_
      refine g_PI hx hb hts hown hK X o0 hN fl_X4_21 ft_4_0 (by decide) rfl dX4_setNumbers_15 (fun H locs X => ?_)
      obtain ⟨h1, e2, hf⟩ := lt_e hf
      rw [← e2] at X
      refine lv_iconst (v := (1 : Int32)) hx hb dX4_setNumbers_18 (by decide) ?_
      exact r_Z hx hb hr hlocks X rfl hf dX4_setNumbers_19
    · have hf := ite_f hf c8
      refine lv_iconst (v := (0 : Int32)) hx hb dX4_setNumbers_11 (by decide) ?_
      exact r_Z hx hb hr hlocks X rfl hf dX4_setNumbers_12
end
theorem dX4_setCost_0 : decode bX4_setCost 0 = .ok (.aload_n 0, 1) := by decide +kernel
theorem dX4_setCost_1 : decode bX4_setCost 1 = .ok (.iload_n 1, 1) := by decide +kernel
theorem dX4_setCost_2 : decode bX4_setCost 2 = .ok (.invokevirtual 36, 3) := by decide +kernel
theorem dX4_setCost_5 : decode bX4_setCost 5 = .ok (.ifCond .eq 9, 3) := by decide +kernel
theorem dX4_setCost_8 : decode bX4_setCost 8 = .ok (.iload_n 2, 1) := by decide +kernel
theorem dX4_setCost_9 : decode bX4_setCost 9 = .ok (.bipush 9, 2) := by decide +kernel
theorem dX4_setCost_11 : decode bX4_setCost 11 = .ok (.if_icmp .le 5, 3) := by decide +kernel
theorem dX4_setCost_14 : decode bX4_setCost 14 = .ok (.iconst 0, 1) := by decide +kernel
theorem dX4_setCost_15 : decode bX4_setCost 15 = .ok (.ireturn, 1) := by decide +kernel
theorem dX4_setCost_16 : decode bX4_setCost 16 = .ok (.aload_n 0, 1) := by decide +kernel
theorem dX4_setCost_17 : decode bX4_setCost 17 = .ok (.getfield 9, 3) := by decide +kernel
theorem dX4_setCost_20 : decode bX4_setCost 20 = .ok (.iload_n 1, 1) := by decide +kernel
theorem dX4_setCost_21 : decode bX4_setCost 21 = .ok (.iload_n 2, 1) := by decide +kernel
theorem dX4_setCost_22 : decode bX4_setCost 22 = .ok (.iastore, 1) := by decide +kernel
theorem dX4_setCost_23 : decode bX4_setCost 23 = .ok (.iconst 1, 1) := by decide +kernel
theorem dX4_setCost_24 : decode bX4_setCost 24 = .ok (.ireturn, 1) := by decide +kernel
section
variable {p : Program} {l : Launch} {e : Env} {s : State} {m : MethodId} {args : Array Value} {below : List Frame} {meth : Method} {c : Code} {G : GG} {n : Nat} {h' : Hp} {rv : Int32}
set_option maxHeartbeats 4000000
set_option maxRecDepth 100000
theorem k_X4_setCost (l : Launch) (G : GG) (n : Nat) (hN : NX ≤ n) {h h' : Hp} {x0 : Nat} {x1 : Int32} {x2 : Int32} {rv : Int32} (hf : f_X4_setCost h x0 x1 x2 = some (rv, h')) : CT l G n n yX4_setCost (.code yX4_setCost bX4_setCost 3 (some .boolean)) 1 0 0 [.ref (bs G + x0), .int x1, .int x2] h h' (some (.int rv)) := by
  refine ct_of (maxL := 3) (ret := (some .boolean)) (bytes := bX4_setCost) (by decide) (Nat.le_of_ble_eq_true rfl) (fun p e s m below meth c C0 X ls hl => ?_)
  have hl : lv_has ls 3 [(0, .ref (bs G + x0)), (1, .int x1), (2, .int x2)] := hl
  obtain ⟨hx, hb, hr, hml, hown, hts, hK, hlocks, hnm⟩ := id C0
  unfold f_X4_setCost at hf
  obtain ⟨o0, hf⟩ := gd_e hf
  refine lv_aload_n hx hb dX4_setCost_0 rfl (lv_at hl 0 rfl) ?_
  refine lv_iload_n hx hb dX4_setCost_1 rfl (lv_at hl 1 rfl) ?_
  obtain ⟨r1, h2, q3, hf⟩ := bd_e hf
  refine c_V0 (As := [.int x1]) (rest := []) (st1 := [.int r1]) hx hb hml hown hts hK X (k_X4_isNumber l G n hN q3) o0 hN lc_X4_isNumber lv_X4_36 (ci := 4) rfl rfl (by decide) rfl hl.1 (Nat.le_of_ble_eq_true rfl) dX4_setCost_2 rfl (fun H locs X => ?_)
  refine lv_if_eq (tgt := 14) hx hb dX4_setCost_5 (by decide) (fun c5 => ?_) (fun c5 => ?_)
  · have hf := ite_t hf c5
    refine lv_iconst (v := (0 : Int32)) hx hb dX4_setCost_14 (by decide) ?_
    exact r_Z hx hb hr hlocks X rfl hf dX4_setCost_15
  · have hf := ite_f hf c5
    refine lv_iload_n hx hb dX4_setCost_8 rfl (lv_at hl 2 rfl) ?_
    refine lv_bipush (v := (9 : Int32)) hx hb dX4_setCost_9 (by decide) ?_
    refine lv_icmp_le (tgt := 16) hx hb dX4_setCost_11 (by decide) (fun c11 => ?_) (fun c11 => ?_)
    · have hf := ite_t hf c11
      refine lv_aload_n hx hb dX4_setCost_16 rfl (lv_at hl 0 rfl) ?_
      obtain ⟨g4, hf⟩ := gd_e hf
      refine g_R hx hb hts hown hK X o0 hN g4 fl_X4_9 (by decide) rfl (by decide) dX4_setCost_17 ?_
      refine lv_iload_n hx hb dX4_setCost_20 rfl (lv_at hl 1 rfl) ?_
      refine lv_iload_n hx hb dX4_setCost_21 rfl (lv_at hl 2 rfl) ?_
      obtain ⟨g5, hf⟩ := gd_e hf
      refine g_is hx hb hK X g4 hN g5 (by decide) dX4_setCost_22 (fun H locs X => ?_)
      obtain ⟨h6, e7, hf⟩ := lt_e hf
      rw [← e7] at X
      refine lv_iconst (v := (1 : Int32)) hx hb dX4_setCost_23 (by decide) ?_
      exact r_Z hx hb hr hlocks X rfl hf dX4_setCost_24
    · have hf := ite_f hf c11
      refine lv_iconst (v := (0 : Int32)) hx hb dX4_setCost_14 (by decide) ?_
      exact r_Z hx hb hr hlocks X rfl hf dX4_setCost_15
end
theorem dX4_addPerson_0 : decode bX4_addPerson 0 = .ok (.aload_n 0, 1) := by decide +kernel
theorem dX4_addPerson_1 : decode bX4_addPerson 1 = .ok (.getfield 25, 3) := by decide +kernel
theorem dX4_addPerson_4 : decode bX4_addPerson 4 = .ok (.bipush 6, 2) := by decide +kernel
theorem dX4_addPerson_6 : decode bX4_addPerson 6 = .ok (.if_icmp .ge 14, 3) := by decide +kernel
theorem dX4_addPerson_9 : decode bX4_addPerson 9 = .ok (.iload_n 1, 1) := by decide +kernel
theorem dX4_addPerson_10 : decode bX4_addPerson 10 = .ok (.iconst 1, 1) := by decide +kernel
theorem dX4_addPerson_11 : decode bX4_addPerson 11 = .ok (.if_icmp .lt 9, 3) := by decide +kernel
theorem dX4_addPerson_14 : decode bX4_addPerson 14 = .ok (.iload_n 1, 1) := by decide +kernel
theorem dX4_addPerson_15 : decode bX4_addPerson 15 = .ok (.bipush 99, 2) := by decide +kernel
theorem dX4_addPerson_17 : decode bX4_addPerson 17 = .ok (.if_icmp .le 5, 3) := by decide +kernel
theorem dX4_addPerson_20 : decode bX4_addPerson 20 = .ok (.iconst 0, 1) := by decide +kernel
theorem dX4_addPerson_21 : decode bX4_addPerson 21 = .ok (.ireturn, 1) := by decide +kernel
theorem dX4_addPerson_22 : decode bX4_addPerson 22 = .ok (.aload_n 0, 1) := by decide +kernel
theorem dX4_addPerson_23 : decode bX4_addPerson 23 = .ok (.getfield 18, 3) := by decide +kernel
theorem dX4_addPerson_26 : decode bX4_addPerson 26 = .ok (.aload_n 0, 1) := by decide +kernel
theorem dX4_addPerson_27 : decode bX4_addPerson 27 = .ok (.getfield 25, 3) := by decide +kernel
theorem dX4_addPerson_30 : decode bX4_addPerson 30 = .ok (.iload_n 1, 1) := by decide +kernel
theorem dX4_addPerson_31 : decode bX4_addPerson 31 = .ok (.iastore, 1) := by decide +kernel
theorem dX4_addPerson_32 : decode bX4_addPerson 32 = .ok (.aload_n 0, 1) := by decide +kernel
theorem dX4_addPerson_33 : decode bX4_addPerson 33 = .ok (.dup, 1) := by decide +kernel
theorem dX4_addPerson_34 : decode bX4_addPerson 34 = .ok (.getfield 25, 3) := by decide +kernel
theorem dX4_addPerson_37 : decode bX4_addPerson 37 = .ok (.iconst 1, 1) := by decide +kernel
theorem dX4_addPerson_38 : decode bX4_addPerson 38 = .ok (.iadd, 1) := by decide +kernel
theorem dX4_addPerson_39 : decode bX4_addPerson 39 = .ok (.putfield 25, 3) := by decide +kernel
theorem dX4_addPerson_42 : decode bX4_addPerson 42 = .ok (.iconst 1, 1) := by decide +kernel
theorem dX4_addPerson_43 : decode bX4_addPerson 43 = .ok (.ireturn, 1) := by decide +kernel
section
variable {p : Program} {l : Launch} {e : Env} {s : State} {m : MethodId} {args : Array Value} {below : List Frame} {meth : Method} {c : Code} {G : GG} {n : Nat} {h' : Hp} {rv : Int32}
set_option maxHeartbeats 4000000
set_option maxRecDepth 100000
theorem k_X4_addPerson (l : Launch) (G : GG) (n : Nat) (hN : NX ≤ n) {h h' : Hp} {x0 : Nat} {x1 : Int32} {rv : Int32} (hf : f_X4_addPerson h x0 x1 = some (rv, h')) : CT l G n n yX4_addPerson (.code yX4_addPerson bX4_addPerson 2 (some .boolean)) 0 0 0 [.ref (bs G + x0), .int x1] h h' (some (.int rv)) := by
  refine ct_of (maxL := 2) (ret := (some .boolean)) (bytes := bX4_addPerson) (by decide) (Nat.le_of_ble_eq_true rfl) (fun p e s m below meth c C0 X ls hl => ?_)
  have hl : lv_has ls 2 [(0, .ref (bs G + x0)), (1, .int x1)] := hl
  obtain ⟨hx, hb, hr, hml, hown, hts, hK, hlocks, hnm⟩ := id C0
  unfold f_X4_addPerson at hf
  obtain ⟨o0, hf⟩ := gd_e hf
  refine lv_aload_n hx hb dX4_addPerson_0 rfl (lv_at hl 0 rfl) ?_
  refine g_I hx hb hts hown hK X o0 hN fl_X4_25 (by decide) rfl dX4_addPerson_1 ?_
  refine lv_bipush (v := (6 : Int32)) hx hb dX4_addPerson_4 (by decide) ?_
  refine lv_icmp_ge (tgt := 20) hx hb dX4_addPerson_6 (by decide) (fun c6 => ?_) (fun c6 => ?_)
  · have hf := ite_t hf c6
    refine lv_iconst (v := (0 : Int32)) hx hb dX4_addPerson_20 (by decide) ?_
    exact r_Z hx hb hr hlocks X rfl hf dX4_addPerson_21
  · have hf := ite_f hf c6
    refine lv_iload_n hx hb dX4_addPerson_9 rfl (lv_at hl 1 rfl) ?_
    refine lv_iconst (v := (1 : Int32)) hx hb dX4_addPerson_10 (by decide) ?_
    refine lv_icmp_lt (tgt := 20) hx hb dX4_addPerson_11 (by decide) (fun c11 => ?_) (fun c11 => ?_)
    · have hf := ite_t hf c11
      refine lv_iconst (v := (0 : Int32)) hx hb dX4_addPerson_20 (by decide) ?_
      exact r_Z hx hb hr hlocks X rfl hf dX4_addPerson_21
    · have hf := ite_f hf c11
      refine lv_iload_n hx hb dX4_addPerson_14 rfl (lv_at hl 1 rfl) ?_
      refine lv_bipush (v := (99 : Int32)) hx hb dX4_addPerson_15 (by decide) ?_
      refine lv_icmp_le (tgt := 22) hx hb dX4_addPerson_17 (by decide) (fun c17 => ?_) (fun c17 => ?_)
      · have hf := ite_t hf c17
        refine lv_aload_n hx hb dX4_addPerson_22 rfl (lv_at hl 0 rfl) ?_
        obtain ⟨g1, hf⟩ := gd_e hf
        refine g_R hx hb hts hown hK X o0 hN g1 fl_X4_18 (by decide) rfl (by decide) dX4_addPerson_23 ?_
        refine lv_aload_n hx hb dX4_addPerson_26 rfl (lv_at hl 0 rfl) ?_
        refine g_I hx hb hts hown hK X o0 hN fl_X4_25 (by decide) rfl dX4_addPerson_27 ?_
        refine lv_iload_n hx hb dX4_addPerson_30 rfl (lv_at hl 1 rfl) ?_
        obtain ⟨g2, hf⟩ := gd_e hf
        refine g_is hx hb hK X g1 hN g2 (by decide) dX4_addPerson_31 (fun H locs X => ?_)
        obtain ⟨h3, e4, hf⟩ := lt_e hf
        rw [← e4] at X
        refine lv_aload_n hx hb dX4_addPerson_32 rfl (lv_at hl 0 rfl) ?_
        refine lv_dup hx hb dX4_addPerson_33 rfl ?_
        refine g_I hx hb hts hown hK X o0 hN fl_X4_25 (by decide) rfl dX4_addPerson_34 ?_
        refine lv_iconst (v := (1 : Int32)) hx hb dX4_addPerson_37 (by decide) ?_
        refine lv_iadd hx hb dX4_addPerson_38 ?_
        refine g_PI hx hb hts hown hK X o0 hN fl_X4_25 ft_4_1 (by decide) rfl dX4_addPerson_39 (fun H locs X => ?_)
        obtain ⟨h5, e6, hf⟩ := lt_e hf
        rw [← e6] at X
        refine lv_iconst (v := (1 : Int32)) hx hb dX4_addPerson_42 (by decide) ?_
        exact r_Z hx hb hr hlocks X rfl hf dX4_addPerson_43
      · have hf := ite_f hf c17
        refine lv_iconst (v := (0 : Int32)) hx hb dX4_addPerson_20 (by decide) ?_
        exact r_Z hx hb hr hlocks X rfl hf dX4_addPerson_21
end
theorem dX4_setOwner_0 : decode bX4_setOwner 0 = .ok (.aload_n 0, 1) := by decide +kernel
theorem dX4_setOwner_1 : decode bX4_setOwner 1 = .ok (.iload_n 1, 1) := by decide +kernel
theorem dX4_setOwner_2 : decode bX4_setOwner 2 = .ok (.invokevirtual 36, 3) := by decide +kernel
theorem dX4_setOwner_5 : decode bX4_setOwner 5 = .ok (.ifCond .eq 11, 3) := by decide +kernel
theorem dX4_setOwner_8 : decode bX4_setOwner 8 = .ok (.aload_n 0, 1) := by decide +kernel
theorem dX4_setOwner_9 : decode bX4_setOwner 9 = .ok (.iload_n 2, 1) := by decide +kernel
theorem dX4_setOwner_10 : decode bX4_setOwner 10 = .ok (.invokevirtual 46, 3) := by decide +kernel
theorem dX4_setOwner_13 : decode bX4_setOwner 13 = .ok (.ifCond .ne 5, 3) := by decide +kernel
theorem dX4_setOwner_16 : decode bX4_setOwner 16 = .ok (.iconst 0, 1) := by decide +kernel
theorem dX4_setOwner_17 : decode bX4_setOwner 17 = .ok (.ireturn, 1) := by decide +kernel
theorem dX4_setOwner_18 : decode bX4_setOwner 18 = .ok (.iconst 1, 1) := by decide +kernel
theorem dX4_setOwner_19 : decode bX4_setOwner 19 = .ok (.iload_n 1, 1) := by decide +kernel
theorem dX4_setOwner_20 : decode bX4_setOwner 20 = .ok (.iconst 1, 1) := by decide +kernel
theorem dX4_setOwner_21 : decode bX4_setOwner 21 = .ok (.isub, 1) := by decide +kernel
theorem dX4_setOwner_22 : decode bX4_setOwner 22 = .ok (.ishl, 1) := by decide +kernel
theorem dX4_setOwner_23 : decode bX4_setOwner 23 = .ok (.istore_n 3, 1) := by decide +kernel
theorem dX4_setOwner_24 : decode bX4_setOwner 24 = .ok (.iconst 0, 1) := by decide +kernel
theorem dX4_setOwner_25 : decode bX4_setOwner 25 = .ok (.istore 4, 2) := by decide +kernel
theorem dX4_setOwner_27 : decode bX4_setOwner 27 = .ok (.iload 4, 2) := by decide +kernel
theorem dX4_setOwner_29 : decode bX4_setOwner 29 = .ok (.bipush 6, 2) := by decide +kernel
theorem dX4_setOwner_31 : decode bX4_setOwner 31 = .ok (.if_icmp .ge 22, 3) := by decide +kernel
theorem dX4_setOwner_34 : decode bX4_setOwner 34 = .ok (.aload_n 0, 1) := by decide +kernel
theorem dX4_setOwner_35 : decode bX4_setOwner 35 = .ok (.getfield 15, 3) := by decide +kernel
theorem dX4_setOwner_38 : decode bX4_setOwner 38 = .ok (.iload 4, 2) := by decide +kernel
theorem dX4_setOwner_40 : decode bX4_setOwner 40 = .ok (.dup2, 1) := by decide +kernel
theorem dX4_setOwner_41 : decode bX4_setOwner 41 = .ok (.iaload, 1) := by decide +kernel
theorem dX4_setOwner_42 : decode bX4_setOwner 42 = .ok (.iload_n 3, 1) := by decide +kernel
theorem dX4_setOwner_43 : decode bX4_setOwner 43 = .ok (.iconst (-1), 1) := by decide +kernel
theorem dX4_setOwner_44 : decode bX4_setOwner 44 = .ok (.ixor, 1) := by decide +kernel
theorem dX4_setOwner_45 : decode bX4_setOwner 45 = .ok (.iand, 1) := by decide +kernel
theorem dX4_setOwner_46 : decode bX4_setOwner 46 = .ok (.iastore, 1) := by decide +kernel
theorem dX4_setOwner_47 : decode bX4_setOwner 47 = .ok (.iinc 4 1, 3) := by decide +kernel
theorem dX4_setOwner_50 : decode bX4_setOwner 50 = .ok (.goto (-23), 3) := by decide +kernel
theorem dX4_setOwner_53 : decode bX4_setOwner 53 = .ok (.aload_n 0, 1) := by decide +kernel
theorem dX4_setOwner_54 : decode bX4_setOwner 54 = .ok (.getfield 15, 3) := by decide +kernel
theorem dX4_setOwner_57 : decode bX4_setOwner 57 = .ok (.iload_n 2, 1) := by decide +kernel
theorem dX4_setOwner_58 : decode bX4_setOwner 58 = .ok (.dup2, 1) := by decide +kernel
theorem dX4_setOwner_59 : decode bX4_setOwner 59 = .ok (.iaload, 1) := by decide +kernel
theorem dX4_setOwner_60 : decode bX4_setOwner 60 = .ok (.iload_n 3, 1) := by decide +kernel
theorem dX4_setOwner_61 : decode bX4_setOwner 61 = .ok (.ior, 1) := by decide +kernel
theorem dX4_setOwner_62 : decode bX4_setOwner 62 = .ok (.iastore, 1) := by decide +kernel
theorem dX4_setOwner_63 : decode bX4_setOwner 63 = .ok (.iconst 1, 1) := by decide +kernel
theorem dX4_setOwner_64 : decode bX4_setOwner 64 = .ok (.ireturn, 1) := by decide +kernel
section
variable {p : Program} {l : Launch} {e : Env} {s : State} {m : MethodId} {args : Array Value} {below : List Frame} {meth : Method} {c : Code} {G : GG} {n : Nat} {h' : Hp} {rv : Int32}
set_option maxHeartbeats 4000000
set_option maxRecDepth 100000
theorem j_X4_setOwner_27 (C0 : Cx p s m args meth c G bX4_setOwner RX4 5 (some .boolean) "setOwner") (hN : NX ≤ n) : ∀ (fu : Nat), ∀ {H : Heap} {locs : List Loc} {ls : Array Slot} {h : Hp} {x0 : Nat} {x2 : Int32} {x3 : Int32} {x4 : Int32}, XW G n h s 0 H locs → lv_has ls 5 [(0, .ref (bs G + x0)), (2, .int x2), (3, .int x3), (4, .int x4)] → kd x0 = 4 → f_X4_setOwner_27 fu h x0 x2 x3 x4 = some (rv, h') → W p l e (rmC 1 0 0) s m args below meth c H locs 0 0 (MQ below (QP G n h' (some (.int rv))) args s 0 0 (Ab G)) (F0 m 27 ls []) := by
  obtain ⟨hx, hb, hr, hml, hown, hts, hK, hlocks, hnm⟩ := id C0
  intro fu
  induction fu with
  | zero => intro H locs ls h x0 x2 x3 x4 X hl o0 hf; cases hf
  | succ fu ih =>
    intro H locs ls h x0 x2 x3 x4 X hl o0 hf
    rw [f_X4_setOwner_27] at hf
    refine lv_iload hx hb dX4_setOwner_27 (lv_at hl 3 rfl) ?_
    refine lv_bipush (v := (6 : Int32)) hx hb dX4_setOwner_29 (by decide) ?_
    refine lv_icmp_ge (tgt := 53) hx hb dX4_setOwner_31 (by decide) (fun c31 => ?_) (fun c31 => ?_)
    · have hf := ite_t hf c31
      refine lv_aload_n hx hb dX4_setOwner_53 rfl (lv_at hl 0 rfl) ?_
      obtain ⟨g1, hf⟩ := gd_e hf
      refine g_R hx hb hts hown hK X o0 hN g1 fl_X4_15 (by decide) rfl (by decide) dX4_setOwner_54 ?_
      refine lv_iload_n hx hb dX4_setOwner_57 rfl (lv_at hl 1 rfl) ?_
      refine lv_dup2_11 hx hb dX4_setOwner_58 rfl rfl ?_
      obtain ⟨g2, hf⟩ := gd_e hf
      refine g_ia hx hb hK X g1 hN g2 (by decide) dX4_setOwner_59 ?_
      refine lv_iload_n hx hb dX4_setOwner_60 rfl (lv_at hl 2 rfl) ?_
      refine lv_ior hx hb dX4_setOwner_61 ?_
      obtain ⟨g3, hf⟩ := gd_e hf
      refine g_is hx hb hK X g1 hN g3 (by decide) dX4_setOwner_62 (fun H locs X => ?_)
      obtain ⟨h4, e5, hf⟩ := lt_e hf
      rw [← e5] at X
      refine lv_iconst (v := (1 : Int32)) hx hb dX4_setOwner_63 (by decide) ?_
      exact r_Z hx hb hr hlocks X rfl hf dX4_setOwner_64
    · have hf := ite_f hf c31
      refine lv_aload_n hx hb dX4_setOwner_34 rfl (lv_at hl 0 rfl) ?_
      obtain ⟨g6, hf⟩ := gd_e hf
      refine g_R hx hb hts hown hK X o0 hN g6 fl_X4_15 (by decide) rfl (by decide) dX4_setOwner_35 ?_
      refine lv_iload hx hb dX4_setOwner_38 (lv_at hl 3 rfl) ?_
      refine lv_dup2_11 hx hb dX4_setOwner_40 rfl rfl ?_
      obtain ⟨g7, hf⟩ := gd_e hf
      refine g_ia hx hb hK X g6 hN g7 (by decide) dX4_setOwner_41 ?_
      refine lv_iload_n hx hb dX4_setOwner_42 rfl (lv_at hl 2 rfl) ?_
      refine lv_iconst (v := (-1 : Int32)) hx hb dX4_setOwner_43 (by decide) ?_
      refine lv_ixor hx hb dX4_setOwner_44 ?_
      refine lv_iand hx hb dX4_setOwner_45 ?_
      obtain ⟨g8, hf⟩ := gd_e hf
      refine g_is hx hb hK X g6 hN g8 (by decide) dX4_setOwner_46 (fun H locs X => ?_)
      obtain ⟨h9, e10, hf⟩ := lt_e hf
      rw [← e10] at X
      refine lv_iinc (v := (x4 + (1 : Int32))) (lv' := [(4, .int (x4 + (1 : Int32))), (0, .ref (bs G + x0)), (2, .int x2), (3, .int x3)]) hx hb dX4_setOwner_47 hl (k := 3) rfl rfl (by decide) rfl (fun ls hl => ?_)
      refine lv_goto (tgt := 27) hx hb dX4_setOwner_50 (by decide) ?_
      exact ih X (lv_sub hl [1, 2, 3, 0] rfl) o0 hf
theorem k_X4_setOwner (l : Launch) (G : GG) (n : Nat) (hN : NX ≤ n) {h h' : Hp} {x0 : Nat} {x1 : Int32} {x2 : Int32} {rv : Int32} (hf : f_X4_setOwner h x0 x1 x2 = some (rv, h')) : CT l G n n yX4_setOwner (.code yX4_setOwner bX4_setOwner 5 (some .boolean)) 1 0 0 [.ref (bs G + x0), .int x1, .int x2] h h' (some (.int rv)) := by
  refine ct_of (maxL := 5) (ret := (some .boolean)) (bytes := bX4_setOwner) (by decide) (Nat.le_of_ble_eq_true rfl) (fun p e s m below meth c C0 X ls hl => ?_)
  have hl : lv_has ls 5 [(0, .ref (bs G + x0)), (1, .int x1), (2, .int x2)] := hl
  obtain ⟨hx, hb, hr, hml, hown, hts, hK, hlocks, hnm⟩ := id C0
  unfold f_X4_setOwner at hf
  obtain ⟨o0, hf⟩ := gd_e hf
  refine lv_aload_n hx hb dX4_setOwner_0 rfl (lv_at hl 0 rfl) ?_
  refine lv_iload_n hx hb dX4_setOwner_1 rfl (lv_at hl 1 rfl) ?_
  obtain ⟨r1, h2, q3, hf⟩ := bd_e hf
  refine c_V0 (As := [.int x1]) (rest := []) (st1 := [.int r1]) hx hb hml hown hts hK X (k_X4_isNumber l G n hN q3) o0 hN lc_X4_isNumber lv_X4_36 (ci := 4) rfl rfl (by decide) rfl hl.1 (Nat.le_of_ble_eq_true rfl) dX4_setOwner_2 rfl (fun H locs X => ?_)
  refine lv_if_eq (tgt := 16) hx hb dX4_setOwner_5 (by decide) (fun c5 => ?_) (fun c5 => ?_)
  · have hf := ite_t hf c5
    refine lv_iconst (v := (0 : Int32)) hx hb dX4_setOwner_16 (by decide) ?_
    exact r_Z hx hb hr hlocks X rfl hf dX4_setOwner_17
  · have hf := ite_f hf c5
    refine lv_aload_n hx hb dX4_setOwner_8 rfl (lv_at hl 0 rfl) ?_
    refine lv_iload_n hx hb dX4_setOwner_9 rfl (lv_at hl 2 rfl) ?_
    obtain ⟨r4, h5, q6, hf⟩ := bd_e hf
    refine c_V0 (As := [.int x2]) (rest := []) (st1 := [.int r4]) hx hb hml hown hts hK X (k_X4_isPerson l G n hN q6) o0 hN lc_X4_isPerson lv_X4_46 (ci := 4) rfl rfl (by decide) rfl hl.1 (Nat.le_of_ble_eq_true rfl) dX4_setOwner_10 rfl (fun H locs X => ?_)
    refine lv_if_ne (tgt := 18) hx hb dX4_setOwner_13 (by decide) (fun c13 => ?_) (fun c13 => ?_)
    · have hf := ite_f hf c13
      refine lv_iconst (v := (1 : Int32)) hx hb dX4_setOwner_18 (by decide) ?_
      refine lv_iload_n hx hb dX4_setOwner_19 rfl (lv_at hl 1 rfl) ?_
      refine lv_iconst (v := (1 : Int32)) hx hb dX4_setOwner_20 (by decide) ?_
      refine lv_isub hx hb dX4_setOwner_21 ?_
      refine lv_ishl hx hb dX4_setOwner_22 ?_
      refine lv_istore_n (lv' := [(3, .int ((1 : Int32) <<< ((x1 - (1 : Int32)) &&& 31))), (0, .ref (bs G + x0)), (1, .int x1), (2, .int x2)]) hx hb dX4_setOwner_23 rfl hl (by decide) rfl (fun ls hl => ?_)
      refine lv_iconst (v := (0 : Int32)) hx hb dX4_setOwner_24 (by decide) ?_
      refine lv_istore (lv' := [(4, .int (0 : Int32)), (3, .int ((1 : Int32) <<< ((x1 - (1 : Int32)) &&& 31))), (0, .ref (bs G + x0)), (1, .int x1), (2, .int x2)]) hx hb dX4_setOwner_25 hl (by decide) rfl (fun ls hl => ?_)
      exact j_X4_setOwner_27 C0 hN FU X (lv_sub hl [2, 4, 1, 0] rfl) o0 hf
    · have hf := ite_t hf c13
      refine lv_iconst (v := (0 : Int32)) hx hb dX4_setOwner_16 (by decide) ?_
      exact r_Z hx hb hr hlocks X rfl hf dX4_setOwner_17
end
theorem dX7_setPort_0 : decode bX7_setPort 0 = .ok (.aload_n 0, 1) := by decide +kernel
theorem dX7_setPort_1 : decode bX7_setPort 1 = .ok (.bipush (-4), 2) := by decide +kernel
theorem dX7_setPort_3 : decode bX7_setPort 3 = .ok (.putfield 27, 3) := by decide +kernel
theorem dX7_setPort_6 : decode bX7_setPort 6 = .ok (.iconst 1, 1) := by decide +kernel
theorem dX7_setPort_7 : decode bX7_setPort 7 = .ok (.istore_n 2, 1) := by decide +kernel
theorem dX7_setPort_8 : decode bX7_setPort 8 = .ok (.iload_n 2, 1) := by decide +kernel
theorem dX7_setPort_9 : decode bX7_setPort 9 = .ok (.iconst 3, 1) := by decide +kernel
theorem dX7_setPort_10 : decode bX7_setPort 10 = .ok (.if_icmp .gt 40, 3) := by decide +kernel
theorem dX7_setPort_13 : decode bX7_setPort 13 = .ok (.iconst 1, 1) := by decide +kernel
theorem dX7_setPort_14 : decode bX7_setPort 14 = .ok (.istore_n 3, 1) := by decide +kernel
theorem dX7_setPort_15 : decode bX7_setPort 15 = .ok (.iload_n 3, 1) := by decide +kernel
theorem dX7_setPort_16 : decode bX7_setPort 16 = .ok (.bipush 24, 2) := by decide +kernel
theorem dX7_setPort_18 : decode bX7_setPort 18 = .ok (.if_icmp .gt 26, 3) := by decide +kernel
theorem dX7_setPort_21 : decode bX7_setPort 21 = .ok (.aload_n 0, 1) := by decide +kernel
theorem dX7_setPort_22 : decode bX7_setPort 22 = .ok (.getfield 24, 3) := by decide +kernel
theorem dX7_setPort_25 : decode bX7_setPort 25 = .ok (.iload_n 2, 1) := by decide +kernel
theorem dX7_setPort_26 : decode bX7_setPort 26 = .ok (.bipush 25, 2) := by decide +kernel
theorem dX7_setPort_28 : decode bX7_setPort 28 = .ok (.imul, 1) := by decide +kernel
theorem dX7_setPort_29 : decode bX7_setPort 29 = .ok (.iload_n 3, 1) := by decide +kernel
theorem dX7_setPort_30 : decode bX7_setPort 30 = .ok (.iadd, 1) := by decide +kernel
theorem dX7_setPort_31 : decode bX7_setPort 31 = .ok (.aload_n 1, 1) := by decide +kernel
theorem dX7_setPort_32 : decode bX7_setPort 32 = .ok (.iload_n 3, 1) := by decide +kernel
theorem dX7_setPort_33 : decode bX7_setPort 33 = .ok (.iload_n 2, 1) := by decide +kernel
theorem dX7_setPort_34 : decode bX7_setPort 34 = .ok (.invokevirtual 31, 3) := by decide +kernel
theorem dX7_setPort_37 : decode bX7_setPort 37 = .ok (.iastore, 1) := by decide +kernel
theorem dX7_setPort_38 : decode bX7_setPort 38 = .ok (.iinc 3 1, 3) := by decide +kernel
theorem dX7_setPort_41 : decode bX7_setPort 41 = .ok (.goto (-26), 3) := by decide +kernel
theorem dX7_setPort_44 : decode bX7_setPort 44 = .ok (.iinc 2 1, 3) := by decide +kernel
theorem dX7_setPort_47 : decode bX7_setPort 47 = .ok (.goto (-39), 3) := by decide +kernel
theorem dX7_setPort_50 : decode bX7_setPort 50 = .ok (.return_, 1) := by decide +kernel
section
variable {p : Program} {l : Launch} {e : Env} {s : State} {m : MethodId} {args : Array Value} {below : List Frame} {meth : Method} {c : Code} {G : GG} {n : Nat} {h' : Hp} {rv : Unit}
set_option maxHeartbeats 4000000
set_option maxRecDepth 100000
theorem j_X7_setPort_15 (C0 : Cx p s m args meth c G bX7_setPort RX7 4 none "setPort") (hN : NX ≤ n) {k8 : Hp → Nat → Nat → Int32 → Option (Unit × Hp)} (ih8 : ∀ {H : Heap} {locs : List Loc} {ls : Array Slot} {h : Hp} {x0 : Nat} {x1 : Nat} {x2 : Int32}, XW G n h s 0 H locs → lv_has ls 4 [(0, .ref (bs G + x0)), (1, .ref (bs G + x1)), (2, .int x2)] → kd x0 = 7 → kd x1 = 4 → k8 h x0 x1 x2 = some (rv, h') → W p l e (rmC 2 0 0) s m args below meth c H locs 0 0 (MQ below (QP G n h' none) args s 0 0 (Ab G)) (F0 m 8 ls [])) : ∀ (fu : Nat), ∀ {H : Heap} {locs : List Loc} {ls : Array Slot} {h : Hp} {x0 : Nat} {x1 : Nat} {x2 : Int32} {x3 : Int32}, XW G n h s 0 H locs → lv_has ls 4 [(0, .ref (bs G + x0)), (1, .ref (bs G + x1)), (2, .int x2), (3, .int x3)] → kd x0 = 7 → kd x1 = 4 → f_X7_setPort_15 k8 fu h x0 x1 x2 x3 = some (rv, h') → W p l e (rmC 2 0 0) s m args below meth c H locs 0 0 (MQ below (QP G n h' none) args s 0 0 (Ab G)) (F0 m 15 ls []) := by
  obtain ⟨hx, hb, hr, hml, hown, hts, hK, hlocks, hnm⟩ := id C0
  intro fu
  induction fu with
  | zero => intro H locs ls h x0 x1 x2 x3 X hl o0 o1 hf; cases hf
  | succ fu ih =>
    intro H locs ls h x0 x1 x2 x3 X hl o0 o1 hf
    rw [f_X7_setPort_15] at hf
    refine lv_iload_n hx hb dX7_setPort_15 rfl (lv_at hl 3 rfl) ?_
    refine lv_bipush (v := (24 : Int32)) hx hb dX7_setPort_16 (by decide) ?_
    refine lv_icmp_gt (tgt := 44) hx hb dX7_setPort_18 (by decide) (fun c18 => ?_) (fun c18 => ?_)
    · have hf := ite_t hf c18
      refine lv_iinc (v := (x2 + (1 : Int32))) (lv' := [(2, .int (x2 + (1 : Int32))), (0, .ref (bs G + x0)), (1, .ref (bs G + x1)), (3, .int x3)]) hx hb dX7_setPort_44 hl (k := 2) rfl rfl (by decide) rfl (fun ls hl => ?_)
      refine lv_goto (tgt := 8) hx hb dX7_setPort_47 (by decide) ?_
      exact ih8 X (lv_sub hl [1, 2, 0] rfl) o0 o1 hf
    · have hf := ite_f hf c18
      refine lv_aload_n hx hb dX7_setPort_21 rfl (lv_at hl 0 rfl) ?_
      obtain ⟨g1, hf⟩ := gd_e hf
      refine g_R hx hb hts hown hK X o0 hN g1 fl_X7_24 (by decide) rfl (by decide) dX7_setPort_22 ?_
      refine lv_iload_n hx hb dX7_setPort_25 rfl (lv_at hl 2 rfl) ?_
      refine lv_bipush (v := (25 : Int32)) hx hb dX7_setPort_26 (by decide) ?_
      refine lv_imul hx hb dX7_setPort_28 ?_
      refine lv_iload_n hx hb dX7_setPort_29 rfl (lv_at hl 3 rfl) ?_
      refine lv_iadd hx hb dX7_setPort_30 ?_
      refine lv_aload_n hx hb dX7_setPort_31 rfl (lv_at hl 1 rfl) ?_
      refine lv_iload_n hx hb dX7_setPort_32 rfl (lv_at hl 3 rfl) ?_
      refine lv_iload_n hx hb dX7_setPort_33 rfl (lv_at hl 2 rfl) ?_
      obtain ⟨r2, h3, q4, hf⟩ := bd_e hf
      refine c_V0 (As := [.int x3, .int x2]) (rest := [.int ((x2 * (25 : Int32)) + x3), .ref (bs G + (h.2 x0 8))]) (st1 := [.int r2, .int ((x2 * (25 : Int32)) + x3), .ref (bs G + (h.2 x0 8))]) hx hb hml hown hts hK X (k_X4_price l G n hN q4) o1 hN lc_X4_price lv_X7_31 (ci := 4) rfl rfl (by decide) rfl hl.1 (Nat.le_of_ble_eq_true rfl) dX7_setPort_34 rfl (fun H locs X => ?_)
      obtain ⟨g5, hf⟩ := gd_e hf
      refine g_is hx hb hK X g1 hN g5 (by decide) dX7_setPort_37 (fun H locs X => ?_)
      obtain ⟨h6, e7, hf⟩ := lt_e hf
      rw [← e7] at X
      refine lv_iinc (v := (x3 + (1 : Int32))) (lv' := [(3, .int (x3 + (1 : Int32))), (0, .ref (bs G + x0)), (1, .ref (bs G + x1)), (2, .int x2)]) hx hb dX7_setPort_38 hl (k := 3) rfl rfl (by decide) rfl (fun ls hl => ?_)
      refine lv_goto (tgt := 15) hx hb dX7_setPort_41 (by decide) ?_
      exact ih X (lv_sub hl [1, 2, 3, 0] rfl) o0 o1 hf
theorem j_X7_setPort_8 (C0 : Cx p s m args meth c G bX7_setPort RX7 4 none "setPort") (hN : NX ≤ n) : ∀ (fu : Nat), ∀ {H : Heap} {locs : List Loc} {ls : Array Slot} {h : Hp} {x0 : Nat} {x1 : Nat} {x2 : Int32}, XW G n h s 0 H locs → lv_has ls 4 [(0, .ref (bs G + x0)), (1, .ref (bs G + x1)), (2, .int x2)] → kd x0 = 7 → kd x1 = 4 → f_X7_setPort_8 fu h x0 x1 x2 = some (rv, h') → W p l e (rmC 2 0 0) s m args below meth c H locs 0 0 (MQ below (QP G n h' none) args s 0 0 (Ab G)) (F0 m 8 ls []) := by
  obtain ⟨hx, hb, hr, hml, hown, hts, hK, hlocks, hnm⟩ := id C0
  intro fu
  induction fu with
  | zero => intro H locs ls h x0 x1 x2 X hl o0 o1 hf; cases hf
  | succ fu ih =>
    intro H locs ls h x0 x1 x2 X hl o0 o1 hf
    rw [f_X7_setPort_8] at hf
    refine lv_iload_n hx hb dX7_setPort_8 rfl (lv_at hl 2 rfl) ?_
    refine lv_iconst (v := (3 : Int32)) hx hb dX7_setPort_9 (by decide) ?_
    refine lv_icmp_gt (tgt := 50) hx hb dX7_setPort_10 (by decide) (fun c10 => ?_) (fun c10 => ?_)
    · have hf := ite_t hf c10
      exact r_V hx hb hr hlocks X hf dX7_setPort_50
    · have hf := ite_f hf c10
      refine lv_iconst (v := (1 : Int32)) hx hb dX7_setPort_13 (by decide) ?_
      refine lv_istore_n (lv' := [(3, .int (1 : Int32)), (0, .ref (bs G + x0)), (1, .ref (bs G + x1)), (2, .int x2)]) hx hb dX7_setPort_14 rfl hl (by decide) rfl (fun ls hl => ?_)
      exact j_X7_setPort_15 C0 hN @ih FU X (lv_sub hl [1, 2, 3, 0] rfl) o0 o1 hf
theorem k_X7_setPort (l : Launch) (G : GG) (n : Nat) (hN : NX ≤ n) {h h' : Hp} {x0 : Nat} {x1 : Nat} {rv : Unit} (hf : f_X7_setPort h x0 x1 = some (rv, h')) : CT l G n n yX7_setPort (.code yX7_setPort bX7_setPort 4 none) 2 0 0 [.ref (bs G + x0), .ref (bs G + x1)] h h' none := by
  refine ct_of (maxL := 4) (ret := none) (bytes := bX7_setPort) (by decide) (Nat.le_of_ble_eq_true rfl) (fun p e s m below meth c C0 X ls hl => ?_)
  have hl : lv_has ls 4 [(0, .ref (bs G + x0)), (1, .ref (bs G + x1))] := hl
  obtain ⟨hx, hb, hr, hml, hown, hts, hK, hlocks, hnm⟩ := id C0
  unfold f_X7_setPort at hf
  obtain ⟨o0, hf⟩ := gd_e hf
  obtain ⟨o1, hf⟩ := gd_e hf
  refine lv_aload_n hx hb dX7_setPort_0 rfl (lv_at hl 0 rfl) ?_
  refine lv_bipush (v := (-4 : Int32)) hx hb dX7_setPort_1 (by decide) ?_
  refine g_PI hx hb hts hown hK X o0 hN fl_X7_27 ft_7_11 (by decide) rfl dX7_setPort_3 (fun H locs X => ?_)
  obtain ⟨h1, e2, hf⟩ := lt_e hf
  rw [← e2] at X
  refine lv_iconst (v := (1 : Int32)) hx hb dX7_setPort_6 (by decide) ?_
  refine lv_istore_n (lv' := [(2, .int (1 : Int32)), (0, .ref (bs G + x0)), (1, .ref (bs G + x1))]) hx hb dX7_setPort_7 rfl hl (by decide) rfl (fun ls hl => ?_)
  exact j_X7_setPort_8 C0 hN FU X (lv_sub hl [1, 2, 0] rfl) o0 o1 hf
end
theorem dX5_forget_0 : decode bX5_forget 0 = .ok (.aload_n 0, 1) := by decide +kernel
theorem dX5_forget_1 : decode bX5_forget 1 = .ok (.getfield 14, 3) := by decide +kernel
theorem dX5_forget_4 : decode bX5_forget 4 = .ok (.aload_n 1, 1) := by decide +kernel
theorem dX5_forget_5 : decode bX5_forget 5 = .ok (.invokevirtual 40, 3) := by decide +kernel
theorem dX5_forget_8 : decode bX5_forget 8 = .ok (.iconst 0, 1) := by decide +kernel
theorem dX5_forget_9 : decode bX5_forget 9 = .ok (.istore_n 2, 1) := by decide +kernel
theorem dX5_forget_10 : decode bX5_forget 10 = .ok (.iload_n 2, 1) := by decide +kernel
theorem dX5_forget_11 : decode bX5_forget 11 = .ok (.sipush 800, 3) := by decide +kernel
theorem dX5_forget_14 : decode bX5_forget 14 = .ok (.if_icmp .ge 17, 3) := by decide +kernel
theorem dX5_forget_17 : decode bX5_forget 17 = .ok (.aload_n 0, 1) := by decide +kernel
theorem dX5_forget_18 : decode bX5_forget 18 = .ok (.getfield 22, 3) := by decide +kernel
theorem dX5_forget_21 : decode bX5_forget 21 = .ok (.iload_n 2, 1) := by decide +kernel
theorem dX5_forget_22 : decode bX5_forget 22 = .ok (.bipush (-4), 2) := by decide +kernel
theorem dX5_forget_24 : decode bX5_forget 24 = .ok (.iastore, 1) := by decide +kernel
theorem dX5_forget_25 : decode bX5_forget 25 = .ok (.iinc 2 1, 3) := by decide +kernel
theorem dX5_forget_28 : decode bX5_forget 28 = .ok (.goto (-18), 3) := by decide +kernel
theorem dX5_forget_31 : decode bX5_forget 31 = .ok (.return_, 1) := by decide +kernel
section
variable {p : Program} {l : Launch} {e : Env} {s : State} {m : MethodId} {args : Array Value} {below : List Frame} {meth : Method} {c : Code} {G : GG} {n : Nat} {h' : Hp} {rv : Unit}
set_option maxHeartbeats 4000000
set_option maxRecDepth 100000
theorem j_X5_forget_10 (C0 : Cx p s m args meth c G bX5_forget RX5 3 none "forget") (hN : NX ≤ n) : ∀ (fu : Nat), ∀ {H : Heap} {locs : List Loc} {ls : Array Slot} {h : Hp} {x0 : Nat} {x2 : Int32}, XW G n h s 0 H locs → lv_has ls 3 [(0, .ref (bs G + x0)), (2, .int x2)] → kd x0 = 5 → f_X5_forget_10 fu h x0 x2 = some (rv, h') → W p l e (rmC 3 0 0) s m args below meth c H locs 0 0 (MQ below (QP G n h' none) args s 0 0 (Ab G)) (F0 m 10 ls []) := by
  obtain ⟨hx, hb, hr, hml, hown, hts, hK, hlocks, hnm⟩ := id C0
  intro fu
  induction fu with
  | zero => intro H locs ls h x0 x2 X hl o0 hf; cases hf
  | succ fu ih =>
    intro H locs ls h x0 x2 X hl o0 hf
    rw [f_X5_forget_10] at hf
    refine lv_iload_n hx hb dX5_forget_10 rfl (lv_at hl 1 rfl) ?_
    refine lv_sipush (v := (800 : Int32)) hx hb dX5_forget_11 (by decide) ?_
    refine lv_icmp_ge (tgt := 31) hx hb dX5_forget_14 (by decide) (fun c14 => ?_) (fun c14 => ?_)
    · have hf := ite_t hf c14
      exact r_V hx hb hr hlocks X hf dX5_forget_31
    · have hf := ite_f hf c14
      refine lv_aload_n hx hb dX5_forget_17 rfl (lv_at hl 0 rfl) ?_
      obtain ⟨g1, hf⟩ := gd_e hf
      refine g_R hx hb hts hown hK X o0 hN g1 fl_X5_22 (by decide) rfl (by decide) dX5_forget_18 ?_
      refine lv_iload_n hx hb dX5_forget_21 rfl (lv_at hl 1 rfl) ?_
      refine lv_bipush (v := (-4 : Int32)) hx hb dX5_forget_22 (by decide) ?_
      obtain ⟨g2, hf⟩ := gd_e hf
      refine g_is hx hb hK X g1 hN g2 (by decide) dX5_forget_24 (fun H locs X => ?_)
      obtain ⟨h3, e4, hf⟩ := lt_e hf
      rw [← e4] at X
      refine lv_iinc (v := (x2 + (1 : Int32))) (lv' := [(2, .int (x2 + (1 : Int32))), (0, .ref (bs G + x0))]) hx hb dX5_forget_25 hl (k := 1) rfl rfl (by decide) rfl (fun ls hl => ?_)
      refine lv_goto (tgt := 10) hx hb dX5_forget_28 (by decide) ?_
      exact ih X (lv_sub hl [1, 0] rfl) o0 hf
theorem k_X5_forget (l : Launch) (G : GG) (n : Nat) (hN : NX ≤ n) {h h' : Hp} {x0 : Nat} {x1 : Nat} {rv : Unit} (hf : f_X5_forget h x0 x1 = some (rv, h')) : CT l G n n yX5_forget (.code yX5_forget bX5_forget 3 none) 3 0 0 [.ref (bs G + x0), .ref (bs G + x1)] h h' none := by
  refine ct_of (maxL := 3) (ret := none) (bytes := bX5_forget) (by decide) (Nat.le_of_ble_eq_true rfl) (fun p e s m below meth c C0 X ls hl => ?_)
  have hl : lv_has ls 3 [(0, .ref (bs G + x0)), (1, .ref (bs G + x1))] := hl
  obtain ⟨hx, hb, hr, hml, hown, hts, hK, hlocks, hnm⟩ := id C0
  unfold f_X5_forget at hf
  obtain ⟨o0, hf⟩ := gd_e hf
  obtain ⟨o1, hf⟩ := gd_e hf
  refine lv_aload_n hx hb dX5_forget_0 rfl (lv_at hl 0 rfl) ?_
  obtain ⟨g1, hf⟩ := gd_e hf
  refine g_R hx hb hts hown hK X o0 hN g1 fl_X5_14 (by decide) rfl (by decide) dX5_forget_1 ?_
  refine lv_aload_n hx hb dX5_forget_4 rfl (lv_at hl 1 rfl) ?_
  obtain ⟨r2, h3, q4, hf⟩ := bd_e hf
  refine c_V0 (As := [.ref (bs G + x1)]) (rest := []) (st1 := []) hx hb hml hown hts hK X (k_X7_setPort l G n hN q4) g1 hN lc_X7_setPort lv_X5_40 (ci := 7) rfl rfl (by decide) rfl hl.1 (Nat.le_of_ble_eq_true rfl) dX5_forget_5 rfl (fun H locs X => ?_)
  refine lv_iconst (v := (0 : Int32)) hx hb dX5_forget_8 (by decide) ?_
  refine lv_istore_n (lv' := [(2, .int (0 : Int32)), (0, .ref (bs G + x0)), (1, .ref (bs G + x1))]) hx hb dX5_forget_9 rfl hl (by decide) rfl (fun ls hl => ?_)
  exact j_X5_forget_10 C0 hN FU X (lv_sub hl [1, 0] rfl) o0 hf
end
theorem dX5_price_0 : decode bX5_price 0 = .ok (.aload_n 0, 1) := by decide +kernel
theorem dX5_price_1 : decode bX5_price 1 = .ok (.getfield 34, 3) := by decide +kernel
theorem dX5_price_4 : decode bX5_price 4 = .ok (.aload_n 0, 1) := by decide +kernel
theorem dX5_price_5 : decode bX5_price 5 = .ok (.getfield 44, 3) := by decide +kernel
theorem dX5_price_8 : decode bX5_price 8 = .ok (.iaload, 1) := by decide +kernel
theorem dX5_price_9 : decode bX5_price 9 = .ok (.ireturn, 1) := by decide +kernel
section
variable {p : Program} {l : Launch} {e : Env} {s : State} {m : MethodId} {args : Array Value} {below : List Frame} {meth : Method} {c : Code} {G : GG} {n : Nat} {h' : Hp} {rv : Int32}
set_option maxHeartbeats 4000000
set_option maxRecDepth 100000
theorem k_X5_price (l : Launch) (G : GG) (n : Nat) (hN : NX ≤ n) {h h' : Hp} {x0 : Nat} {rv : Int32} (hf : f_X5_price h x0 = some (rv, h')) : CT l G n n yX5_price (.code yX5_price bX5_price 1 (some .int)) 0 0 0 [.ref (bs G + x0)] h h' (some (.int rv)) := by
  refine ct_of (maxL := 1) (ret := (some .int)) (bytes := bX5_price) (by decide) (Nat.le_of_ble_eq_true rfl) (fun p e s m below meth c C0 X ls hl => ?_)
  have hl : lv_has ls 1 [(0, .ref (bs G + x0))] := hl
  obtain ⟨hx, hb, hr, hml, hown, hts, hK, hlocks, hnm⟩ := id C0
  unfold f_X5_price at hf
  obtain ⟨o0, hf⟩ := gd_e hf
  refine lv_aload_n hx hb dX5_price_0 rfl (lv_at hl 0 rfl) ?_
  obtain ⟨g1, hf⟩ := gd_e hf
  refine g_R hx hb hts hown hK X o0 hN g1 fl_X5_34 (by decide) rfl (by decide) dX5_price_1 ?_
  refine lv_aload_n hx hb dX5_price_4 rfl (lv_at hl 0 rfl) ?_
  refine g_I hx hb hts hown hK X o0 hN fl_X5_44 (by decide) rfl dX5_price_5 ?_
  obtain ⟨g2, hf⟩ := gd_e hf
  refine g_ia hx hb hK X g1 hN g2 (by decide) dX5_price_8 ?_
  exact r_I hx hb hr hlocks X hf dX5_price_9
end
theorem dX5_inUse_0 : decode bX5_inUse 0 = .ok (.iload_n 1, 1) := by decide +kernel
theorem dX5_inUse_1 : decode bX5_inUse 1 = .ok (.iconst 1, 1) := by decide +kernel
theorem dX5_inUse_2 : decode bX5_inUse 2 = .ok (.if_icmp .ne 15, 3) := by decide +kernel
theorem dX5_inUse_5 : decode bX5_inUse 5 = .ok (.aload_n 0, 1) := by decide +kernel
theorem dX5_inUse_6 : decode bX5_inUse 6 = .ok (.getfield 25, 3) := by decide +kernel
theorem dX5_inUse_9 : decode bX5_inUse 9 = .ok (.aload_n 0, 1) := by decide +kernel
theorem dX5_inUse_10 : decode bX5_inUse 10 = .ok (.getfield 44, 3) := by decide +kernel
theorem dX5_inUse_13 : decode bX5_inUse 13 = .ok (.iaload, 1) := by decide +kernel
theorem dX5_inUse_14 : decode bX5_inUse 14 = .ok (.goto 29, 3) := by decide +kernel
theorem dX5_inUse_17 : decode bX5_inUse 17 = .ok (.iload_n 1, 1) := by decide +kernel
theorem dX5_inUse_18 : decode bX5_inUse 18 = .ok (.iconst 2, 1) := by decide +kernel
theorem dX5_inUse_19 : decode bX5_inUse 19 = .ok (.if_icmp .ne 15, 3) := by decide +kernel
theorem dX5_inUse_22 : decode bX5_inUse 22 = .ok (.aload_n 0, 1) := by decide +kernel
theorem dX5_inUse_23 : decode bX5_inUse 23 = .ok (.getfield 28, 3) := by decide +kernel
theorem dX5_inUse_26 : decode bX5_inUse 26 = .ok (.aload_n 0, 1) := by decide +kernel
theorem dX5_inUse_27 : decode bX5_inUse 27 = .ok (.getfield 44, 3) := by decide +kernel
theorem dX5_inUse_30 : decode bX5_inUse 30 = .ok (.iaload, 1) := by decide +kernel
theorem dX5_inUse_31 : decode bX5_inUse 31 = .ok (.goto 12, 3) := by decide +kernel
theorem dX5_inUse_34 : decode bX5_inUse 34 = .ok (.aload_n 0, 1) := by decide +kernel
theorem dX5_inUse_35 : decode bX5_inUse 35 = .ok (.getfield 31, 3) := by decide +kernel
theorem dX5_inUse_38 : decode bX5_inUse 38 = .ok (.aload_n 0, 1) := by decide +kernel
theorem dX5_inUse_39 : decode bX5_inUse 39 = .ok (.getfield 44, 3) := by decide +kernel
theorem dX5_inUse_42 : decode bX5_inUse 42 = .ok (.iaload, 1) := by decide +kernel
theorem dX5_inUse_43 : decode bX5_inUse 43 = .ok (.ireturn, 1) := by decide +kernel
section
variable {p : Program} {l : Launch} {e : Env} {s : State} {m : MethodId} {args : Array Value} {below : List Frame} {meth : Method} {c : Code} {G : GG} {n : Nat} {h' : Hp} {rv : Int32}
set_option maxHeartbeats 4000000
set_option maxRecDepth 100000
theorem k_X5_inUse (l : Launch) (G : GG) (n : Nat) (hN : NX ≤ n) {h h' : Hp} {x0 : Nat} {x1 : Int32} {rv : Int32} (hf : f_X5_inUse h x0 x1 = some (rv, h')) : CT l G n n yX5_inUse (.code yX5_inUse bX5_inUse 2 (some .int)) 0 0 0 [.ref (bs G + x0), .int x1] h h' (some (.int rv)) := by
  refine ct_of (maxL := 2) (ret := (some .int)) (bytes := bX5_inUse) (by decide) (Nat.le_of_ble_eq_true rfl) (fun p e s m below meth c C0 X ls hl => ?_)
  have hl : lv_has ls 2 [(0, .ref (bs G + x0)), (1, .int x1)] := hl
  obtain ⟨hx, hb, hr, hml, hown, hts, hK, hlocks, hnm⟩ := id C0
  unfold f_X5_inUse at hf
  obtain ⟨o0, hf⟩ := gd_e hf
  refine lv_iload_n hx hb dX5_inUse_0 rfl (lv_at hl 1 rfl) ?_
  refine lv_iconst (v := (1 : Int32)) hx hb dX5_inUse_1 (by decide) ?_
  refine lv_icmp_ne (tgt := 17) hx hb dX5_inUse_2 (by decide) (fun c2 => ?_) (fun c2 => ?_)
  · have hf := ite_f hf c2
    refine lv_iload_n hx hb dX5_inUse_17 rfl (lv_at hl 1 rfl) ?_
    refine lv_iconst (v := (2 : Int32)) hx hb dX5_inUse_18 (by decide) ?_
    refine lv_icmp_ne (tgt := 34) hx hb dX5_inUse_19 (by decide) (fun c19 => ?_) (fun c19 => ?_)
    · have hf := ite_f hf c19
      refine lv_aload_n hx hb dX5_inUse_34 rfl (lv_at hl 0 rfl) ?_
      obtain ⟨g1, hf⟩ := gd_e hf
      refine g_R hx hb hts hown hK X o0 hN g1 fl_X5_31 (by decide) rfl (by decide) dX5_inUse_35 ?_
      refine lv_aload_n hx hb dX5_inUse_38 rfl (lv_at hl 0 rfl) ?_
      refine g_I hx hb hts hown hK X o0 hN fl_X5_44 (by decide) rfl dX5_inUse_39 ?_
      obtain ⟨g2, hf⟩ := gd_e hf
      refine g_ia hx hb hK X g1 hN g2 (by decide) dX5_inUse_42 ?_
      exact r_I hx hb hr hlocks X hf dX5_inUse_43
    · have hf := ite_t hf c19
      refine lv_aload_n hx hb dX5_inUse_22 rfl (lv_at hl 0 rfl) ?_
      obtain ⟨g3, hf⟩ := gd_e hf
      refine g_R hx hb hts hown hK X o0 hN g3 fl_X5_28 (by decide) rfl (by decide) dX5_inUse_23 ?_
      refine lv_aload_n hx hb dX5_inUse_26 rfl (lv_at hl 0 rfl) ?_
      refine g_I hx hb hts hown hK X o0 hN fl_X5_44 (by decide) rfl dX5_inUse_27 ?_
      obtain ⟨g4, hf⟩ := gd_e hf
      refine g_ia hx hb hK X g3 hN g4 (by decide) dX5_inUse_30 ?_
      refine lv_goto (tgt := 43) hx hb dX5_inUse_31 (by decide) ?_
      exact r_I hx hb hr hlocks X hf dX5_inUse_43
  · have hf := ite_t hf c2
    refine lv_aload_n hx hb dX5_inUse_5 rfl (lv_at hl 0 rfl) ?_
    obtain ⟨g5, hf⟩ := gd_e hf
    refine g_R hx hb hts hown hK X o0 hN g5 fl_X5_25 (by decide) rfl (by decide) dX5_inUse_6 ?_
    refine lv_aload_n hx hb dX5_inUse_9 rfl (lv_at hl 0 rfl) ?_
    refine g_I hx hb hts hown hK X o0 hN fl_X5_44 (by decide) rfl dX5_inUse_10 ?_
    obtain ⟨g6, hf⟩ := gd_e hf
    refine g_ia hx hb hK X g5 hN g6 (by decide) dX5_inUse_13 ?_
    refine lv_goto (tgt := 43) hx hb dX5_inUse_14 (by decide) ?_
    exact r_I hx hb hr hlocks X hf dX5_inUse_43
end
theorem dX6_setFree_0 : decode bX6_setFree 0 = .ok (.aload_n 0, 1) := by decide +kernel
theorem dX6_setFree_1 : decode bX6_setFree 1 = .ok (.iconst 1, 1) := by decide +kernel
theorem dX6_setFree_2 : decode bX6_setFree 2 = .ok (.aload_n 1, 1) := by decide +kernel
theorem dX6_setFree_3 : decode bX6_setFree 3 = .ok (.getfield 56, 3) := by decide +kernel
theorem dX6_setFree_6 : decode bX6_setFree 6 = .ok (.ishl, 1) := by decide +kernel
theorem dX6_setFree_7 : decode bX6_setFree 7 = .ok (.iconst 1, 1) := by decide +kernel
theorem dX6_setFree_8 : decode bX6_setFree 8 = .ok (.isub, 1) := by decide +kernel
theorem dX6_setFree_9 : decode bX6_setFree 9 = .ok (.putfield 22, 3) := by decide +kernel
theorem dX6_setFree_12 : decode bX6_setFree 12 = .ok (.aload_n 0, 1) := by decide +kernel
theorem dX6_setFree_13 : decode bX6_setFree 13 = .ok (.aload_n 1, 1) := by decide +kernel
theorem dX6_setFree_14 : decode bX6_setFree 14 = .ok (.invokevirtual 59, 3) := by decide +kernel
theorem dX6_setFree_17 : decode bX6_setFree 17 = .ok (.putfield 62, 3) := by decide +kernel
theorem dX6_setFree_20 : decode bX6_setFree 20 = .ok (.aload_n 0, 1) := by decide +kernel
theorem dX6_setFree_21 : decode bX6_setFree 21 = .ok (.iconst 0, 1) := by decide +kernel
theorem dX6_setFree_22 : decode bX6_setFree 22 = .ok (.putfield 35, 3) := by decide +kernel
theorem dX6_setFree_25 : decode bX6_setFree 25 = .ok (.aload_n 0, 1) := by decide +kernel
theorem dX6_setFree_26 : decode bX6_setFree 26 = .ok (.aload_n 0, 1) := by decide +kernel
theorem dX6_setFree_27 : decode bX6_setFree 27 = .ok (.getfield 62, 3) := by decide +kernel
theorem dX6_setFree_30 : decode bX6_setFree 30 = .ok (.aload_n 1, 1) := by decide +kernel
theorem dX6_setFree_31 : decode bX6_setFree 31 = .ok (.getfield 64, 3) := by decide +kernel
theorem dX6_setFree_34 : decode bX6_setFree 34 = .ok (.invokestatic 67, 3) := by decide +kernel
theorem dX6_setFree_37 : decode bX6_setFree 37 = .ok (.iconst (-1), 1) := by decide +kernel
theorem dX6_setFree_38 : decode bX6_setFree 38 = .ok (.ixor, 1) := by decide +kernel
theorem dX6_setFree_39 : decode bX6_setFree 39 = .ok (.iand, 1) := by decide +kernel
theorem dX6_setFree_40 : decode bX6_setFree 40 = .ok (.putfield 53, 3) := by decide +kernel
theorem dX6_setFree_43 : decode bX6_setFree 43 = .ok (.aload_n 0, 1) := by decide +kernel
theorem dX6_setFree_44 : decode bX6_setFree 44 = .ok (.aload_n 1, 1) := by decide +kernel
theorem dX6_setFree_45 : decode bX6_setFree 45 = .ok (.getfield 71, 3) := by decide +kernel
theorem dX6_setFree_48 : decode bX6_setFree 48 = .ok (.putfield 74, 3) := by decide +kernel
theorem dX6_setFree_51 : decode bX6_setFree 51 = .ok (.iconst 0, 1) := by decide +kernel
theorem dX6_setFree_52 : decode bX6_setFree 52 = .ok (.istore_n 2, 1) := by decide +kernel
theorem dX6_setFree_53 : decode bX6_setFree 53 = .ok (.iload_n 2, 1) := by decide +kernel
theorem dX6_setFree_54 : decode bX6_setFree 54 = .ok (.bipush 6, 2) := by decide +kernel
theorem dX6_setFree_56 : decode bX6_setFree 56 = .ok (.if_icmp .ge 21, 3) := by decide +kernel
theorem dX6_setFree_59 : decode bX6_setFree 59 = .ok (.aload_n 0, 1) := by decide +kernel
theorem dX6_setFree_60 : decode bX6_setFree 60 = .ok (.getfield 15, 3) := by decide +kernel
theorem dX6_setFree_63 : decode bX6_setFree 63 = .ok (.iload_n 2, 1) := by decide +kernel
theorem dX6_setFree_64 : decode bX6_setFree 64 = .ok (.aload_n 1, 1) := by decide +kernel
theorem dX6_setFree_65 : decode bX6_setFree 65 = .ok (.getfield 64, 3) := by decide +kernel
theorem dX6_setFree_68 : decode bX6_setFree 68 = .ok (.iload_n 2, 1) := by decide +kernel
theorem dX6_setFree_69 : decode bX6_setFree 69 = .ok (.iaload, 1) := by decide +kernel
theorem dX6_setFree_70 : decode bX6_setFree 70 = .ok (.iastore, 1) := by decide +kernel
theorem dX6_setFree_71 : decode bX6_setFree 71 = .ok (.iinc 2 1, 3) := by decide +kernel
theorem dX6_setFree_74 : decode bX6_setFree 74 = .ok (.goto (-21), 3) := by decide +kernel
theorem dX6_setFree_77 : decode bX6_setFree 77 = .ok (.return_, 1) := by decide +kernel
section
variable {p : Program} {l : Launch} {e : Env} {s : State} {m : MethodId} {args : Array Value} {below : List Frame} {meth : Method} {c : Code} {G : GG} {n : Nat} {h' : Hp} {rv : Unit}
set_option maxHeartbeats 4000000
set_option maxRecDepth 100000
theorem j_X6_setFree_53 (C0 : Cx p s m args meth c G bX6_setFree RX6 3 none "setFree") (hN : NX ≤ n) : ∀ (fu : Nat), ∀ {H : Heap} {locs : List Loc} {ls : Array Slot} {h : Hp} {x0 : Nat} {x1 : Nat} {x2 : Int32}, XW G n h s 0 H locs → lv_has ls 3 [(0, .ref (bs G + x0)), (1, .ref (bs G + x1)), (2, .int x2)] → kd x0 = 6 → kd x1 = 4 → f_X6_setFree_53 fu h x0 x1 x2 = some (rv, h') → W p l e (rmC 1 0 0) s m args below meth c H locs 0 0 (MQ below (QP G n h' none) args s 0 0 (Ab G)) (F0 m 53 ls []) := by
  obtain ⟨hx, hb, hr, hml, hown, hts, hK, hlocks, hnm⟩ := id C0
  intro fu
  induction fu with
  | zero => intro H locs ls h x0 x1 x2 X hl o0 o1 hf; cases hf
  | succ fu ih =>
    intro H locs ls h x0 x1 x2 X hl o0 o1 hf
    rw [f_X6_setFree_53] at hf
    refine lv_iload_n hx hb dX6_setFree_53 rfl (lv_at hl 2 rfl) ?_
    refine lv_bipush (v := (6 : Int32)) hx hb dX6_setFree_54 (by decide) ?_
    refine lv_icmp_ge (tgt := 77) hx hb dX6_setFree_56 (by decide) (fun c56 => ?_) (fun c56 => ?_)
    · have hf := ite_t hf c56
      exact r_V hx hb hr hlocks X hf dX6_setFree_77
    · have hf := ite_f hf c56
      refine lv_aload_n hx hb dX6_setFree_59 rfl (lv_at hl 0 rfl) ?_
      obtain ⟨g1, hf⟩ := gd_e hf
      refine g_R hx hb hts hown hK X o0 hN g1 fl_X6_15 (by decide) rfl (by decide) dX6_setFree_60 ?_
      refine lv_iload_n hx hb dX6_setFree_63 rfl (lv_at hl 2 rfl) ?_
      refine lv_aload_n hx hb dX6_setFree_64 rfl (lv_at hl 1 rfl) ?_
      obtain ⟨g2, hf⟩ := gd_e hf
      refine g_R hx hb hts hown hK X o1 hN g2 fl_X6_64 (by decide) rfl (by decide) dX6_setFree_65 ?_
      refine lv_iload_n hx hb dX6_setFree_68 rfl (lv_at hl 2 rfl) ?_
      obtain ⟨g3, hf⟩ := gd_e hf
      refine g_ia hx hb hK X g2 hN g3 (by decide) dX6_setFree_69 ?_
      obtain ⟨g4, hf⟩ := gd_e hf
      refine g_is hx hb hK X g1 hN g4 (by decide) dX6_setFree_70 (fun H locs X => ?_)
      obtain ⟨h5, e6, hf⟩ := lt_e hf
      rw [← e6] at X
      refine lv_iinc (v := (x2 + (1 : Int32))) (lv' := [(2, .int (x2 + (1 : Int32))), (0, .ref (bs G + x0)), (1, .ref (bs G + x1))]) hx hb dX6_setFree_71 hl (k := 2) rfl rfl (by decide) rfl (fun ls hl => ?_)
      refine lv_goto (tgt := 53) hx hb dX6_setFree_74 (by decide) ?_
      exact ih X (lv_sub hl [1, 2, 0] rfl) o0 o1 hf
theorem k_X6_setFree (l : Launch) (G : GG) (n : Nat) (hN : NX ≤ n) {h h' : Hp} {x0 : Nat} {x1 : Nat} {rv : Unit} (hf : f_X6_setFree h x0 x1 = some (rv, h')) : CT l G n n yX6_setFree (.code yX6_setFree bX6_setFree 3 none) 1 0 0 [.ref (bs G + x0), .ref (bs G + x1)] h h' none := by
  refine ct_of (maxL := 3) (ret := none) (bytes := bX6_setFree) (by decide) (Nat.le_of_ble_eq_true rfl) (fun p e s m below meth c C0 X ls hl => ?_)
  have hl : lv_has ls 3 [(0, .ref (bs G + x0)), (1, .ref (bs G + x1))] := hl
  obtain ⟨hx, hb, hr, hml, hown, hts, hK, hlocks, hnm⟩ := id C0
  unfold f_X6_setFree at hf
  obtain ⟨o0, hf⟩ := gd_e hf
  obtain ⟨o1, hf⟩ := gd_e hf
  refine lv_aload_n hx hb dX6_setFree_0 rfl (lv_at hl 0 rfl) ?_
  refine lv_iconst (v := (1 : Int32)) hx hb dX6_setFree_1 (by decide) ?_
  refine lv_aload_n hx hb dX6_setFree_2 rfl (lv_at hl 1 rfl) ?_
  refine g_I hx hb hts hown hK X o1 hN fl_X6_56 (by decide) rfl dX6_setFree_3 ?_
  refine lv_ishl hx hb dX6_setFree_6 ?_
  refine lv_iconst (v := (1 : Int32)) hx hb dX6_setFree_7 (by decide) ?_
  refine lv_isub hx hb dX6_setFree_8 ?_
  refine g_PI hx hb hts hown hK X o0 hN fl_X6_22 ft_6_0 (by decide) rfl dX6_setFree_9 (fun H locs X => ?_)
  obtain ⟨h1, e2, hf⟩ := lt_e hf
  rw [← e2] at X
  refine lv_aload_n hx hb dX6_setFree_12 rfl (lv_at hl 0 rfl) ?_
  refine lv_aload_n hx hb dX6_setFree_13 rfl (lv_at hl 1 rfl) ?_
  obtain ⟨r3, h4, q5, hf⟩ := bd_e hf
  refine c_V0 (As := []) (rest := [.ref (bs G + x0)]) (st1 := [.int r3, .ref (bs G + x0)]) hx hb hml hown hts hK X (k_X4_all l G n hN q5) o1 hN lc_X4_all lv_X6_59 (ci := 4) rfl rfl (by decide) rfl hl.1 (Nat.le_of_ble_eq_true rfl) dX6_setFree_14 rfl (fun H locs X => ?_)
  refine g_PI hx hb hts hown hK X o0 hN fl_X6_62 ft_6_1 (by decide) rfl dX6_setFree_17 (fun H locs X => ?_)
  obtain ⟨h6, e7, hf⟩ := lt_e hf
  rw [← e7] at X
  refine lv_aload_n hx hb dX6_setFree_20 rfl (lv_at hl 0 rfl) ?_
  refine lv_iconst (v := (0 : Int32)) hx hb dX6_setFree_21 (by decide) ?_
  refine g_PI hx hb hts hown hK X o0 hN fl_X6_35 ft_6_2 (by decide) rfl dX6_setFree_22 (fun H locs X => ?_)
  obtain ⟨h8, e9, hf⟩ := lt_e hf
  rw [← e9] at X
  refine lv_aload_n hx hb dX6_setFree_25 rfl (lv_at hl 0 rfl) ?_
  refine lv_aload_n hx hb dX6_setFree_26 rfl (lv_at hl 0 rfl) ?_
  refine g_I hx hb hts hown hK X o0 hN fl_X6_62 (by decide) rfl dX6_setFree_27 ?_
  refine lv_aload_n hx hb dX6_setFree_30 rfl (lv_at hl 1 rfl) ?_
  obtain ⟨g10, hf⟩ := gd_e hf
  refine g_R hx hb hts hown hK X o1 hN g10 fl_X6_64 (by decide) rfl (by decide) dX6_setFree_31 ?_
  obtain ⟨r11, h12, q13, hf⟩ := bd_e hf
  refine c_SN0 (As := [.ref (bs G + (h8.2 x1 6))]) (rest := [.int (h8.1 x0 1), .ref (bs G + x0)]) (st1 := [.int r11, .int (h8.1 x0 1), .ref (bs G + x0)]) hx hb hml hown hts hK X (k_X11_together l G n hN q13) lc_X11_together ls_X6_67 (by decide) rfl hl.1 (Nat.le_of_ble_eq_true rfl) dX6_setFree_34 rfl (fun H locs X => ?_)
  refine lv_iconst (v := (-1 : Int32)) hx hb dX6_setFree_37 (by decide) ?_
  refine lv_ixor hx hb dX6_setFree_38 ?_
  refine lv_iand hx hb dX6_setFree_39 ?_
  refine g_PI hx hb hts hown hK X o0 hN fl_X6_53 ft_6_3 (by decide) rfl dX6_setFree_40 (fun H locs X => ?_)
  obtain ⟨h14, e15, hf⟩ := lt_e hf
  rw [← e15] at X
  refine lv_aload_n hx hb dX6_setFree_43 rfl (lv_at hl 0 rfl) ?_
  refine lv_aload_n hx hb dX6_setFree_44 rfl (lv_at hl 1 rfl) ?_
  refine g_I hx hb hts hown hK X o1 hN fl_X6_71 (by decide) rfl dX6_setFree_45 ?_
  refine g_PI hx hb hts hown hK X o0 hN fl_X6_74 ft_6_4 (by decide) rfl dX6_setFree_48 (fun H locs X => ?_)
  obtain ⟨h16, e17, hf⟩ := lt_e hf
  rw [← e17] at X
  refine lv_iconst (v := (0 : Int32)) hx hb dX6_setFree_51 (by decide) ?_
  refine lv_istore_n (lv' := [(2, .int (0 : Int32)), (0, .ref (bs G + x0)), (1, .ref (bs G + x1))]) hx hb dX6_setFree_52 rfl hl (by decide) rfl (fun ls hl => ?_)
  exact j_X6_setFree_53 C0 hN FU X (lv_sub hl [1, 2, 0] rfl) o0 o1 hf
end
theorem dX6_setNow_0 : decode bX6_setNow 0 = .ok (.aload_n 0, 1) := by decide +kernel
theorem dX6_setNow_1 : decode bX6_setNow 1 = .ok (.aload_n 1, 1) := by decide +kernel
theorem dX6_setNow_2 : decode bX6_setNow 2 = .ok (.invokevirtual 18, 3) := by decide +kernel
theorem dX6_setNow_5 : decode bX6_setNow 5 = .ok (.aload_n 0, 1) := by decide +kernel
theorem dX6_setNow_6 : decode bX6_setNow 6 = .ok (.dup, 1) := by decide +kernel
theorem dX6_setNow_7 : decode bX6_setNow 7 = .ok (.getfield 22, 3) := by decide +kernel
theorem dX6_setNow_10 : decode bX6_setNow 10 = .ok (.aload_n 2, 1) := by decide +kernel
theorem dX6_setNow_11 : decode bX6_setNow 11 = .ok (.getfield 26, 3) := by decide +kernel
theorem dX6_setNow_14 : decode bX6_setNow 14 = .ok (.iconst (-1), 1) := by decide +kernel
theorem dX6_setNow_15 : decode bX6_setNow 15 = .ok (.ixor, 1) := by decide +kernel
theorem dX6_setNow_16 : decode bX6_setNow 16 = .ok (.iand, 1) := by decide +kernel
theorem dX6_setNow_17 : decode bX6_setNow 17 = .ok (.putfield 22, 3) := by decide +kernel
theorem dX6_setNow_20 : decode bX6_setNow 20 = .ok (.aload_n 0, 1) := by decide +kernel
theorem dX6_setNow_21 : decode bX6_setNow 21 = .ok (.aload_n 2, 1) := by decide +kernel
theorem dX6_setNow_22 : decode bX6_setNow 22 = .ok (.invokevirtual 31, 3) := by decide +kernel
theorem dX6_setNow_25 : decode bX6_setNow 25 = .ok (.putfield 35, 3) := by decide +kernel
theorem dX6_setNow_28 : decode bX6_setNow 28 = .ok (.iconst 0, 1) := by decide +kernel
theorem dX6_setNow_29 : decode bX6_setNow 29 = .ok (.istore_n 3, 1) := by decide +kernel
theorem dX6_setNow_30 : decode bX6_setNow 30 = .ok (.iload_n 3, 1) := by decide +kernel
theorem dX6_setNow_31 : decode bX6_setNow 31 = .ok (.bipush 6, 2) := by decide +kernel
theorem dX6_setNow_33 : decode bX6_setNow 33 = .ok (.if_icmp .ge 36, 3) := by decide +kernel
theorem dX6_setNow_36 : decode bX6_setNow 36 = .ok (.aload_n 0, 1) := by decide +kernel
theorem dX6_setNow_37 : decode bX6_setNow 37 = .ok (.getfield 15, 3) := by decide +kernel
theorem dX6_setNow_40 : decode bX6_setNow 40 = .ok (.iload_n 3, 1) := by decide +kernel
theorem dX6_setNow_41 : decode bX6_setNow 41 = .ok (.dup2, 1) := by decide +kernel
theorem dX6_setNow_42 : decode bX6_setNow 42 = .ok (.iaload, 1) := by decide +kernel
theorem dX6_setNow_43 : decode bX6_setNow 43 = .ok (.aload_n 2, 1) := by decide +kernel
theorem dX6_setNow_44 : decode bX6_setNow 44 = .ok (.getfield 37, 3) := by decide +kernel
theorem dX6_setNow_47 : decode bX6_setNow 47 = .ok (.iload_n 3, 1) := by decide +kernel
theorem dX6_setNow_48 : decode bX6_setNow 48 = .ok (.iaload, 1) := by decide +kernel
theorem dX6_setNow_49 : decode bX6_setNow 49 = .ok (.ior, 1) := by decide +kernel
theorem dX6_setNow_50 : decode bX6_setNow 50 = .ok (.iastore, 1) := by decide +kernel
theorem dX6_setNow_51 : decode bX6_setNow 51 = .ok (.aload_n 0, 1) := by decide +kernel
theorem dX6_setNow_52 : decode bX6_setNow 52 = .ok (.getfield 9, 3) := by decide +kernel
theorem dX6_setNow_55 : decode bX6_setNow 55 = .ok (.iload_n 3, 1) := by decide +kernel
theorem dX6_setNow_56 : decode bX6_setNow 56 = .ok (.aload_n 1, 1) := by decide +kernel
theorem dX6_setNow_57 : decode bX6_setNow 57 = .ok (.getfield 40, 3) := by decide +kernel
theorem dX6_setNow_60 : decode bX6_setNow 60 = .ok (.iload_n 3, 1) := by decide +kernel
theorem dX6_setNow_61 : decode bX6_setNow 61 = .ok (.iaload, 1) := by decide +kernel
theorem dX6_setNow_62 : decode bX6_setNow 62 = .ok (.iastore, 1) := by decide +kernel
theorem dX6_setNow_63 : decode bX6_setNow 63 = .ok (.iinc 3 1, 3) := by decide +kernel
theorem dX6_setNow_66 : decode bX6_setNow 66 = .ok (.goto (-36), 3) := by decide +kernel
theorem dX6_setNow_69 : decode bX6_setNow 69 = .ok (.return_, 1) := by decide +kernel
section
variable {p : Program} {l : Launch} {e : Env} {s : State} {m : MethodId} {args : Array Value} {below : List Frame} {meth : Method} {c : Code} {G : GG} {n : Nat} {h' : Hp} {rv : Unit}
set_option maxHeartbeats 4000000
set_option maxRecDepth 100000
theorem j_X6_setNow_30 (C0 : Cx p s m args meth c G bX6_setNow RX6 4 none "setNow") (hN : NX ≤ n) : ∀ (fu : Nat), ∀ {H : Heap} {locs : List Loc} {ls : Array Slot} {h : Hp} {x0 : Nat} {x1 : Nat} {x2 : Nat} {x3 : Int32}, XW G n h s 0 H locs → lv_has ls 4 [(0, .ref (bs G + x0)), (1, .ref (bs G + x1)), (2, .ref (bs G + x2)), (3, .int x3)] → kd x0 = 6 → kd x1 = 4 → kd x2 = 2 → f_X6_setNow_30 fu h x0 x1 x2 x3 = some (rv, h') → W p l e (rmC 2 0 0) s m args below meth c H locs 0 0 (MQ below (QP G n h' none) args s 0 0 (Ab G)) (F0 m 30 ls []) := by
  obtain ⟨hx, hb, hr, hml, hown, hts, hK, hlocks, hnm⟩ := id C0
  intro fu
  induction fu with
  | zero => intro H locs ls h x0 x1 x2 x3 X hl o0 o1 o2 hf; cases hf
  | succ fu ih =>
    intro H locs ls h x0 x1 x2 x3 X hl o0 o1 o2 hf
    rw [f_X6_setNow_30] at hf
    refine lv_iload_n hx hb dX6_setNow_30 rfl (lv_at hl 3 rfl) ?_
    refine lv_bipush (v := (6 : Int32)) hx hb dX6_setNow_31 (by decide) ?_
    refine lv_icmp_ge (tgt := 69) hx hb dX6_setNow_33 (by decide) (fun c33 => ?_) (fun c33 => ?_)
    · have hf := ite_t hf c33
      exact r_V hx hb hr hlocks X hf dX6_setNow_69
    · have hf := ite_f hf c33
      refine lv_aload_n hx hb dX6_setNow_36 rfl (lv_at hl 0 rfl) ?_
      obtain ⟨g1, hf⟩ := gd_e hf
      refine g_R hx hb hts hown hK X o0 hN g1 fl_X6_15 (by decide) rfl (by decide) dX6_setNow_37 ?_
      refine lv_iload_n hx hb dX6_setNow_40 rfl (lv_at hl 3 rfl) ?_
      refine lv_dup2_11 hx hb dX6_setNow_41 rfl rfl ?_
      obtain ⟨g2, hf⟩ := gd_e hf
      refine g_ia hx hb hK X g1 hN g2 (by decide) dX6_setNow_42 ?_
      refine lv_aload_n hx hb dX6_setNow_43 rfl (lv_at hl 2 rfl) ?_
      obtain ⟨g3, hf⟩ := gd_e hf
      refine g_R hx hb hts hown hK X o2 hN g3 fl_X6_37 (by decide) rfl (by decide) dX6_setNow_44 ?_
      refine lv_iload_n hx hb dX6_setNow_47 rfl (lv_at hl 3 rfl) ?_
      obtain ⟨g4, hf⟩ := gd_e hf
      refine g_ia hx hb hK X g3 hN g4 (by decide) dX6_setNow_48 ?_
      refine lv_ior hx hb dX6_setNow_49 ?_
      obtain ⟨g5, hf⟩ := gd_e hf
      refine g_is hx hb hK X g1 hN g5 (by decide) dX6_setNow_50 (fun H locs X => ?_)
      obtain ⟨h6, e7, hf⟩ := lt_e hf
      rw [← e7] at X
      refine lv_aload_n hx hb dX6_setNow_51 rfl (lv_at hl 0 rfl) ?_
      obtain ⟨g8, hf⟩ := gd_e hf
      refine g_R hx hb hts hown hK X o0 hN g8 fl_X6_9 (by decide) rfl (by decide) dX6_setNow_52 ?_
      refine lv_iload_n hx hb dX6_setNow_55 rfl (lv_at hl 3 rfl) ?_
      refine lv_aload_n hx hb dX6_setNow_56 rfl (lv_at hl 1 rfl) ?_
      obtain ⟨g9, hf⟩ := gd_e hf
      refine g_R hx hb hts hown hK X o1 hN g9 fl_X6_40 (by decide) rfl (by decide) dX6_setNow_57 ?_
      refine lv_iload_n hx hb dX6_setNow_60 rfl (lv_at hl 3 rfl) ?_
      obtain ⟨g10, hf⟩ := gd_e hf
      refine g_ia hx hb hK X g9 hN g10 (by decide) dX6_setNow_61 ?_
      obtain ⟨g11, hf⟩ := gd_e hf
      refine g_is hx hb hK X g8 hN g11 (by decide) dX6_setNow_62 (fun H locs X => ?_)
      obtain ⟨h12, e13, hf⟩ := lt_e hf
      rw [← e13] at X
      refine lv_iinc (v := (x3 + (1 : Int32))) (lv' := [(3, .int (x3 + (1 : Int32))), (0, .ref (bs G + x0)), (1, .ref (bs G + x1)), (2, .ref (bs G + x2))]) hx hb dX6_setNow_63 hl (k := 3) rfl rfl (by decide) rfl (fun ls hl => ?_)
      refine lv_goto (tgt := 30) hx hb dX6_setNow_66 (by decide) ?_
      exact ih X (lv_sub hl [1, 2, 3, 0] rfl) o0 o1 o2 hf
theorem k_X6_setNow (l : Launch) (G : GG) (n : Nat) (hN : NX ≤ n) {h h' : Hp} {x0 : Nat} {x1 : Nat} {x2 : Nat} {rv : Unit} (hf : f_X6_setNow h x0 x1 x2 = some (rv, h')) : CT l G n n yX6_setNow (.code yX6_setNow bX6_setNow 4 none) 2 0 0 [.ref (bs G + x0), .ref (bs G + x1), .ref (bs G + x2)] h h' none := by
  refine ct_of (maxL := 4) (ret := none) (bytes := bX6_setNow) (by decide) (Nat.le_of_ble_eq_true rfl) (fun p e s m below meth c C0 X ls hl => ?_)
  have hl : lv_has ls 4 [(0, .ref (bs G + x0)), (1, .ref (bs G + x1)), (2, .ref (bs G + x2))] := hl
  obtain ⟨hx, hb, hr, hml, hown, hts, hK, hlocks, hnm⟩ := id C0
  unfold f_X6_setNow at hf
  obtain ⟨o0, hf⟩ := gd_e hf
  obtain ⟨o1, hf⟩ := gd_e hf
  obtain ⟨o2, hf⟩ := gd_e hf
  refine lv_aload_n hx hb dX6_setNow_0 rfl (lv_at hl 0 rfl) ?_
  refine lv_aload_n hx hb dX6_setNow_1 rfl (lv_at hl 1 rfl) ?_
  obtain ⟨r1, h2, q3, hf⟩ := bd_e hf
  refine c_V0 (As := [.ref (bs G + x1)]) (rest := []) (st1 := []) hx hb hml hown hts hK X (k_X6_setFree l G n hN q3) o0 hN lc_X6_setFree lv_X6_18 (ci := 6) rfl rfl (by decide) rfl hl.1 (Nat.le_of_ble_eq_true rfl) dX6_setNow_2 rfl (fun H locs X => ?_)
  refine lv_aload_n hx hb dX6_setNow_5 rfl (lv_at hl 0 rfl) ?_
  refine lv_dup hx hb dX6_setNow_6 rfl ?_
  refine g_I hx hb hts hown hK X o0 hN fl_X6_22 (by decide) rfl dX6_setNow_7 ?_
  refine lv_aload_n hx hb dX6_setNow_10 rfl (lv_at hl 2 rfl) ?_
  refine g_I hx hb hts hown hK X o2 hN fl_X6_26 (by decide) rfl dX6_setNow_11 ?_
  refine lv_iconst (v := (-1 : Int32)) hx hb dX6_setNow_14 (by decide) ?_
  refine lv_ixor hx hb dX6_setNow_15 ?_
  refine lv_iand hx hb dX6_setNow_16 ?_
  refine g_PI hx hb hts hown hK X o0 hN fl_X6_22 ft_6_0 (by decide) rfl dX6_setNow_17 (fun H locs X => ?_)
  obtain ⟨h4, e5, hf⟩ := lt_e hf
  rw [← e5] at X
  refine lv_aload_n hx hb dX6_setNow_20 rfl (lv_at hl 0 rfl) ?_
  refine lv_aload_n hx hb dX6_setNow_21 rfl (lv_at hl 2 rfl) ?_
  obtain ⟨r6, h7, q8, hf⟩ := bd_e hf
  refine c_V0 (As := []) (rest := [.ref (bs G + x0)]) (st1 := [.int r6, .ref (bs G + x0)]) hx hb hml hown hts hK X (k_X2_taken l G n hN q8) o2 hN lc_X2_taken lv_X6_31 (ci := 2) rfl rfl (by decide) rfl hl.1 (Nat.le_of_ble_eq_true rfl) dX6_setNow_22 rfl (fun H locs X => ?_)
  refine g_PI hx hb hts hown hK X o0 hN fl_X6_35 ft_6_2 (by decide) rfl dX6_setNow_25 (fun H locs X => ?_)
  obtain ⟨h9, e10, hf⟩ := lt_e hf
  rw [← e10] at X
  refine lv_iconst (v := (0 : Int32)) hx hb dX6_setNow_28 (by decide) ?_
  refine lv_istore_n (lv' := [(3, .int (0 : Int32)), (0, .ref (bs G + x0)), (1, .ref (bs G + x1)), (2, .ref (bs G + x2))]) hx hb dX6_setNow_29 rfl hl (by decide) rfl (fun ls hl => ?_)
  exact j_X6_setNow_30 C0 hN FU X (lv_sub hl [1, 2, 3, 0] rfl) o0 o1 o2 hf
end
theorem dX6_setDrawn_0 : decode bX6_setDrawn 0 = .ok (.aload_n 0, 1) := by decide +kernel
theorem dX6_setDrawn_1 : decode bX6_setDrawn 1 = .ok (.aload_n 1, 1) := by decide +kernel
theorem dX6_setDrawn_2 : decode bX6_setDrawn 2 = .ok (.invokevirtual 18, 3) := by decide +kernel
theorem dX6_setDrawn_5 : decode bX6_setDrawn 5 = .ok (.iconst 0, 1) := by decide +kernel
theorem dX6_setDrawn_6 : decode bX6_setDrawn 6 = .ok (.istore 4, 2) := by decide +kernel
theorem dX6_setDrawn_8 : decode bX6_setDrawn 8 = .ok (.iload 4, 2) := by decide +kernel
theorem dX6_setDrawn_10 : decode bX6_setDrawn 10 = .ok (.bipush 6, 2) := by decide +kernel
theorem dX6_setDrawn_12 : decode bX6_setDrawn 12 = .ok (.if_icmp .ge 57, 3) := by decide +kernel
theorem dX6_setDrawn_15 : decode bX6_setDrawn 15 = .ok (.ldc2_w 43, 3) := by decide +kernel
theorem dX6_setDrawn_18 : decode bX6_setDrawn 18 = .ok (.iload_n 2, 1) := by decide +kernel
theorem dX6_setDrawn_19 : decode bX6_setDrawn 19 = .ok (.i2l, 1) := by decide +kernel
theorem dX6_setDrawn_20 : decode bX6_setDrawn 20 = .ok (.lmul, 1) := by decide +kernel
theorem dX6_setDrawn_21 : decode bX6_setDrawn 21 = .ok (.ldc2_w 45, 3) := by decide +kernel
theorem dX6_setDrawn_24 : decode bX6_setDrawn 24 = .ok (.iload_n 3, 1) := by decide +kernel
theorem dX6_setDrawn_25 : decode bX6_setDrawn 25 = .ok (.i2l, 1) := by decide +kernel
theorem dX6_setDrawn_26 : decode bX6_setDrawn 26 = .ok (.lmul, 1) := by decide +kernel
theorem dX6_setDrawn_27 : decode bX6_setDrawn 27 = .ok (.ladd, 1) := by decide +kernel
theorem dX6_setDrawn_28 : decode bX6_setDrawn 28 = .ok (.ldc2_w 47, 3) := by decide +kernel
theorem dX6_setDrawn_31 : decode bX6_setDrawn 31 = .ok (.iload 4, 2) := by decide +kernel
theorem dX6_setDrawn_33 : decode bX6_setDrawn 33 = .ok (.i2l, 1) := by decide +kernel
theorem dX6_setDrawn_34 : decode bX6_setDrawn 34 = .ok (.lmul, 1) := by decide +kernel
theorem dX6_setDrawn_35 : decode bX6_setDrawn 35 = .ok (.ladd, 1) := by decide +kernel
theorem dX6_setDrawn_36 : decode bX6_setDrawn 36 = .ok (.lconst 1, 1) := by decide +kernel
theorem dX6_setDrawn_37 : decode bX6_setDrawn 37 = .ok (.ladd, 1) := by decide +kernel
theorem dX6_setDrawn_38 : decode bX6_setDrawn 38 = .ok (.lstore 5, 2) := by decide +kernel
theorem dX6_setDrawn_40 : decode bX6_setDrawn 40 = .ok (.aload_n 0, 1) := by decide +kernel
theorem dX6_setDrawn_41 : decode bX6_setDrawn 41 = .ok (.getfield 9, 3) := by decide +kernel
theorem dX6_setDrawn_44 : decode bX6_setDrawn 44 = .ok (.iload 4, 2) := by decide +kernel
theorem dX6_setDrawn_46 : decode bX6_setDrawn 46 = .ok (.lload 5, 2) := by decide +kernel
theorem dX6_setDrawn_48 : decode bX6_setDrawn 48 = .ok (.lload 5, 2) := by decide +kernel
theorem dX6_setDrawn_50 : decode bX6_setDrawn 50 = .ok (.lmul, 1) := by decide +kernel
theorem dX6_setDrawn_51 : decode bX6_setDrawn 51 = .ok (.ldc2_w 49, 3) := by decide +kernel
theorem dX6_setDrawn_54 : decode bX6_setDrawn 54 = .ok (.lrem, 1) := by decide +kernel
theorem dX6_setDrawn_55 : decode bX6_setDrawn 55 = .ok (.ldc2_w 51, 3) := by decide +kernel
theorem dX6_setDrawn_58 : decode bX6_setDrawn 58 = .ok (.lrem, 1) := by decide +kernel
theorem dX6_setDrawn_59 : decode bX6_setDrawn 59 = .ok (.l2i, 1) := by decide +kernel
theorem dX6_setDrawn_60 : decode bX6_setDrawn 60 = .ok (.iconst 1, 1) := by decide +kernel
theorem dX6_setDrawn_61 : decode bX6_setDrawn 61 = .ok (.iadd, 1) := by decide +kernel
theorem dX6_setDrawn_62 : decode bX6_setDrawn 62 = .ok (.iastore, 1) := by decide +kernel
theorem dX6_setDrawn_63 : decode bX6_setDrawn 63 = .ok (.iinc 4 1, 3) := by decide +kernel
theorem dX6_setDrawn_66 : decode bX6_setDrawn 66 = .ok (.goto (-58), 3) := by decide +kernel
theorem dX6_setDrawn_69 : decode bX6_setDrawn 69 = .ok (.return_, 1) := by decide +kernel
section
variable {p : Program} {l : Launch} {e : Env} {s : State} {m : MethodId} {args : Array Value} {below : List Frame} {meth : Method} {c : Code} {G : GG} {n : Nat} {h' : Hp} {rv : Unit}
set_option maxHeartbeats 4000000
set_option maxRecDepth 100000
theorem j_X6_setDrawn_8 (C0 : Cx p s m args meth c G bX6_setDrawn RX6 7 none "setDrawn") (hN : NX ≤ n) : ∀ (fu : Nat), ∀ {H : Heap} {locs : List Loc} {ls : Array Slot} {h : Hp} {x0 : Nat} {x2 : Int32} {x3 : Int32} {x4 : Int32}, XW G n h s 0 H locs → lv_has ls 7 [(0, .ref (bs G + x0)), (2, .int x2), (3, .int x3), (4, .int x4)] → kd x0 = 6 → f_X6_setDrawn_8 fu h x0 x2 x3 x4 = some (rv, h') → W p l e (rmC 2 0 0) s m args below meth c H locs 0 0 (MQ below (QP G n h' none) args s 0 0 (Ab G)) (F0 m 8 ls []) := by
  obtain ⟨hx, hb, hr, hml, hown, hts, hK, hlocks, hnm⟩ := id C0
  intro fu
  induction fu with
  | zero => intro H locs ls h x0 x2 x3 x4 X hl o0 hf; cases hf
  | succ fu ih =>
    intro H locs ls h x0 x2 x3 x4 X hl o0 hf
    rw [f_X6_setDrawn_8] at hf
    refine lv_iload hx hb dX6_setDrawn_8 (lv_at hl 3 rfl) ?_
    refine lv_bipush (v := (6 : Int32)) hx hb dX6_setDrawn_10 (by decide) ?_
    refine lv_icmp_ge (tgt := 69) hx hb dX6_setDrawn_12 (by decide) (fun c12 => ?_) (fun c12 => ?_)
    · have hf := ite_t hf c12
      exact r_V hx hb hr hlocks X hf dX6_setDrawn_69
    · have hf := ite_f hf c12
      refine lv_ldc2 hx hb hown (hts _ cn_X6_43) dX6_setDrawn_15 ?_
      refine lv_iload_n hx hb dX6_setDrawn_18 rfl (lv_at hl 1 rfl) ?_
      refine lv_i2l hx hb dX6_setDrawn_19 rfl ?_
      refine lv_lmul hx hb dX6_setDrawn_20 ?_
      refine lv_ldc2 hx hb hown (hts _ cn_X6_45) dX6_setDrawn_21 ?_
      refine lv_iload_n hx hb dX6_setDrawn_24 rfl (lv_at hl 2 rfl) ?_
      refine lv_i2l hx hb dX6_setDrawn_25 rfl ?_
      refine lv_lmul hx hb dX6_setDrawn_26 ?_
      refine lv_ladd hx hb dX6_setDrawn_27 ?_
      refine lv_ldc2 hx hb hown (hts _ cn_X6_47) dX6_setDrawn_28 ?_
      refine lv_iload hx hb dX6_setDrawn_31 (lv_at hl 3 rfl) ?_
      refine lv_i2l hx hb dX6_setDrawn_33 rfl ?_
      refine lv_lmul hx hb dX6_setDrawn_34 ?_
      refine lv_ladd hx hb dX6_setDrawn_35 ?_
      refine lv_lconst (v := 1) hx hb dX6_setDrawn_36 (by decide) ?_
      refine lv_ladd hx hb dX6_setDrawn_37 ?_
      refine lv_lstore (lv' := [(5, .long (((((7919 : Int64) * x2.toInt64) + ((6151 : Int64) * x3.toInt64)) + ((101 : Int64) * x4.toInt64)) + (1 : Int64))), (0, .ref (bs G + x0)), (2, .int x2), (3, .int x3), (4, .int x4)]) hx hb dX6_setDrawn_38 hl (by decide) rfl (fun ls hl => ?_)
      refine lv_aload_n hx hb dX6_setDrawn_40 rfl (lv_at hl 1 rfl) ?_
      obtain ⟨g1, hf⟩ := gd_e hf
      refine g_R hx hb hts hown hK X o0 hN g1 fl_X6_9 (by decide) rfl (by decide) dX6_setDrawn_41 ?_
      refine lv_iload hx hb dX6_setDrawn_44 (lv_at hl 4 rfl) ?_
      refine lv_lload hx hb dX6_setDrawn_46 (lv_at hl 0 rfl) ?_
      refine lv_lload hx hb dX6_setDrawn_48 (lv_at hl 0 rfl) ?_
      refine lv_lmul hx hb dX6_setDrawn_50 ?_
      refine lv_ldc2 hx hb hown (hts _ cn_X6_49) dX6_setDrawn_51 ?_
      refine lv_lrem hx hb dX6_setDrawn_54 (by decide) ?_
      refine lv_ldc2 hx hb hown (hts _ cn_X6_51) dX6_setDrawn_55 ?_
      refine lv_lrem hx hb dX6_setDrawn_58 (by decide) ?_
      refine lv_l2i hx hb dX6_setDrawn_59 rfl ?_
      refine lv_iconst (v := (1 : Int32)) hx hb dX6_setDrawn_60 (by decide) ?_
      refine lv_iadd hx hb dX6_setDrawn_61 ?_
      obtain ⟨g2, hf⟩ := gd_e hf
      refine g_is hx hb hK X g1 hN g2 (by decide) dX6_setDrawn_62 (fun H locs X => ?_)
      obtain ⟨h3, e4, hf⟩ := lt_e hf
      rw [← e4] at X
      refine lv_iinc (v := (x4 + (1 : Int32))) (lv' := [(4, .int (x4 + (1 : Int32))), (5, .long (((((7919 : Int64) * x2.toInt64) + ((6151 : Int64) * x3.toInt64)) + ((101 : Int64) * x4.toInt64)) + (1 : Int64))), (0, .ref (bs G + x0)), (2, .int x2), (3, .int x3)]) hx hb dX6_setDrawn_63 hl (k := 4) rfl rfl (by decide) rfl (fun ls hl => ?_)
      refine lv_goto (tgt := 8) hx hb dX6_setDrawn_66 (by decide) ?_
      exact ih X (lv_sub hl [2, 3, 4, 0] rfl) o0 hf
theorem k_X6_setDrawn (l : Launch) (G : GG) (n : Nat) (hN : NX ≤ n) {h h' : Hp} {x0 : Nat} {x1 : Nat} {x2 : Int32} {x3 : Int32} {rv : Unit} (hf : f_X6_setDrawn h x0 x1 x2 x3 = some (rv, h')) : CT l G n n yX6_setDrawn (.code yX6_setDrawn bX6_setDrawn 7 none) 2 0 0 [.ref (bs G + x0), .ref (bs G + x1), .int x2, .int x3] h h' none := by
  refine ct_of (maxL := 7) (ret := none) (bytes := bX6_setDrawn) (by decide) (Nat.le_of_ble_eq_true rfl) (fun p e s m below meth c C0 X ls hl => ?_)
  have hl : lv_has ls 7 [(0, .ref (bs G + x0)), (1, .ref (bs G + x1)), (2, .int x2), (3, .int x3)] := hl
  obtain ⟨hx, hb, hr, hml, hown, hts, hK, hlocks, hnm⟩ := id C0
  unfold f_X6_setDrawn at hf
  obtain ⟨o0, hf⟩ := gd_e hf
  obtain ⟨o1, hf⟩ := gd_e hf
  refine lv_aload_n hx hb dX6_setDrawn_0 rfl (lv_at hl 0 rfl) ?_
  refine lv_aload_n hx hb dX6_setDrawn_1 rfl (lv_at hl 1 rfl) ?_
  obtain ⟨r1, h2, q3, hf⟩ := bd_e hf
  refine c_V0 (As := [.ref (bs G + x1)]) (rest := []) (st1 := []) hx hb hml hown hts hK X (k_X6_setFree l G n hN q3) o0 hN lc_X6_setFree lv_X6_18 (ci := 6) rfl rfl (by decide) rfl hl.1 (Nat.le_of_ble_eq_true rfl) dX6_setDrawn_2 rfl (fun H locs X => ?_)
  refine lv_iconst (v := (0 : Int32)) hx hb dX6_setDrawn_5 (by decide) ?_
  refine lv_istore (lv' := [(4, .int (0 : Int32)), (0, .ref (bs G + x0)), (1, .ref (bs G + x1)), (2, .int x2), (3, .int x3)]) hx hb dX6_setDrawn_6 hl (by decide) rfl (fun ls hl => ?_)
  exact j_X6_setDrawn_8 C0 hN FU X (lv_sub hl [1, 3, 4, 0] rfl) o0 hf
end
theorem dX8_append_0 : decode bX8_append 0 = .ok (.aload_n 0, 1) := by decide +kernel
theorem dX8_append_1 : decode bX8_append 1 = .ok (.getfield 19, 3) := by decide +kernel
theorem dX8_append_4 : decode bX8_append 4 = .ok (.sipush 200, 3) := by decide +kernel
theorem dX8_append_7 : decode bX8_append 7 = .ok (.if_icmp .lt 5, 3) := by decide +kernel
theorem dX8_append_10 : decode bX8_append 10 = .ok (.iconst 0, 1) := by decide +kernel
theorem dX8_append_11 : decode bX8_append 11 = .ok (.ireturn, 1) := by decide +kernel
theorem dX8_append_12 : decode bX8_append 12 = .ok (.aload_n 0, 1) := by decide +kernel
theorem dX8_append_13 : decode bX8_append 13 = .ok (.getfield 9, 3) := by decide +kernel
theorem dX8_append_16 : decode bX8_append 16 = .ok (.aload_n 0, 1) := by decide +kernel
theorem dX8_append_17 : decode bX8_append 17 = .ok (.getfield 19, 3) := by decide +kernel
theorem dX8_append_20 : decode bX8_append 20 = .ok (.iload_n 1, 1) := by decide +kernel
theorem dX8_append_21 : decode bX8_append 21 = .ok (.castore, 1) := by decide +kernel
theorem dX8_append_22 : decode bX8_append 22 = .ok (.aload_n 0, 1) := by decide +kernel
theorem dX8_append_23 : decode bX8_append 23 = .ok (.dup, 1) := by decide +kernel
theorem dX8_append_24 : decode bX8_append 24 = .ok (.getfield 19, 3) := by decide +kernel
theorem dX8_append_27 : decode bX8_append 27 = .ok (.iconst 1, 1) := by decide +kernel
theorem dX8_append_28 : decode bX8_append 28 = .ok (.iadd, 1) := by decide +kernel
theorem dX8_append_29 : decode bX8_append 29 = .ok (.putfield 19, 3) := by decide +kernel
theorem dX8_append_32 : decode bX8_append 32 = .ok (.iconst 1, 1) := by decide +kernel
theorem dX8_append_33 : decode bX8_append 33 = .ok (.ireturn, 1) := by decide +kernel
section
variable {p : Program} {l : Launch} {e : Env} {s : State} {m : MethodId} {args : Array Value} {below : List Frame} {meth : Method} {c : Code} {G : GG} {n : Nat} {h' : Hp} {rv : Int32}
set_option maxHeartbeats 4000000
set_option maxRecDepth 100000
theorem k_X8_append (l : Launch) (G : GG) (n : Nat) (hN : NX ≤ n) {h h' : Hp} {x0 : Nat} {x1 : Int32} {rv : Int32} (hf : f_X8_append h x0 x1 = some (rv, h')) : CT l G n n yX8_append (.code yX8_append bX8_append 2 (some .boolean)) 0 0 0 [.ref (bs G + x0), .int x1] h h' (some (.int rv)) := by
  refine ct_of (maxL := 2) (ret := (some .boolean)) (bytes := bX8_append) (by decide) (Nat.le_of_ble_eq_true rfl) (fun p e s m below meth c C0 X ls hl => ?_)
  have hl : lv_has ls 2 [(0, .ref (bs G + x0)), (1, .int x1)] := hl
  obtain ⟨hx, hb, hr, hml, hown, hts, hK, hlocks, hnm⟩ := id C0
  unfold f_X8_append at hf
  obtain ⟨o0, hf⟩ := gd_e hf
  refine lv_aload_n hx hb dX8_append_0 rfl (lv_at hl 0 rfl) ?_
  refine g_I hx hb hts hown hK X o0 hN fl_X8_19 (by decide) rfl dX8_append_1 ?_
  refine lv_sipush (v := (200 : Int32)) hx hb dX8_append_4 (by decide) ?_
  refine lv_icmp_lt (tgt := 12) hx hb dX8_append_7 (by decide) (fun c7 => ?_) (fun c7 => ?_)
  · have hf := ite_t hf c7
    refine lv_aload_n hx hb dX8_append_12 rfl (lv_at hl 0 rfl) ?_
    obtain ⟨g1, hf⟩ := gd_e hf
    refine g_R hx hb hts hown hK X o0 hN g1 fl_X8_9 (by decide) rfl (by decide) dX8_append_13 ?_
    refine lv_aload_n hx hb dX8_append_16 rfl (lv_at hl 0 rfl) ?_
    refine g_I hx hb hts hown hK X o0 hN fl_X8_19 (by decide) rfl dX8_append_17 ?_
    refine lv_iload_n hx hb dX8_append_20 rfl (lv_at hl 1 rfl) ?_
    obtain ⟨g2, hf⟩ := gd_e hf
    refine g_cs hx hb hK X g1 hN g2 dX8_append_21 (fun H locs X => ?_)
    obtain ⟨h3, e4, hf⟩ := lt_e hf
    rw [← e4] at X
    refine lv_aload_n hx hb dX8_append_22 rfl (lv_at hl 0 rfl) ?_
    refine lv_dup hx hb dX8_append_23 rfl ?_
    refine g_I hx hb hts hown hK X o0 hN fl_X8_19 (by decide) rfl dX8_append_24 ?_
    refine lv_iconst (v := (1 : Int32)) hx hb dX8_append_27 (by decide) ?_
    refine lv_iadd hx hb dX8_append_28 ?_
    refine g_PI hx hb hts hown hK X o0 hN fl_X8_19 ft_8_0 (by decide) rfl dX8_append_29 (fun H locs X => ?_)
    obtain ⟨h5, e6, hf⟩ := lt_e hf
    rw [← e6] at X
    refine lv_iconst (v := (1 : Int32)) hx hb dX8_append_32 (by decide) ?_
    exact r_Z hx hb hr hlocks X rfl hf dX8_append_33
  · have hf := ite_f hf c7
    refine lv_iconst (v := (0 : Int32)) hx hb dX8_append_10 (by decide) ?_
    exact r_Z hx hb hr hlocks X rfl hf dX8_append_11
end
theorem dX8_accept_0 : decode bX8_accept 0 = .ok (.iload_n 1, 1) := by decide +kernel
theorem dX8_accept_1 : decode bX8_accept 1 = .ok (.tableswitch 165 99 112 #[108, 165, 165, 165, 165, 125, 165, 165, 142, 165, 165, 71, 165, 97], 71) := by decide +kernel
theorem dX8_accept_72 : decode bX8_accept 72 = .ok (.aload_n 0, 1) := by decide +kernel
theorem dX8_accept_73 : decode bX8_accept 73 = .ok (.getfield 31, 3) := by decide +kernel
theorem dX8_accept_76 : decode bX8_accept 76 = .ok (.ifCond .eq 20, 3) := by decide +kernel
theorem dX8_accept_79 : decode bX8_accept 79 = .ok (.aload_n 2, 1) := by decide +kernel
theorem dX8_accept_80 : decode bX8_accept 80 = .ok (.aload_n 0, 1) := by decide +kernel
theorem dX8_accept_81 : decode bX8_accept 81 = .ok (.getfield 15, 3) := by decide +kernel
theorem dX8_accept_84 : decode bX8_accept 84 = .ok (.iconst 0, 1) := by decide +kernel
theorem dX8_accept_85 : decode bX8_accept 85 = .ok (.iaload, 1) := by decide +kernel
theorem dX8_accept_86 : decode bX8_accept 86 = .ok (.invokevirtual 50, 3) := by decide +kernel
theorem dX8_accept_89 : decode bX8_accept 89 = .ok (.ifCond .eq 7, 3) := by decide +kernel
theorem dX8_accept_92 : decode bX8_accept 92 = .ok (.iconst 1, 1) := by decide +kernel
theorem dX8_accept_93 : decode bX8_accept 93 = .ok (.goto 4, 3) := by decide +kernel
theorem dX8_accept_96 : decode bX8_accept 96 = .ok (.iconst 0, 1) := by decide +kernel
theorem dX8_accept_97 : decode bX8_accept 97 = .ok (.ireturn, 1) := by decide +kernel
theorem dX8_accept_98 : decode bX8_accept 98 = .ok (.aload_n 2, 1) := by decide +kernel
theorem dX8_accept_99 : decode bX8_accept 99 = .ok (.aload_n 0, 1) := by decide +kernel
theorem dX8_accept_100 : decode bX8_accept 100 = .ok (.getfield 15, 3) := by decide +kernel
theorem dX8_accept_103 : decode bX8_accept 103 = .ok (.iconst 0, 1) := by decide +kernel
theorem dX8_accept_104 : decode bX8_accept 104 = .ok (.iaload, 1) := by decide +kernel
theorem dX8_accept_105 : decode bX8_accept 105 = .ok (.invokevirtual 53, 3) := by decide +kernel
theorem dX8_accept_108 : decode bX8_accept 108 = .ok (.ireturn, 1) := by decide +kernel
theorem dX8_accept_109 : decode bX8_accept 109 = .ok (.aload_n 2, 1) := by decide +kernel
theorem dX8_accept_110 : decode bX8_accept 110 = .ok (.aload_n 0, 1) := by decide +kernel
theorem dX8_accept_111 : decode bX8_accept 111 = .ok (.getfield 15, 3) := by decide +kernel
theorem dX8_accept_114 : decode bX8_accept 114 = .ok (.iconst 0, 1) := by decide +kernel
theorem dX8_accept_115 : decode bX8_accept 115 = .ok (.iaload, 1) := by decide +kernel
theorem dX8_accept_116 : decode bX8_accept 116 = .ok (.aload_n 0, 1) := by decide +kernel
theorem dX8_accept_117 : decode bX8_accept 117 = .ok (.getfield 15, 3) := by decide +kernel
theorem dX8_accept_120 : decode bX8_accept 120 = .ok (.iconst 1, 1) := by decide +kernel
theorem dX8_accept_121 : decode bX8_accept 121 = .ok (.iaload, 1) := by decide +kernel
theorem dX8_accept_122 : decode bX8_accept 122 = .ok (.invokevirtual 56, 3) := by decide +kernel
theorem dX8_accept_125 : decode bX8_accept 125 = .ok (.ireturn, 1) := by decide +kernel
theorem dX8_accept_126 : decode bX8_accept 126 = .ok (.aload_n 2, 1) := by decide +kernel
theorem dX8_accept_127 : decode bX8_accept 127 = .ok (.aload_n 0, 1) := by decide +kernel
theorem dX8_accept_128 : decode bX8_accept 128 = .ok (.getfield 15, 3) := by decide +kernel
theorem dX8_accept_131 : decode bX8_accept 131 = .ok (.iconst 0, 1) := by decide +kernel
theorem dX8_accept_132 : decode bX8_accept 132 = .ok (.iaload, 1) := by decide +kernel
theorem dX8_accept_133 : decode bX8_accept 133 = .ok (.aload_n 0, 1) := by decide +kernel
theorem dX8_accept_134 : decode bX8_accept 134 = .ok (.getfield 15, 3) := by decide +kernel
theorem dX8_accept_137 : decode bX8_accept 137 = .ok (.iconst 1, 1) := by decide +kernel
theorem dX8_accept_138 : decode bX8_accept 138 = .ok (.iaload, 1) := by decide +kernel
theorem dX8_accept_139 : decode bX8_accept 139 = .ok (.invokevirtual 60, 3) := by decide +kernel
theorem dX8_accept_142 : decode bX8_accept 142 = .ok (.ireturn, 1) := by decide +kernel
theorem dX8_accept_143 : decode bX8_accept 143 = .ok (.aload_n 2, 1) := by decide +kernel
theorem dX8_accept_144 : decode bX8_accept 144 = .ok (.aload_n 0, 1) := by decide +kernel
theorem dX8_accept_145 : decode bX8_accept 145 = .ok (.getfield 15, 3) := by decide +kernel
theorem dX8_accept_148 : decode bX8_accept 148 = .ok (.iconst 0, 1) := by decide +kernel
theorem dX8_accept_149 : decode bX8_accept 149 = .ok (.iaload, 1) := by decide +kernel
theorem dX8_accept_150 : decode bX8_accept 150 = .ok (.aload_n 0, 1) := by decide +kernel
theorem dX8_accept_151 : decode bX8_accept 151 = .ok (.getfield 15, 3) := by decide +kernel
theorem dX8_accept_154 : decode bX8_accept 154 = .ok (.iconst 1, 1) := by decide +kernel
theorem dX8_accept_155 : decode bX8_accept 155 = .ok (.iaload, 1) := by decide +kernel
theorem dX8_accept_156 : decode bX8_accept 156 = .ok (.aload_n 0, 1) := by decide +kernel
theorem dX8_accept_157 : decode bX8_accept 157 = .ok (.getfield 15, 3) := by decide +kernel
theorem dX8_accept_160 : decode bX8_accept 160 = .ok (.iconst 2, 1) := by decide +kernel
theorem dX8_accept_161 : decode bX8_accept 161 = .ok (.iaload, 1) := by decide +kernel
theorem dX8_accept_162 : decode bX8_accept 162 = .ok (.invokevirtual 63, 3) := by decide +kernel
theorem dX8_accept_165 : decode bX8_accept 165 = .ok (.ireturn, 1) := by decide +kernel
theorem dX8_accept_166 : decode bX8_accept 166 = .ok (.iconst 0, 1) := by decide +kernel
theorem dX8_accept_167 : decode bX8_accept 167 = .ok (.ireturn, 1) := by decide +kernel
section
variable {p : Program} {l : Launch} {e : Env} {s : State} {m : MethodId} {args : Array Value} {below : List Frame} {meth : Method} {c : Code} {G : GG} {n : Nat} {h' : Hp} {rv : Int32}
set_option maxHeartbeats 4000000
set_option maxRecDepth 100000
theorem k_X8_accept (l : Launch) (G : GG) (n : Nat) (hN : NX ≤ n) {h h' : Hp} {x0 : Nat} {x1 : Int32} {x2 : Nat} {rv : Int32} (hf : f_X8_accept h x0 x1 x2 = some (rv, h')) : CT l G n n yX8_accept (.code yX8_accept bX8_accept 3 (some .boolean)) 2 0 0 [.ref (bs G + x0), .int x1, .ref (bs G + x2)] h h' (some (.int rv)) := by
  refine ct_of (maxL := 3) (ret := (some .boolean)) (bytes := bX8_accept) (by decide) (Nat.le_of_ble_eq_true rfl) (fun p e s m below meth c C0 X ls hl => ?_)
  have hl : lv_has ls 3 [(0, .ref (bs G + x0)), (1, .int x1), (2, .ref (bs G + x2))] := hl
  obtain ⟨hx, hb, hr, hml, hown, hts, hK, hlocks, hnm⟩ := id C0
  unfold f_X8_accept at hf
  obtain ⟨o0, hf⟩ := gd_e hf
  obtain ⟨o2, hf⟩ := gd_e hf
  refine lv_iload_n hx hb dX8_accept_0 rfl (lv_at hl 1 rfl) ?_
  by_cases s1_0 : x1 = (99 : Int32)
  · have hf := ite_t hf s1_0
    refine sw_in (k := (99 : Int32)) (off := 108) (tgt := 109) hx hb dX8_accept_1 s1_0 (by decide) (by decide) (by decide) (by decide) ?_
    refine lv_aload_n hx hb dX8_accept_109 rfl (lv_at hl 2 rfl) ?_
    refine lv_aload_n hx hb dX8_accept_110 rfl (lv_at hl 0 rfl) ?_
    obtain ⟨g1, hf⟩ := gd_e hf
    refine g_R hx hb hts hown hK X o0 hN g1 fl_X8_15 (by decide) rfl (by decide) dX8_accept_111 ?_
    refine lv_iconst (v := (0 : Int32)) hx hb dX8_accept_114 (by decide) ?_
    obtain ⟨g2, hf⟩ := gd_e hf
    refine g_ia hx hb hK X g1 hN g2 (by decide) dX8_accept_115 ?_
    refine lv_aload_n hx hb dX8_accept_116 rfl (lv_at hl 0 rfl) ?_
    obtain ⟨g3, hf⟩ := gd_e hf
    refine g_R hx hb hts hown hK X o0 hN g3 fl_X8_15 (by decide) rfl (by decide) dX8_accept_117 ?_
    refine lv_iconst (v := (1 : Int32)) hx hb dX8_accept_120 (by decide) ?_
    obtain ⟨g4, hf⟩ := gd_e hf
    refine g_ia hx hb hK X g3 hN g4 (by decide) dX8_accept_121 ?_
    obtain ⟨r5, h6, q7, hf⟩ := bd_e hf
    refine c_V0 (As := [.int (h.1 (h.2 x0 2) (0 : Int32).toNatClampNeg), .int (h.1 (h.2 x0 2) (1 : Int32).toNatClampNeg)]) (rest := []) (st1 := [.int r5]) hx hb hml hown hts hK X (k_X4_setCost l G n hN q7) o2 hN lc_X4_setCost lv_X8_56 (ci := 4) rfl rfl (by decide) rfl hl.1 (Nat.le_of_ble_eq_true rfl) dX8_accept_122 rfl (fun H locs X => ?_)
    obtain ⟨g8, hf⟩ := gd_e hf
    exact r_Z hx hb hr hlocks X (z_ok g8).1 hf dX8_accept_125
  have hf := ite_f hf s1_0
  by_cases s1_1 : x1 = (104 : Int32)
  · have hf := ite_t hf s1_1
    refine sw_in (k := (104 : Int32)) (off := 125) (tgt := 126) hx hb dX8_accept_1 s1_1 (by decide) (by decide) (by decide) (by decide) ?_
    refine lv_aload_n hx hb dX8_accept_126 rfl (lv_at hl 2 rfl) ?_
    refine lv_aload_n hx hb dX8_accept_127 rfl (lv_at hl 0 rfl) ?_
    obtain ⟨g9, hf⟩ := gd_e hf
    refine g_R hx hb hts hown hK X o0 hN g9 fl_X8_15 (by decide) rfl (by decide) dX8_accept_128 ?_
    refine lv_iconst (v := (0 : Int32)) hx hb dX8_accept_131 (by decide) ?_
    obtain ⟨g10, hf⟩ := gd_e hf
    refine g_ia hx hb hK X g9 hN g10 (by decide) dX8_accept_132 ?_
    refine lv_aload_n hx hb dX8_accept_133 rfl (lv_at hl 0 rfl) ?_
    obtain ⟨g11, hf⟩ := gd_e hf
    refine g_R hx hb hts hown hK X o0 hN g11 fl_X8_15 (by decide) rfl (by decide) dX8_accept_134 ?_
    refine lv_iconst (v := (1 : Int32)) hx hb dX8_accept_137 (by decide) ?_
    obtain ⟨g12, hf⟩ := gd_e hf
    refine g_ia hx hb hK X g11 hN g12 (by decide) dX8_accept_138 ?_
    obtain ⟨r13, h14, q15, hf⟩ := bd_e hf
    refine c_V0 (As := [.int (h.1 (h.2 x0 2) (0 : Int32).toNatClampNeg), .int (h.1 (h.2 x0 2) (1 : Int32).toNatClampNeg)]) (rest := []) (st1 := [.int r13]) hx hb hml hown hts hK X (k_X4_setOwner l G n hN q15) o2 hN lc_X4_setOwner lv_X8_60 (ci := 4) rfl rfl (by decide) rfl hl.1 (Nat.le_of_ble_eq_true rfl) dX8_accept_139 rfl (fun H locs X => ?_)
    obtain ⟨g16, hf⟩ := gd_e hf
    exact r_Z hx hb hr hlocks X (z_ok g16).1 hf dX8_accept_142
  have hf := ite_f hf s1_1
  by_cases s1_2 : x1 = (107 : Int32)
  · have hf := ite_t hf s1_2
    refine sw_in (k := (107 : Int32)) (off := 142) (tgt := 143) hx hb dX8_accept_1 s1_2 (by decide) (by decide) (by decide) (by decide) ?_
    refine lv_aload_n hx hb dX8_accept_143 rfl (lv_at hl 2 rfl) ?_
    refine lv_aload_n hx hb dX8_accept_144 rfl (lv_at hl 0 rfl) ?_
    obtain ⟨g17, hf⟩ := gd_e hf
    refine g_R hx hb hts hown hK X o0 hN g17 fl_X8_15 (by decide) rfl (by decide) dX8_accept_145 ?_
    refine lv_iconst (v := (0 : Int32)) hx hb dX8_accept_148 (by decide) ?_
    obtain ⟨g18, hf⟩ := gd_e hf
    refine g_ia hx hb hK X g17 hN g18 (by decide) dX8_accept_149 ?_
    refine lv_aload_n hx hb dX8_accept_150 rfl (lv_at hl 0 rfl) ?_
    obtain ⟨g19, hf⟩ := gd_e hf
    refine g_R hx hb hts hown hK X o0 hN g19 fl_X8_15 (by decide) rfl (by decide) dX8_accept_151 ?_
    refine lv_iconst (v := (1 : Int32)) hx hb dX8_accept_154 (by decide) ?_
    obtain ⟨g20, hf⟩ := gd_e hf
    refine g_ia hx hb hK X g19 hN g20 (by decide) dX8_accept_155 ?_
    refine lv_aload_n hx hb dX8_accept_156 rfl (lv_at hl 0 rfl) ?_
    obtain ⟨g21, hf⟩ := gd_e hf
    refine g_R hx hb hts hown hK X o0 hN g21 fl_X8_15 (by decide) rfl (by decide) dX8_accept_157 ?_
    refine lv_iconst (v := (2 : Int32)) hx hb dX8_accept_160 (by decide) ?_
    obtain ⟨g22, hf⟩ := gd_e hf
    refine g_ia hx hb hK X g21 hN g22 (by decide) dX8_accept_161 ?_
    obtain ⟨r23, h24, q25, hf⟩ := bd_e hf
    refine c_V0 (As := [.int (h.1 (h.2 x0 2) (0 : Int32).toNatClampNeg), .int (h.1 (h.2 x0 2) (1 : Int32).toNatClampNeg), .int (h.1 (h.2 x0 2) (2 : Int32).toNatClampNeg)]) (rest := []) (st1 := [.int r23]) hx hb hml hown hts hK X (k_X4_setLaw l G n hN q25) o2 hN lc_X4_setLaw lv_X8_63 (ci := 4) rfl rfl (by decide) rfl hl.1 (Nat.le_of_ble_eq_true rfl) dX8_accept_162 rfl (fun H locs X => ?_)
    obtain ⟨g26, hf⟩ := gd_e hf
    exact r_Z hx hb hr hlocks X (z_ok g26).1 hf dX8_accept_165
  have hf := ite_f hf s1_2
  by_cases s1_3 : x1 = (110 : Int32)
  · have hf := ite_t hf s1_3
    refine sw_in (k := (110 : Int32)) (off := 71) (tgt := 72) hx hb dX8_accept_1 s1_3 (by decide) (by decide) (by decide) (by decide) ?_
    refine lv_aload_n hx hb dX8_accept_72 rfl (lv_at hl 0 rfl) ?_
    refine g_I hx hb hts hown hK X o0 hN fl_X8_31 (by decide) rfl dX8_accept_73 ?_
    refine lv_if_eq (tgt := 96) hx hb dX8_accept_76 (by decide) (fun c76 => ?_) (fun c76 => ?_)
    · have hf := ite_t hf c76
      refine lv_iconst (v := (0 : Int32)) hx hb dX8_accept_96 (by decide) ?_
      exact r_Z hx hb hr hlocks X rfl hf dX8_accept_97
    · have hf := ite_f hf c76
      refine lv_aload_n hx hb dX8_accept_79 rfl (lv_at hl 2 rfl) ?_
      refine lv_aload_n hx hb dX8_accept_80 rfl (lv_at hl 0 rfl) ?_
      obtain ⟨g27, hf⟩ := gd_e hf
      refine g_R hx hb hts hown hK X o0 hN g27 fl_X8_15 (by decide) rfl (by decide) dX8_accept_81 ?_
      refine lv_iconst (v := (0 : Int32)) hx hb dX8_accept_84 (by decide) ?_
      obtain ⟨g28, hf⟩ := gd_e hf
      refine g_ia hx hb hK X g27 hN g28 (by decide) dX8_accept_85 ?_
      obtain ⟨r29, h30, q31, hf⟩ := bd_e hf
      refine c_V0 (As := [.int (h.1 (h.2 x0 2) (0 : Int32).toNatClampNeg)]) (rest := []) (st1 := [.int r29]) hx hb hml hown hts hK X (k_X4_setNumbers l G n hN q31) o2 hN lc_X4_setNumbers lv_X8_50 (ci := 4) rfl rfl (by decide) rfl hl.1 (Nat.le_of_ble_eq_true rfl) dX8_accept_86 rfl (fun H locs X => ?_)
      refine lv_if_eq (tgt := 96) hx hb dX8_accept_89 (by decide) (fun c89 => ?_) (fun c89 => ?_)
      · have hf := ite_t hf c89
        refine lv_iconst (v := (0 : Int32)) hx hb dX8_accept_96 (by decide) ?_
        exact r_Z hx hb hr hlocks X rfl hf dX8_accept_97
      · have hf := ite_f hf c89
        refine lv_iconst (v := (1 : Int32)) hx hb dX8_accept_92 (by decide) ?_
        refine lv_goto (tgt := 97) hx hb dX8_accept_93 (by decide) ?_
        exact r_Z hx hb hr hlocks X rfl hf dX8_accept_97
  have hf := ite_f hf s1_3
  by_cases s1_4 : x1 = (112 : Int32)
  · have hf := ite_t hf s1_4
    refine sw_in (k := (112 : Int32)) (off := 97) (tgt := 98) hx hb dX8_accept_1 s1_4 (by decide) (by decide) (by decide) (by decide) ?_
    refine lv_aload_n hx hb dX8_accept_98 rfl (lv_at hl 2 rfl) ?_
    refine lv_aload_n hx hb dX8_accept_99 rfl (lv_at hl 0 rfl) ?_
    obtain ⟨g32, hf⟩ := gd_e hf
    refine g_R hx hb hts hown hK X o0 hN g32 fl_X8_15 (by decide) rfl (by decide) dX8_accept_100 ?_
    refine lv_iconst (v := (0 : Int32)) hx hb dX8_accept_103 (by decide) ?_
    obtain ⟨g33, hf⟩ := gd_e hf
    refine g_ia hx hb hK X g32 hN g33 (by decide) dX8_accept_104 ?_
    obtain ⟨r34, h35, q36, hf⟩ := bd_e hf
    refine c_V0 (As := [.int (h.1 (h.2 x0 2) (0 : Int32).toNatClampNeg)]) (rest := []) (st1 := [.int r34]) hx hb hml hown hts hK X (k_X4_addPerson l G n hN q36) o2 hN lc_X4_addPerson lv_X8_53 (ci := 4) rfl rfl (by decide) rfl hl.1 (Nat.le_of_ble_eq_true rfl) dX8_accept_105 rfl (fun H locs X => ?_)
    obtain ⟨g37, hf⟩ := gd_e hf
    exact r_Z hx hb hr hlocks X (z_ok g37).1 hf dX8_accept_108
  have hf := ite_f hf s1_4
  refine sw_df (ex := [(99 : Int32), (104 : Int32), (107 : Int32), (110 : Int32), (112 : Int32)]) (tgt := 166) hx hb dX8_accept_1 (by decide) (by decide) (List.forall_mem_cons.mpr ⟨s1_0, List.forall_mem_cons.mpr ⟨s1_1, List.forall_mem_cons.mpr ⟨s1_2, List.forall_mem_cons.mpr ⟨s1_3, List.forall_mem_cons.mpr ⟨s1_4, (fun _ hz => absurd hz List.not_mem_nil)⟩⟩⟩⟩⟩) (by decide) ?_
  refine lv_iconst (v := (0 : Int32)) hx hb dX8_accept_166 (by decide) ?_
  exact r_Z hx hb hr hlocks X rfl hf dX8_accept_167
end
theorem dX8_numbersBehind_0 : decode bX8_numbersBehind 0 = .ok (.iload_n 0, 1) := by decide +kernel
theorem dX8_numbersBehind_1 : decode bX8_numbersBehind 1 = .ok (.tableswitch 81 99 112 #[75, 81, 81, 81, 81, 77, 81, 81, 79, 81, 81, 71, 81, 73], 71) := by decide +kernel
theorem dX8_numbersBehind_72 : decode bX8_numbersBehind 72 = .ok (.iconst 1, 1) := by decide +kernel
theorem dX8_numbersBehind_73 : decode bX8_numbersBehind 73 = .ok (.ireturn, 1) := by decide +kernel
theorem dX8_numbersBehind_74 : decode bX8_numbersBehind 74 = .ok (.iconst 1, 1) := by decide +kernel
theorem dX8_numbersBehind_75 : decode bX8_numbersBehind 75 = .ok (.ireturn, 1) := by decide +kernel
theorem dX8_numbersBehind_76 : decode bX8_numbersBehind 76 = .ok (.iconst 2, 1) := by decide +kernel
theorem dX8_numbersBehind_77 : decode bX8_numbersBehind 77 = .ok (.ireturn, 1) := by decide +kernel
theorem dX8_numbersBehind_78 : decode bX8_numbersBehind 78 = .ok (.iconst 2, 1) := by decide +kernel
theorem dX8_numbersBehind_79 : decode bX8_numbersBehind 79 = .ok (.ireturn, 1) := by decide +kernel
theorem dX8_numbersBehind_80 : decode bX8_numbersBehind 80 = .ok (.iconst 3, 1) := by decide +kernel
theorem dX8_numbersBehind_81 : decode bX8_numbersBehind 81 = .ok (.ireturn, 1) := by decide +kernel
theorem dX8_numbersBehind_82 : decode bX8_numbersBehind 82 = .ok (.iconst 0, 1) := by decide +kernel
theorem dX8_numbersBehind_83 : decode bX8_numbersBehind 83 = .ok (.ireturn, 1) := by decide +kernel
section
variable {p : Program} {l : Launch} {e : Env} {s : State} {m : MethodId} {args : Array Value} {below : List Frame} {meth : Method} {c : Code} {G : GG} {n : Nat} {h' : Hp} {rv : Int32}
set_option maxHeartbeats 4000000
set_option maxRecDepth 100000
theorem k_X8_numbersBehind (l : Launch) (G : GG) (n : Nat) (hN : NX ≤ n) {h h' : Hp} {x0 : Int32} {rv : Int32} (hf : f_X8_numbersBehind h x0 = some (rv, h')) : CT l G n n yX8_numbersBehind (.code yX8_numbersBehind bX8_numbersBehind 1 (some .int)) 0 0 0 [.int x0] h h' (some (.int rv)) := by
  refine ct_of (maxL := 1) (ret := (some .int)) (bytes := bX8_numbersBehind) (by decide) (Nat.le_of_ble_eq_true rfl) (fun p e s m below meth c C0 X ls hl => ?_)
  have hl : lv_has ls 1 [(0, .int x0)] := hl
  obtain ⟨hx, hb, hr, hml, hown, hts, hK, hlocks, hnm⟩ := id C0
  unfold f_X8_numbersBehind at hf
  refine lv_iload_n hx hb dX8_numbersBehind_0 rfl (lv_at hl 0 rfl) ?_
  by_cases s1_0 : x0 = (99 : Int32)
  · have hf := ite_t hf s1_0
    refine sw_in (k := (99 : Int32)) (off := 75) (tgt := 76) hx hb dX8_numbersBehind_1 s1_0 (by decide) (by decide) (by decide) (by decide) ?_
    refine lv_iconst (v := (2 : Int32)) hx hb dX8_numbersBehind_76 (by decide) ?_
    exact r_I hx hb hr hlocks X hf dX8_numbersBehind_77
  have hf := ite_f hf s1_0
  by_cases s1_1 : x0 = (104 : Int32)
  · have hf := ite_t hf s1_1
    refine sw_in (k := (104 : Int32)) (off := 77) (tgt := 78) hx hb dX8_numbersBehind_1 s1_1 (by decide) (by decide) (by decide) (by decide) ?_
    refine lv_iconst (v := (2 : Int32)) hx hb dX8_numbersBehind_78 (by decide) ?_
    exact r_I hx hb hr hlocks X hf dX8_numbersBehind_79
  have hf := ite_f hf s1_1
  by_cases s1_2 : x0 = (107 : Int32)
  · have hf := ite_t hf s1_2
    refine sw_in (k := (107 : Int32)) (off := 79) (tgt := 80) hx hb dX8_numbersBehind_1 s1_2 (by decide) (by decide) (by decide) (by decide) ?_
    refine lv_iconst (v := (3 : Int32)) hx hb dX8_numbersBehind_80 (by decide) ?_
    exact r_I hx hb hr hlocks X hf dX8_numbersBehind_81
  have hf := ite_f hf s1_2
  by_cases s1_3 : x0 = (110 : Int32)
  · have hf := ite_t hf s1_3
    refine sw_in (k := (110 : Int32)) (off := 71) (tgt := 72) hx hb dX8_numbersBehind_1 s1_3 (by decide) (by decide) (by decide) (by decide) ?_
    refine lv_iconst (v := (1 : Int32)) hx hb dX8_numbersBehind_72 (by decide) ?_
    exact r_I hx hb hr hlocks X hf dX8_numbersBehind_73
  have hf := ite_f hf s1_3
  by_cases s1_4 : x0 = (112 : Int32)
  · have hf := ite_t hf s1_4
    refine sw_in (k := (112 : Int32)) (off := 73) (tgt := 74) hx hb dX8_numbersBehind_1 s1_4 (by decide) (by decide) (by decide) (by decide) ?_
    refine lv_iconst (v := (1 : Int32)) hx hb dX8_numbersBehind_74 (by decide) ?_
    exact r_I hx hb hr hlocks X hf dX8_numbersBehind_75
  have hf := ite_f hf s1_4
  refine sw_df (ex := [(99 : Int32), (104 : Int32), (107 : Int32), (110 : Int32), (112 : Int32)]) (tgt := 82) hx hb dX8_numbersBehind_1 (by decide) (by decide) (List.forall_mem_cons.mpr ⟨s1_0, List.forall_mem_cons.mpr ⟨s1_1, List.forall_mem_cons.mpr ⟨s1_2, List.forall_mem_cons.mpr ⟨s1_3, List.forall_mem_cons.mpr ⟨s1_4, (fun _ hz => absurd hz List.not_mem_nil)⟩⟩⟩⟩⟩) (by decide) ?_
  refine lv_iconst (v := (0 : Int32)) hx hb dX8_numbersBehind_82 (by decide) ?_
  exact r_I hx hb hr hlocks X hf dX8_numbersBehind_83
end
theorem dX8_readNumber_0 : decode bX8_readNumber 0 = .ok (.iconst 0, 1) := by decide +kernel
theorem dX8_readNumber_1 : decode bX8_readNumber 1 = .ok (.istore_n 2, 1) := by decide +kernel
theorem dX8_readNumber_2 : decode bX8_readNumber 2 = .ok (.iconst 0, 1) := by decide +kernel
theorem dX8_readNumber_3 : decode bX8_readNumber 3 = .ok (.istore_n 3, 1) := by decide +kernel
theorem dX8_readNumber_4 : decode bX8_readNumber 4 = .ok (.iload_n 2, 1) := by decide +kernel
theorem dX8_readNumber_5 : decode bX8_readNumber 5 = .ok (.iconst 2, 1) := by decide +kernel
theorem dX8_readNumber_6 : decode bX8_readNumber 6 = .ok (.if_icmp .ge 76, 3) := by decide +kernel
theorem dX8_readNumber_9 : decode bX8_readNumber 9 = .ok (.aload_n 0, 1) := by decide +kernel
theorem dX8_readNumber_10 : decode bX8_readNumber 10 = .ok (.getfield 28, 3) := by decide +kernel
theorem dX8_readNumber_13 : decode bX8_readNumber 13 = .ok (.aload_n 0, 1) := by decide +kernel
theorem dX8_readNumber_14 : decode bX8_readNumber 14 = .ok (.getfield 19, 3) := by decide +kernel
theorem dX8_readNumber_17 : decode bX8_readNumber 17 = .ok (.if_icmp .ge 65, 3) := by decide +kernel
theorem dX8_readNumber_20 : decode bX8_readNumber 20 = .ok (.aload_n 0, 1) := by decide +kernel
theorem dX8_readNumber_21 : decode bX8_readNumber 21 = .ok (.getfield 9, 3) := by decide +kernel
theorem dX8_readNumber_24 : decode bX8_readNumber 24 = .ok (.aload_n 0, 1) := by decide +kernel
theorem dX8_readNumber_25 : decode bX8_readNumber 25 = .ok (.getfield 28, 3) := by decide +kernel
theorem dX8_readNumber_28 : decode bX8_readNumber 28 = .ok (.caload, 1) := by decide +kernel
theorem dX8_readNumber_29 : decode bX8_readNumber 29 = .ok (.bipush 48, 2) := by decide +kernel
theorem dX8_readNumber_31 : decode bX8_readNumber 31 = .ok (.if_icmp .lt 51, 3) := by decide +kernel
theorem dX8_readNumber_34 : decode bX8_readNumber 34 = .ok (.aload_n 0, 1) := by decide +kernel
theorem dX8_readNumber_35 : decode bX8_readNumber 35 = .ok (.getfield 9, 3) := by decide +kernel
theorem dX8_readNumber_38 : decode bX8_readNumber 38 = .ok (.aload_n 0, 1) := by decide +kernel
theorem dX8_readNumber_39 : decode bX8_readNumber 39 = .ok (.getfield 28, 3) := by decide +kernel
theorem dX8_readNumber_42 : decode bX8_readNumber 42 = .ok (.caload, 1) := by decide +kernel
theorem dX8_readNumber_43 : decode bX8_readNumber 43 = .ok (.bipush 57, 2) := by decide +kernel
theorem dX8_readNumber_45 : decode bX8_readNumber 45 = .ok (.if_icmp .gt 37, 3) := by decide +kernel
theorem dX8_readNumber_48 : decode bX8_readNumber 48 = .ok (.iload_n 3, 1) := by decide +kernel
theorem dX8_readNumber_49 : decode bX8_readNumber 49 = .ok (.bipush 10, 2) := by decide +kernel
theorem dX8_readNumber_51 : decode bX8_readNumber 51 = .ok (.imul, 1) := by decide +kernel
theorem dX8_readNumber_52 : decode bX8_readNumber 52 = .ok (.aload_n 0, 1) := by decide +kernel
theorem dX8_readNumber_53 : decode bX8_readNumber 53 = .ok (.getfield 9, 3) := by decide +kernel
theorem dX8_readNumber_56 : decode bX8_readNumber 56 = .ok (.aload_n 0, 1) := by decide +kernel
theorem dX8_readNumber_57 : decode bX8_readNumber 57 = .ok (.getfield 28, 3) := by decide +kernel
theorem dX8_readNumber_60 : decode bX8_readNumber 60 = .ok (.caload, 1) := by decide +kernel
theorem dX8_readNumber_61 : decode bX8_readNumber 61 = .ok (.bipush 48, 2) := by decide +kernel
theorem dX8_readNumber_63 : decode bX8_readNumber 63 = .ok (.isub, 1) := by decide +kernel
theorem dX8_readNumber_64 : decode bX8_readNumber 64 = .ok (.iadd, 1) := by decide +kernel
theorem dX8_readNumber_65 : decode bX8_readNumber 65 = .ok (.istore_n 3, 1) := by decide +kernel
theorem dX8_readNumber_66 : decode bX8_readNumber 66 = .ok (.iinc 2 1, 3) := by decide +kernel
theorem dX8_readNumber_69 : decode bX8_readNumber 69 = .ok (.aload_n 0, 1) := by decide +kernel
theorem dX8_readNumber_70 : decode bX8_readNumber 70 = .ok (.dup, 1) := by decide +kernel
theorem dX8_readNumber_71 : decode bX8_readNumber 71 = .ok (.getfield 28, 3) := by decide +kernel
theorem dX8_readNumber_74 : decode bX8_readNumber 74 = .ok (.iconst 1, 1) := by decide +kernel
theorem dX8_readNumber_75 : decode bX8_readNumber 75 = .ok (.iadd, 1) := by decide +kernel
theorem dX8_readNumber_76 : decode bX8_readNumber 76 = .ok (.putfield 28, 3) := by decide +kernel
theorem dX8_readNumber_79 : decode bX8_readNumber 79 = .ok (.goto (-75), 3) := by decide +kernel
theorem dX8_readNumber_82 : decode bX8_readNumber 82 = .ok (.aload_n 0, 1) := by decide +kernel
theorem dX8_readNumber_83 : decode bX8_readNumber 83 = .ok (.getfield 15, 3) := by decide +kernel
theorem dX8_readNumber_86 : decode bX8_readNumber 86 = .ok (.iload_n 1, 1) := by decide +kernel
theorem dX8_readNumber_87 : decode bX8_readNumber 87 = .ok (.iload_n 3, 1) := by decide +kernel
theorem dX8_readNumber_88 : decode bX8_readNumber 88 = .ok (.iastore, 1) := by decide +kernel
theorem dX8_readNumber_89 : decode bX8_readNumber 89 = .ok (.iload_n 2, 1) := by decide +kernel
theorem dX8_readNumber_90 : decode bX8_readNumber 90 = .ok (.ifCond .le 7, 3) := by decide +kernel
theorem dX8_readNumber_93 : decode bX8_readNumber 93 = .ok (.iconst 1, 1) := by decide +kernel
theorem dX8_readNumber_94 : decode bX8_readNumber 94 = .ok (.goto 4, 3) := by decide +kernel
theorem dX8_readNumber_97 : decode bX8_readNumber 97 = .ok (.iconst 0, 1) := by decide +kernel
theorem dX8_readNumber_98 : decode bX8_readNumber 98 = .ok (.ireturn, 1) := by decide +kernel
section
variable {p : Program} {l : Launch} {e : Env} {s : State} {m : MethodId} {args : Array Value} {below : List Frame} {meth : Method} {c : Code} {G : GG} {n : Nat} {h' : Hp} {rv : Int32}
set_option maxHeartbeats 4000000
set_option maxRecDepth 100000
theorem j_X8_readNumber_82 (C0 : Cx p s m args meth c G bX8_readNumber RX8 4 (some .boolean) "readNumber") (hN : NX ≤ n) {H : Heap} {locs : List Loc} {ls : Array Slot} {h : Hp} {x0 : Nat} {x1 : Int32} {x2 : Int32} {x3 : Int32} (X : XW G n h s 0 H locs) (hl : lv_has ls 4 [(0, .ref (bs G + x0)), (1, .int x1), (2, .int x2), (3, .int x3)]) (o0 : kd x0 = 8) (hf : f_X8_readNumber_82 h x0 x1 x2 x3 = some (rv, h')) : W p l e (rmC 0 0 0) s m args below meth c H locs 0 0 (MQ below (QP G n h' (some (.int rv))) args s 0 0 (Ab G)) (F0 m 82 ls []) := by
  obtain ⟨hx, hb, hr, hml, hown, hts, hK, hlocks, hnm⟩ := id C0
  unfold f_X8_readNumber_82 at hf
  refine lv_aload_n hx hb dX8_readNumber_82 rfl (lv_at hl 0 rfl) ?_
  obtain ⟨g1, hf⟩ := gd_e hf
  refine g_R hx hb hts hown hK X o0 hN g1 fl_X8_15 (by decide) rfl (by decide) dX8_readNumber_83 ?_
  refine lv_iload_n hx hb dX8_readNumber_86 rfl (lv_at hl 1 rfl) ?_
  refine lv_iload_n hx hb dX8_readNumber_87 rfl (lv_at hl 3 rfl) ?_
  obtain ⟨g2, hf⟩ := gd_e hf
  refine g_is hx hb hK X g1 hN g2 (by decide) dX8_readNumber_88 (fun H locs X => ?_)
  obtain ⟨h3, e4, hf⟩ := lt_e hf
  rw [← e4] at X
  refine lv_iload_n hx hb dX8_readNumber_89 rfl (lv_at hl 2 rfl) ?_
  refine lv_if_le (tgt := 97) hx hb dX8_readNumber_90 (by decide) (fun c90 => ?_) (fun c90 => ?_)
  · have hf := ite_t hf c90
    refine lv_iconst (v := (0 : Int32)) hx hb dX8_readNumber_97 (by decide) ?_
    exact r_Z hx hb hr hlocks X rfl hf dX8_readNumber_98
  · have hf := ite_f hf c90
    refine lv_iconst (v := (1 : Int32)) hx hb dX8_readNumber_93 (by decide) ?_
    refine lv_goto (tgt := 98) hx hb dX8_readNumber_94 (by decide) ?_
    exact r_Z hx hb hr hlocks X rfl hf dX8_readNumber_98
theorem j_X8_readNumber_4 (C0 : Cx p s m args meth c G bX8_readNumber RX8 4 (some .boolean) "readNumber") (hN : NX ≤ n) : ∀ (fu : Nat), ∀ {H : Heap} {locs : List Loc} {ls : Array Slot} {h : Hp} {x0 : Nat} {x1 : Int32} {x2 : Int32} {x3 : Int32}, XW G n h s 0 H locs → lv_has ls 4 [(0, .ref (bs G + x0)), (1, .int x1), (2, .int x2), (3, .int x3)] → kd x0 = 8 → f_X8_readNumber_4 fu h x0 x1 x2 x3 = some (rv, h') → W p l e (rmC 0 0 0) s m args below meth c H locs 0 0 (MQ below (QP G n h' (some (.int rv))) args s 0 0 (Ab G)) (F0 m 4 ls []) := by
  obtain ⟨hx, hb, hr, hml, hown, hts, hK, hlocks, hnm⟩ := id C0
  intro fu
  induction fu with
  | zero => intro H locs ls h x0 x1 x2 x3 X hl o0 hf; cases hf
  | succ fu ih =>
    intro H locs ls h x0 x1 x2 x3 X hl o0 hf
    rw [f_X8_readNumber_4] at hf
    refine lv_iload_n hx hb dX8_readNumber_4 rfl (lv_at hl 2 rfl) ?_
    refine lv_iconst (v := (2 : Int32)) hx hb dX8_readNumber_5 (by decide) ?_
    refine lv_icmp_ge (tgt := 82) hx hb dX8_readNumber_6 (by decide) (fun c6 => ?_) (fun c6 => ?_)
    · have hf := ite_t hf c6
      exact j_X8_readNumber_82 C0 hN X (lv_sub hl [0, 1, 2, 3] rfl) o0 hf
    · have hf := ite_f hf c6
      refine lv_aload_n hx hb dX8_readNumber_9 rfl (lv_at hl 0 rfl) ?_
      refine g_I hx hb hts hown hK X o0 hN fl_X8_28 (by decide) rfl dX8_readNumber_10 ?_
      refine lv_aload_n hx hb dX8_readNumber_13 rfl (lv_at hl 0 rfl) ?_
      refine g_I hx hb hts hown hK X o0 hN fl_X8_19 (by decide) rfl dX8_readNumber_14 ?_
      refine lv_icmp_ge (tgt := 82) hx hb dX8_readNumber_17 (by decide) (fun c17 => ?_) (fun c17 => ?_)
      · have hf := ite_t hf c17
        exact j_X8_readNumber_82 C0 hN X (lv_sub hl [0, 1, 2, 3] rfl) o0 hf
      · have hf := ite_f hf c17
        refine lv_aload_n hx hb dX8_readNumber_20 rfl (lv_at hl 0 rfl) ?_
        obtain ⟨g1, hf⟩ := gd_e hf
        refine g_R hx hb hts hown hK X o0 hN g1 fl_X8_9 (by decide) rfl (by decide) dX8_readNumber_21 ?_
        refine lv_aload_n hx hb dX8_readNumber_24 rfl (lv_at hl 0 rfl) ?_
        refine g_I hx hb hts hown hK X o0 hN fl_X8_28 (by decide) rfl dX8_readNumber_25 ?_
        obtain ⟨g2, hf⟩ := gd_e hf
        refine g_ca hx hb hK X g1 hN g2 dX8_readNumber_28 ?_
        refine lv_bipush (v := (48 : Int32)) hx hb dX8_readNumber_29 (by decide) ?_
        refine lv_icmp_lt (tgt := 82) hx hb dX8_readNumber_31 (by decide) (fun c31 => ?_) (fun c31 => ?_)
        · have hf := ite_t hf c31
          exact j_X8_readNumber_82 C0 hN X (lv_sub hl [0, 1, 2, 3] rfl) o0 hf
        · have hf := ite_f hf c31
          refine lv_aload_n hx hb dX8_readNumber_34 rfl (lv_at hl 0 rfl) ?_
          obtain ⟨g3, hf⟩ := gd_e hf
          refine g_R hx hb hts hown hK X o0 hN g3 fl_X8_9 (by decide) rfl (by decide) dX8_readNumber_35 ?_
          refine lv_aload_n hx hb dX8_readNumber_38 rfl (lv_at hl 0 rfl) ?_
          refine g_I hx hb hts hown hK X o0 hN fl_X8_28 (by decide) rfl dX8_readNumber_39 ?_
          obtain ⟨g4, hf⟩ := gd_e hf
          refine g_ca hx hb hK X g3 hN g4 dX8_readNumber_42 ?_
          refine lv_bipush (v := (57 : Int32)) hx hb dX8_readNumber_43 (by decide) ?_
          refine lv_icmp_gt (tgt := 82) hx hb dX8_readNumber_45 (by decide) (fun c45 => ?_) (fun c45 => ?_)
          · have hf := ite_t hf c45
            exact j_X8_readNumber_82 C0 hN X (lv_sub hl [0, 1, 2, 3] rfl) o0 hf
          · have hf := ite_f hf c45
            refine lv_iload_n hx hb dX8_readNumber_48 rfl (lv_at hl 3 rfl) ?_
            refine lv_bipush (v := (10 : Int32)) hx hb dX8_readNumber_49 (by decide) ?_
            refine lv_imul hx hb dX8_readNumber_51 ?_
            refine lv_aload_n hx hb dX8_readNumber_52 rfl (lv_at hl 0 rfl) ?_
            obtain ⟨g5, hf⟩ := gd_e hf
            refine g_R hx hb hts hown hK X o0 hN g5 fl_X8_9 (by decide) rfl (by decide) dX8_readNumber_53 ?_
            refine lv_aload_n hx hb dX8_readNumber_56 rfl (lv_at hl 0 rfl) ?_
            refine g_I hx hb hts hown hK X o0 hN fl_X8_28 (by decide) rfl dX8_readNumber_57 ?_
            obtain ⟨g6, hf⟩ := gd_e hf
            refine g_ca hx hb hK X g5 hN g6 dX8_readNumber_60 ?_
            refine lv_bipush (v := (48 : Int32)) hx hb dX8_readNumber_61 (by decide) ?_
            refine lv_isub hx hb dX8_readNumber_63 ?_
            refine lv_iadd hx hb dX8_readNumber_64 ?_
            refine lv_istore_n (lv' := [(3, .int ((x3 * (10 : Int32)) + ((h.1 (h.2 x0 1) (h.1 x0 3).toNatClampNeg) - (48 : Int32)))), (0, .ref (bs G + x0)), (1, .int x1), (2, .int x2)]) hx hb dX8_readNumber_65 rfl hl (by decide) rfl (fun ls hl => ?_)
            refine lv_iinc (v := (x2 + (1 : Int32))) (lv' := [(2, .int (x2 + (1 : Int32))), (3, .int ((x3 * (10 : Int32)) + ((h.1 (h.2 x0 1) (h.1 x0 3).toNatClampNeg) - (48 : Int32)))), (0, .ref (bs G + x0)), (1, .int x1)]) hx hb dX8_readNumber_66 hl (k := 3) rfl rfl (by decide) rfl (fun ls hl => ?_)
            refine lv_aload_n hx hb dX8_readNumber_69 rfl (lv_at hl 2 rfl) ?_
            refine lv_dup hx hb dX8_readNumber_70 rfl ?_
            refine g_I hx hb hts hown hK X o0 hN fl_X8_28 (by decide) rfl dX8_readNumber_71 ?_
            refine lv_iconst (v := (1 : Int32)) hx hb dX8_readNumber_74 (by decide) ?_
            refine lv_iadd hx hb dX8_readNumber_75 ?_
            refine g_PI hx hb hts hown hK X o0 hN fl_X8_28 ft_8_3 (by decide) rfl dX8_readNumber_76 (fun H locs X => ?_)
            obtain ⟨h7, e8, hf⟩ := lt_e hf
            rw [← e8] at X
            refine lv_goto (tgt := 4) hx hb dX8_readNumber_79 (by decide) ?_
            exact ih X (lv_sub hl [2, 3, 0, 1] rfl) o0 hf
theorem k_X8_readNumber (l : Launch) (G : GG) (n : Nat) (hN : NX ≤ n) {h h' : Hp} {x0 : Nat} {x1 : Int32} {rv : Int32} (hf : f_X8_readNumber h x0 x1 = some (rv, h')) : CT l G n n yX8_readNumber (.code yX8_readNumber bX8_readNumber 4 (some .boolean)) 0 0 0 [.ref (bs G + x0), .int x1] h h' (some (.int rv)) := by
  refine ct_of (maxL := 4) (ret := (some .boolean)) (bytes := bX8_readNumber) (by decide) (Nat.le_of_ble_eq_true rfl) (fun p e s m below meth c C0 X ls hl => ?_)
  have hl : lv_has ls 4 [(0, .ref (bs G + x0)), (1, .int x1)] := hl
  obtain ⟨hx, hb, hr, hml, hown, hts, hK, hlocks, hnm⟩ := id C0
  unfold f_X8_readNumber at hf
  obtain ⟨o0, hf⟩ := gd_e hf
  refine lv_iconst (v := (0 : Int32)) hx hb dX8_readNumber_0 (by decide) ?_
  refine lv_istore_n (lv' := [(2, .int (0 : Int32)), (0, .ref (bs G + x0)), (1, .int x1)]) hx hb dX8_readNumber_1 rfl hl (by decide) rfl (fun ls hl => ?_)
  refine lv_iconst (v := (0 : Int32)) hx hb dX8_readNumber_2 (by decide) ?_
  refine lv_istore_n (lv' := [(3, .int (0 : Int32)), (2, .int (0 : Int32)), (0, .ref (bs G + x0)), (1, .int x1)]) hx hb dX8_readNumber_3 rfl hl (by decide) rfl (fun ls hl => ?_)
  exact j_X8_readNumber_4 C0 hN FU X (lv_sub hl [2, 3, 1, 0] rfl) o0 hf
end
theorem dX8_readItem_0 : decode bX8_readItem 0 = .ok (.aload_n 0, 1) := by decide +kernel
theorem dX8_readItem_1 : decode bX8_readItem 1 = .ok (.dup, 1) := by decide +kernel
theorem dX8_readItem_2 : decode bX8_readItem 2 = .ok (.getfield 28, 3) := by decide +kernel
theorem dX8_readItem_5 : decode bX8_readItem 5 = .ok (.iconst 1, 1) := by decide +kernel
theorem dX8_readItem_6 : decode bX8_readItem 6 = .ok (.iadd, 1) := by decide +kernel
theorem dX8_readItem_7 : decode bX8_readItem 7 = .ok (.putfield 28, 3) := by decide +kernel
theorem dX8_readItem_10 : decode bX8_readItem 10 = .ok (.iconst 0, 1) := by decide +kernel
theorem dX8_readItem_11 : decode bX8_readItem 11 = .ok (.istore_n 2, 1) := by decide +kernel
theorem dX8_readItem_12 : decode bX8_readItem 12 = .ok (.iload_n 2, 1) := by decide +kernel
theorem dX8_readItem_13 : decode bX8_readItem 13 = .ok (.iload_n 1, 1) := by decide +kernel
theorem dX8_readItem_14 : decode bX8_readItem 14 = .ok (.if_icmp .ge 75, 3) := by decide +kernel
theorem dX8_readItem_17 : decode bX8_readItem 17 = .ok (.iload_n 2, 1) := by decide +kernel
theorem dX8_readItem_18 : decode bX8_readItem 18 = .ok (.aload_n 0, 1) := by decide +kernel
theorem dX8_readItem_19 : decode bX8_readItem 19 = .ok (.getfield 15, 3) := by decide +kernel
theorem dX8_readItem_22 : decode bX8_readItem 22 = .ok (.arraylength, 1) := by decide +kernel
theorem dX8_readItem_23 : decode bX8_readItem 23 = .ok (.if_icmp .ge 66, 3) := by decide +kernel
theorem dX8_readItem_26 : decode bX8_readItem 26 = .ok (.aload_n 0, 1) := by decide +kernel
theorem dX8_readItem_27 : decode bX8_readItem 27 = .ok (.iload_n 2, 1) := by decide +kernel
theorem dX8_readItem_28 : decode bX8_readItem 28 = .ok (.invokevirtual 47, 3) := by decide +kernel
theorem dX8_readItem_31 : decode bX8_readItem 31 = .ok (.ifCond .eq 40, 3) := by decide +kernel
theorem dX8_readItem_34 : decode bX8_readItem 34 = .ok (.aload_n 0, 1) := by decide +kernel
theorem dX8_readItem_35 : decode bX8_readItem 35 = .ok (.getfield 28, 3) := by decide +kernel
theorem dX8_readItem_38 : decode bX8_readItem 38 = .ok (.aload_n 0, 1) := by decide +kernel
theorem dX8_readItem_39 : decode bX8_readItem 39 = .ok (.getfield 19, 3) := by decide +kernel
theorem dX8_readItem_42 : decode bX8_readItem 42 = .ok (.if_icmp .ge 29, 3) := by decide +kernel
theorem dX8_readItem_45 : decode bX8_readItem 45 = .ok (.aload_n 0, 1) := by decide +kernel
theorem dX8_readItem_46 : decode bX8_readItem 46 = .ok (.getfield 9, 3) := by decide +kernel
theorem dX8_readItem_49 : decode bX8_readItem 49 = .ok (.aload_n 0, 1) := by decide +kernel
theorem dX8_readItem_50 : decode bX8_readItem 50 = .ok (.getfield 28, 3) := by decide +kernel
theorem dX8_readItem_53 : decode bX8_readItem 53 = .ok (.caload, 1) := by decide +kernel
theorem dX8_readItem_54 : decode bX8_readItem 54 = .ok (.iload_n 2, 1) := by decide +kernel
theorem dX8_readItem_55 : decode bX8_readItem 55 = .ok (.iload_n 1, 1) := by decide +kernel
theorem dX8_readItem_56 : decode bX8_readItem 56 = .ok (.iconst 1, 1) := by decide +kernel
theorem dX8_readItem_57 : decode bX8_readItem 57 = .ok (.isub, 1) := by decide +kernel
theorem dX8_readItem_58 : decode bX8_readItem 58 = .ok (.if_icmp .ge 8, 3) := by decide +kernel
theorem dX8_readItem_61 : decode bX8_readItem 61 = .ok (.bipush 44, 2) := by decide +kernel
theorem dX8_readItem_63 : decode bX8_readItem 63 = .ok (.goto 5, 3) := by decide +kernel
theorem dX8_readItem_66 : decode bX8_readItem 66 = .ok (.bipush 59, 2) := by decide +kernel
theorem dX8_readItem_68 : decode bX8_readItem 68 = .ok (.if_icmp .eq 5, 3) := by decide +kernel
theorem dX8_readItem_71 : decode bX8_readItem 71 = .ok (.iconst 0, 1) := by decide +kernel
theorem dX8_readItem_72 : decode bX8_readItem 72 = .ok (.ireturn, 1) := by decide +kernel
theorem dX8_readItem_73 : decode bX8_readItem 73 = .ok (.aload_n 0, 1) := by decide +kernel
theorem dX8_readItem_74 : decode bX8_readItem 74 = .ok (.dup, 1) := by decide +kernel
theorem dX8_readItem_75 : decode bX8_readItem 75 = .ok (.getfield 28, 3) := by decide +kernel
theorem dX8_readItem_78 : decode bX8_readItem 78 = .ok (.iconst 1, 1) := by decide +kernel
theorem dX8_readItem_79 : decode bX8_readItem 79 = .ok (.iadd, 1) := by decide +kernel
theorem dX8_readItem_80 : decode bX8_readItem 80 = .ok (.putfield 28, 3) := by decide +kernel
theorem dX8_readItem_83 : decode bX8_readItem 83 = .ok (.iinc 2 1, 3) := by decide +kernel
theorem dX8_readItem_86 : decode bX8_readItem 86 = .ok (.goto (-74), 3) := by decide +kernel
theorem dX8_readItem_89 : decode bX8_readItem 89 = .ok (.iload_n 1, 1) := by decide +kernel
theorem dX8_readItem_90 : decode bX8_readItem 90 = .ok (.ifCond .le 7, 3) := by decide +kernel
theorem dX8_readItem_93 : decode bX8_readItem 93 = .ok (.iconst 1, 1) := by decide +kernel
theorem dX8_readItem_94 : decode bX8_readItem 94 = .ok (.goto 4, 3) := by decide +kernel
theorem dX8_readItem_97 : decode bX8_readItem 97 = .ok (.iconst 0, 1) := by decide +kernel
theorem dX8_readItem_98 : decode bX8_readItem 98 = .ok (.ireturn, 1) := by decide +kernel
section
variable {p : Program} {l : Launch} {e : Env} {s : State} {m : MethodId} {args : Array Value} {below : List Frame} {meth : Method} {c : Code} {G : GG} {n : Nat} {h' : Hp} {rv : Int32}
set_option maxHeartbeats 4000000
set_option maxRecDepth 100000
theorem j_X8_readItem_89 (C0 : Cx p s m args meth c G bX8_readItem RX8 3 (some .boolean) "readItem") (hN : NX ≤ n) {H : Heap} {locs : List Loc} {ls : Array Slot} {h : Hp} {x1 : Int32} (X : XW G n h s 0 H locs) (hl : lv_has ls 3 [(1, .int x1)]) (hf : f_X8_readItem_89 h x1 = some (rv, h')) : W p l e (rmC 1 0 0) s m args below meth c H locs 0 0 (MQ below (QP G n h' (some (.int rv))) args s 0 0 (Ab G)) (F0 m 89 ls []) := by
  obtain ⟨hx, hb, hr, hml, hown, hts, hK, hlocks, hnm⟩ := id C0
  unfold f_X8_readItem_89 at hf
  refine lv_iload_n hx hb dX8_readItem_89 rfl (lv_at hl 0 rfl) ?_
  refine lv_if_le (tgt := 97) hx hb dX8_readItem_90 (by decide) (fun c90 => ?_) (fun c90 => ?_)
  · have hf := ite_t hf c90
    refine lv_iconst (v := (0 : Int32)) hx hb dX8_readItem_97 (by decide) ?_
    exact r_Z hx hb hr hlocks X rfl hf dX8_readItem_98
  · have hf := ite_f hf c90
    refine lv_iconst (v := (1 : Int32)) hx hb dX8_readItem_93 (by decide) ?_
    refine lv_goto (tgt := 98) hx hb dX8_readItem_94 (by decide) ?_
    exact r_Z hx hb hr hlocks X rfl hf dX8_readItem_98
theorem j_X8_readItem_68 (C0 : Cx p s m args meth c G bX8_readItem RX8 3 (some .boolean) "readItem") (hN : NX ≤ n) {k12 : Hp → Nat → Int32 → Int32 → Option (Int32 × Hp)} (ih12 : ∀ {H : Heap} {locs : List Loc} {ls : Array Slot} {h : Hp} {x0 : Nat} {x1 : Int32} {x2 : Int32}, XW G n h s 0 H locs → lv_has ls 3 [(0, .ref (bs G + x0)), (1, .int x1), (2, .int x2)] → kd x0 = 8 → k12 h x0 x1 x2 = some (rv, h') → W p l e (rmC 1 0 0) s m args below meth c H locs 0 0 (MQ below (QP G n h' (some (.int rv))) args s 0 0 (Ab G)) (F0 m 12 ls [])) {H : Heap} {locs : List Loc} {ls : Array Slot} {h : Hp} {x0 : Nat} {x1 : Int32} {x2 : Int32} {t0 : Int32} {t1 : Int32} (X : XW G n h s 0 H locs) (hl : lv_has ls 3 [(0, .ref (bs G + x0)), (1, .int x1), (2, .int x2)]) (o0 : kd x0 = 8) (hf : f_X8_readItem_68 k12 h x0 x1 x2 t0 t1 = some (rv, h')) : W p l e (rmC 1 0 0) s m args below meth c H locs 0 0 (MQ below (QP G n h' (some (.int rv))) args s 0 0 (Ab G)) (F0 m 68 ls [.int t1, .int t0]) := by
  obtain ⟨hx, hb, hr, hml, hown, hts, hK, hlocks, hnm⟩ := id C0
  unfold f_X8_readItem_68 at hf
  refine lv_icmp_eq (tgt := 73) hx hb dX8_readItem_68 (by decide) (fun c68 => ?_) (fun c68 => ?_)
  · have hf := ite_t hf c68
    refine lv_aload_n hx hb dX8_readItem_73 rfl (lv_at hl 0 rfl) ?_
    refine lv_dup hx hb dX8_readItem_74 rfl ?_
    refine g_I hx hb hts hown hK X o0 hN fl_X8_28 (by decide) rfl dX8_readItem_75 ?_
    refine lv_iconst (v := (1 : Int32)) hx hb dX8_readItem_78 (by decide) ?_
    refine lv_iadd hx hb dX8_readItem_79 ?_
    refine g_PI hx hb hts hown hK X o0 hN fl_X8_28 ft_8_3 (by decide) rfl dX8_readItem_80 (fun H locs X => ?_)
    obtain ⟨h1, e2, hf⟩ := lt_e hf
    rw [← e2] at X
    refine lv_iinc (v := (x2 + (1 : Int32))) (lv' := [(2, .int (x2 + (1 : Int32))), (0, .ref (bs G + x0)), (1, .int x1)]) hx hb dX8_readItem_83 hl (k := 2) rfl rfl (by decide) rfl (fun ls hl => ?_)
    refine lv_goto (tgt := 12) hx hb dX8_readItem_86 (by decide) ?_
    exact ih12 X (lv_sub hl [1, 2, 0] rfl) o0 hf
  · have hf := ite_f hf c68
    refine lv_iconst (v := (0 : Int32)) hx hb dX8_readItem_71 (by decide) ?_
    exact r_Z hx hb hr hlocks X rfl hf dX8_readItem_72
theorem j_X8_readItem_12 (C0 : Cx p s m args meth c G bX8_readItem RX8 3 (some .boolean) "readItem") (hN : NX ≤ n) : ∀ (fu : Nat), ∀ {H : Heap} {locs : List Loc} {ls : Array Slot} {h : Hp} {x0 : Nat} {x1 : Int32} {x2 : Int32}, XW G n h s 0 H locs → lv_has ls 3 [(0, .ref (bs G + x0)), (1, .int x1), (2, .int x2)] → kd x0 = 8 → f_X8_readItem_12 fu h x0 x1 x2 = some (rv, h') → W p l e (rmC 1 0 0) s m args below meth c H locs 0 0 (MQ below (QP G n h' (some (.int rv))) args s 0 0 (Ab G)) (F0 m 12 ls []) := by
  obtain ⟨hx, hb, hr, hml, hown, hts, hK, hlocks, hnm⟩ := id C0
  intro fu
  induction fu with
  | zero => intro H locs ls h x0 x1 x2 X hl o0 hf; cases hf
  | succ fu ih =>
    intro H locs ls h x0 x1 x2 X hl o0 hf
    rw [f_X8_readItem_12] at hf
    refine lv_iload_n hx hb dX8_readItem_12 rfl (lv_at hl 2 rfl) ?_
    refine lv_iload_n hx hb dX8_readItem_13 rfl (lv_at hl 1 rfl) ?_
    refine lv_icmp_ge (tgt := 89) hx hb dX8_readItem_14 (by decide) (fun c14 => ?_) (fun c14 => ?_)
    · have hf := ite_t hf c14
      exact j_X8_readItem_89 C0 hN X (lv_sub hl [1] rfl) hf
    · have hf := ite_f hf c14
      refine lv_iload_n hx hb dX8_readItem_17 rfl (lv_at hl 2 rfl) ?_
      refine lv_aload_n hx hb dX8_readItem_18 rfl (lv_at hl 0 rfl) ?_
      obtain ⟨g1, hf⟩ := gd_e hf
      refine g_R hx hb hts hown hK X o0 hN g1 fl_X8_15 (by decide) rfl (by decide) dX8_readItem_19 ?_
      refine g_al hx hb hK X g1 hN (by decide) dX8_readItem_22 ?_
      refine lv_icmp_ge (tgt := 89) hx hb dX8_readItem_23 (by decide) (fun c23 => ?_) (fun c23 => ?_)
      · have hf := ite_t hf c23
        exact j_X8_readItem_89 C0 hN X (lv_sub hl [1] rfl) hf
      · have hf := ite_f hf c23
        refine lv_aload_n hx hb dX8_readItem_26 rfl (lv_at hl 0 rfl) ?_
        refine lv_iload_n hx hb dX8_readItem_27 rfl (lv_at hl 2 rfl) ?_
        obtain ⟨r2, h3, q4, hf⟩ := bd_e hf
        refine c_V0 (As := [.int x2]) (rest := []) (st1 := [.int r2]) hx hb hml hown hts hK X (k_X8_readNumber l G n hN q4) o0 hN lc_X8_readNumber lv_X8_47 (ci := 8) rfl rfl (by decide) rfl hl.1 (Nat.le_of_ble_eq_true rfl) dX8_readItem_28 rfl (fun H locs X => ?_)
        refine lv_if_eq (tgt := 71) hx hb dX8_readItem_31 (by decide) (fun c31 => ?_) (fun c31 => ?_)
        · have hf := ite_t hf c31
          refine lv_iconst (v := (0 : Int32)) hx hb dX8_readItem_71 (by decide) ?_
          exact r_Z hx hb hr hlocks X rfl hf dX8_readItem_72
        · have hf := ite_f hf c31
          refine lv_aload_n hx hb dX8_readItem_34 rfl (lv_at hl 0 rfl) ?_
          refine g_I hx hb hts hown hK X o0 hN fl_X8_28 (by decide) rfl dX8_readItem_35 ?_
          refine lv_aload_n hx hb dX8_readItem_38 rfl (lv_at hl 0 rfl) ?_
          refine g_I hx hb hts hown hK X o0 hN fl_X8_19 (by decide) rfl dX8_readItem_39 ?_
          refine lv_icmp_ge (tgt := 71) hx hb dX8_readItem_42 (by decide) (fun c42 => ?_) (fun c42 => ?_)
          · have hf := ite_t hf c42
            refine lv_iconst (v := (0 : Int32)) hx hb dX8_readItem_71 (by decide) ?_
            exact r_Z hx hb hr hlocks X rfl hf dX8_readItem_72
          · have hf := ite_f hf c42
            refine lv_aload_n hx hb dX8_readItem_45 rfl (lv_at hl 0 rfl) ?_
            obtain ⟨g5, hf⟩ := gd_e hf
            refine g_R hx hb hts hown hK X o0 hN g5 fl_X8_9 (by decide) rfl (by decide) dX8_readItem_46 ?_
            refine lv_aload_n hx hb dX8_readItem_49 rfl (lv_at hl 0 rfl) ?_
            refine g_I hx hb hts hown hK X o0 hN fl_X8_28 (by decide) rfl dX8_readItem_50 ?_
            obtain ⟨g6, hf⟩ := gd_e hf
            refine g_ca hx hb hK X g5 hN g6 dX8_readItem_53 ?_
            refine lv_iload_n hx hb dX8_readItem_54 rfl (lv_at hl 2 rfl) ?_
            refine lv_iload_n hx hb dX8_readItem_55 rfl (lv_at hl 1 rfl) ?_
            refine lv_iconst (v := (1 : Int32)) hx hb dX8_readItem_56 (by decide) ?_
            refine lv_isub hx hb dX8_readItem_57 ?_
            refine lv_icmp_ge (tgt := 66) hx hb dX8_readItem_58 (by decide) (fun c58 => ?_) (fun c58 => ?_)
            · have hf := ite_t hf c58
              refine lv_bipush (v := (59 : Int32)) hx hb dX8_readItem_66 (by decide) ?_
              exact j_X8_readItem_68 C0 hN @ih X (lv_sub hl [0, 1, 2] rfl) o0 hf
            · have hf := ite_f hf c58
              refine lv_bipush (v := (44 : Int32)) hx hb dX8_readItem_61 (by decide) ?_
              refine lv_goto (tgt := 68) hx hb dX8_readItem_63 (by decide) ?_
              exact j_X8_readItem_68 C0 hN @ih X (lv_sub hl [0, 1, 2] rfl) o0 hf
theorem k_X8_readItem (l : Launch) (G : GG) (n : Nat) (hN : NX ≤ n) {h h' : Hp} {x0 : Nat} {x1 : Int32} {rv : Int32} (hf : f_X8_readItem h x0 x1 = some (rv, h')) : CT l G n n yX8_readItem (.code yX8_readItem bX8_readItem 3 (some .boolean)) 1 0 0 [.ref (bs G + x0), .int x1] h h' (some (.int rv)) := by
  refine ct_of (maxL := 3) (ret := (some .boolean)) (bytes := bX8_readItem) (by decide) (Nat.le_of_ble_eq_true rfl) (fun p e s m below meth c C0 X ls hl => ?_)
  have hl : lv_has ls 3 [(0, .ref (bs G + x0)), (1, .int x1)] := hl
  obtain ⟨hx, hb, hr, hml, hown, hts, hK, hlocks, hnm⟩ := id C0
  unfold f_X8_readItem at hf
  obtain ⟨o0, hf⟩ := gd_e hf
  refine lv_aload_n hx hb dX8_readItem_0 rfl (lv_at hl 0 rfl) ?_
  refine lv_dup hx hb dX8_readItem_1 rfl ?_
  refine g_I hx hb hts hown hK X o0 hN fl_X8_28 (by decide) rfl dX8_readItem_2 ?_
  refine lv_iconst (v := (1 : Int32)) hx hb dX8_readItem_5 (by decide) ?_
  refine lv_iadd hx hb dX8_readItem_6 ?_
  refine g_PI hx hb hts hown hK X o0 hN fl_X8_28 ft_8_3 (by decide) rfl dX8_readItem_7 (fun H locs X => ?_)
  obtain ⟨h1, e2, hf⟩ := lt_e hf
  rw [← e2] at X
  refine lv_iconst (v := (0 : Int32)) hx hb dX8_readItem_10 (by decide) ?_
  refine lv_istore_n (lv' := [(2, .int (0 : Int32)), (0, .ref (bs G + x0)), (1, .int x1)]) hx hb dX8_readItem_11 rfl hl (by decide) rfl (fun ls hl => ?_)
  exact j_X8_readItem_12 C0 hN FU X (lv_sub hl [1, 2, 0] rfl) o0 hf
end
theorem dX8_readInto_0 : decode bX8_readInto 0 = .ok (.aload_n 1, 1) := by decide +kernel
theorem dX8_readInto_1 : decode bX8_readInto 1 = .ok (.invokevirtual 23, 3) := by decide +kernel
theorem dX8_readInto_4 : decode bX8_readInto 4 = .ok (.aload_n 0, 1) := by decide +kernel
theorem dX8_readInto_5 : decode bX8_readInto 5 = .ok (.iconst 0, 1) := by decide +kernel
theorem dX8_readInto_6 : decode bX8_readInto 6 = .ok (.putfield 28, 3) := by decide +kernel
theorem dX8_readInto_9 : decode bX8_readInto 9 = .ok (.aload_n 0, 1) := by decide +kernel
theorem dX8_readInto_10 : decode bX8_readInto 10 = .ok (.iconst 1, 1) := by decide +kernel
theorem dX8_readInto_11 : decode bX8_readInto 11 = .ok (.putfield 31, 3) := by decide +kernel
theorem dX8_readInto_14 : decode bX8_readInto 14 = .ok (.iconst 0, 1) := by decide +kernel
theorem dX8_readInto_15 : decode bX8_readInto 15 = .ok (.istore_n 2, 1) := by decide +kernel
theorem dX8_readInto_16 : decode bX8_readInto 16 = .ok (.iload_n 2, 1) := by decide +kernel
theorem dX8_readInto_17 : decode bX8_readInto 17 = .ok (.sipush 200, 3) := by decide +kernel
theorem dX8_readInto_20 : decode bX8_readInto 20 = .ok (.if_icmp .ge 80, 3) := by decide +kernel
theorem dX8_readInto_23 : decode bX8_readInto 23 = .ok (.aload_n 0, 1) := by decide +kernel
theorem dX8_readInto_24 : decode bX8_readInto 24 = .ok (.getfield 28, 3) := by decide +kernel
theorem dX8_readInto_27 : decode bX8_readInto 27 = .ok (.aload_n 0, 1) := by decide +kernel
theorem dX8_readInto_28 : decode bX8_readInto 28 = .ok (.getfield 19, 3) := by decide +kernel
theorem dX8_readInto_31 : decode bX8_readInto 31 = .ok (.if_icmp .ge 69, 3) := by decide +kernel
theorem dX8_readInto_34 : decode bX8_readInto 34 = .ok (.aload_n 0, 1) := by decide +kernel
theorem dX8_readInto_35 : decode bX8_readInto 35 = .ok (.getfield 28, 3) := by decide +kernel
theorem dX8_readInto_38 : decode bX8_readInto 38 = .ok (.istore_n 3, 1) := by decide +kernel
theorem dX8_readInto_39 : decode bX8_readInto 39 = .ok (.aload_n 0, 1) := by decide +kernel
theorem dX8_readInto_40 : decode bX8_readInto 40 = .ok (.getfield 9, 3) := by decide +kernel
theorem dX8_readInto_43 : decode bX8_readInto 43 = .ok (.iload_n 3, 1) := by decide +kernel
theorem dX8_readInto_44 : decode bX8_readInto 44 = .ok (.caload, 1) := by decide +kernel
theorem dX8_readInto_45 : decode bX8_readInto 45 = .ok (.istore 4, 2) := by decide +kernel
theorem dX8_readInto_47 : decode bX8_readInto 47 = .ok (.aload_n 0, 1) := by decide +kernel
theorem dX8_readInto_48 : decode bX8_readInto 48 = .ok (.iload 4, 2) := by decide +kernel
theorem dX8_readInto_50 : decode bX8_readInto 50 = .ok (.invokestatic 35, 3) := by decide +kernel
theorem dX8_readInto_53 : decode bX8_readInto 53 = .ok (.invokevirtual 39, 3) := by decide +kernel
theorem dX8_readInto_56 : decode bX8_readInto 56 = .ok (.ifCond .eq 13, 3) := by decide +kernel
theorem dX8_readInto_59 : decode bX8_readInto 59 = .ok (.aload_n 0, 1) := by decide +kernel
theorem dX8_readInto_60 : decode bX8_readInto 60 = .ok (.iload 4, 2) := by decide +kernel
theorem dX8_readInto_62 : decode bX8_readInto 62 = .ok (.aload_n 1, 1) := by decide +kernel
theorem dX8_readInto_63 : decode bX8_readInto 63 = .ok (.invokevirtual 43, 3) := by decide +kernel
theorem dX8_readInto_66 : decode bX8_readInto 66 = .ok (.ifCond .ne 5, 3) := by decide +kernel
theorem dX8_readInto_69 : decode bX8_readInto 69 = .ok (.iload_n 3, 1) := by decide +kernel
theorem dX8_readInto_70 : decode bX8_readInto 70 = .ok (.ireturn, 1) := by decide +kernel
theorem dX8_readInto_71 : decode bX8_readInto 71 = .ok (.aload_n 0, 1) := by decide +kernel
theorem dX8_readInto_72 : decode bX8_readInto 72 = .ok (.aload_n 0, 1) := by decide +kernel
theorem dX8_readInto_73 : decode bX8_readInto 73 = .ok (.getfield 31, 3) := by decide +kernel
theorem dX8_readInto_76 : decode bX8_readInto 76 = .ok (.ifCond .eq 14, 3) := by decide +kernel
theorem dX8_readInto_79 : decode bX8_readInto 79 = .ok (.iload 4, 2) := by decide +kernel
theorem dX8_readInto_81 : decode bX8_readInto 81 = .ok (.bipush 110, 2) := by decide +kernel
theorem dX8_readInto_83 : decode bX8_readInto 83 = .ok (.if_icmp .ne 7, 3) := by decide +kernel
theorem dX8_readInto_86 : decode bX8_readInto 86 = .ok (.iconst 1, 1) := by decide +kernel
theorem dX8_readInto_87 : decode bX8_readInto 87 = .ok (.goto 4, 3) := by decide +kernel
theorem dX8_readInto_90 : decode bX8_readInto 90 = .ok (.iconst 0, 1) := by decide +kernel
theorem dX8_readInto_91 : decode bX8_readInto 91 = .ok (.putfield 31, 3) := by decide +kernel
theorem dX8_readInto_94 : decode bX8_readInto 94 = .ok (.iinc 2 1, 3) := by decide +kernel
theorem dX8_readInto_97 : decode bX8_readInto 97 = .ok (.goto (-81), 3) := by decide +kernel
theorem dX8_readInto_100 : decode bX8_readInto 100 = .ok (.bipush (-4), 2) := by decide +kernel
theorem dX8_readInto_102 : decode bX8_readInto 102 = .ok (.ireturn, 1) := by decide +kernel
section
variable {p : Program} {l : Launch} {e : Env} {s : State} {m : MethodId} {args : Array Value} {below : List Frame} {meth : Method} {c : Code} {G : GG} {n : Nat} {h' : Hp} {rv : Int32}
set_option maxHeartbeats 4000000
set_option maxRecDepth 100000
theorem j_X8_readInto_91 (C0 : Cx p s m args meth c G bX8_readInto RX8 5 (some .int) "readInto") (hN : NX ≤ n) {k16 : Hp → Nat → Nat → Int32 → Option (Int32 × Hp)} (ih16 : ∀ {H : Heap} {locs : List Loc} {ls : Array Slot} {h : Hp} {x0 : Nat} {x1 : Nat} {x2 : Int32}, XW G n h s 0 H locs → lv_has ls 5 [(0, .ref (bs G + x0)), (1, .ref (bs G + x1)), (2, .int x2)] → kd x0 = 8 → kd x1 = 4 → k16 h x0 x1 x2 = some (rv, h') → W p l e (rmC 3 0 0) s m args below meth c H locs 0 0 (MQ below (QP G n h' (some (.int rv))) args s 0 0 (Ab G)) (F0 m 16 ls [])) {H : Heap} {locs : List Loc} {ls : Array Slot} {h : Hp} {x0 : Nat} {x1 : Nat} {x2 : Int32} {t0 : Nat} {t1 : Int32} (X : XW G n h s 0 H locs) (hl : lv_has ls 5 [(0, .ref (bs G + x0)), (1, .ref (bs G + x1)), (2, .int x2)]) (o0 : kd x0 = 8) (o1 : kd x1 = 4) (ot0 : kd t0 = 8) (hf : f_X8_readInto_91 k16 h x0 x1 x2 t0 t1 = some (rv, h')) : W p l e (rmC 3 0 0) s m args below meth c H locs 0 0 (MQ below (QP G n h' (some (.int rv))) args s 0 0 (Ab G)) (F0 m 91 ls [.int t1, .ref (bs G + t0)]) := by
  obtain ⟨hx, hb, hr, hml, hown, hts, hK, hlocks, hnm⟩ := id C0
  unfold f_X8_readInto_91 at hf
  obtain ⟨g1, hf⟩ := gd_e hf
  refine g_PZ hx hb hts hown hK X g1 ot0 hN fl_X8_31 ft_8_4 (by decide) rfl dX8_readInto_91 (fun H locs X => ?_)
  obtain ⟨h2, e3, hf⟩ := lt_e hf
  rw [← e3] at X
  refine lv_iinc (v := (x2 + (1 : Int32))) (lv' := [(2, .int (x2 + (1 : Int32))), (0, .ref (bs G + x0)), (1, .ref (bs G + x1))]) hx hb dX8_readInto_94 hl (k := 2) rfl rfl (by decide) rfl (fun ls hl => ?_)
  refine lv_goto (tgt := 16) hx hb dX8_readInto_97 (by decide) ?_
  exact ih16 X (lv_sub hl [1, 2, 0] rfl) o0 o1 hf
theorem j_X8_readInto_90 (C0 : Cx p s m args meth c G bX8_readInto RX8 5 (some .int) "readInto") (hN : NX ≤ n) {k16 : Hp → Nat → Nat → Int32 → Option (Int32 × Hp)} (ih16 : ∀ {H : Heap} {locs : List Loc} {ls : Array Slot} {h : Hp} {x0 : Nat} {x1 : Nat} {x2 : Int32}, XW G n h s 0 H locs → lv_has ls 5 [(0, .ref (bs G + x0)), (1, .ref (bs G + x1)), (2, .int x2)] → kd x0 = 8 → kd x1 = 4 → k16 h x0 x1 x2 = some (rv, h') → W p l e (rmC 3 0 0) s m args below meth c H locs 0 0 (MQ below (QP G n h' (some (.int rv))) args s 0 0 (Ab G)) (F0 m 16 ls [])) {H : Heap} {locs : List Loc} {ls : Array Slot} {h : Hp} {x0 : Nat} {x1 : Nat} {x2 : Int32} {t0 : Nat} (X : XW G n h s 0 H locs) (hl : lv_has ls 5 [(0, .ref (bs G + x0)), (1, .ref (bs G + x1)), (2, .int x2)]) (o0 : kd x0 = 8) (o1 : kd x1 = 4) (ot0 : kd t0 = 8) (hf : f_X8_readInto_90 k16 h x0 x1 x2 t0 = some (rv, h')) : W p l e (rmC 3 0 0) s m args below meth c H locs 0 0 (MQ below (QP G n h' (some (.int rv))) args s 0 0 (Ab G)) (F0 m 90 ls [.ref (bs G + t0)]) := by
  obtain ⟨hx, hb, hr, hml, hown, hts, hK, hlocks, hnm⟩ := id C0
  unfold f_X8_readInto_90 at hf
  refine lv_iconst (v := (0 : Int32)) hx hb dX8_readInto_90 (by decide) ?_
  exact j_X8_readInto_91 C0 hN @ih16 X (lv_sub hl [0, 1, 2] rfl) o0 o1 ot0 hf
theorem j_X8_readInto_16 (C0 : Cx p s m args meth c G bX8_readInto RX8 5 (some .int) "readInto") (hN : NX ≤ n) : ∀ (fu : Nat), ∀ {H : Heap} {locs : List Loc} {ls : Array Slot} {h : Hp} {x0 : Nat} {x1 : Nat} {x2 : Int32}, XW G n h s 0 H locs → lv_has ls 5 [(0, .ref (bs G + x0)), (1, .ref (bs G + x1)), (2, .int x2)] → kd x0 = 8 → kd x1 = 4 → f_X8_readInto_16 fu h x0 x1 x2 = some (rv, h') → W p l e (rmC 3 0 0) s m args below meth c H locs 0 0 (MQ below (QP G n h' (some (.int rv))) args s 0 0 (Ab G)) (F0 m 16 ls []) := by
  obtain ⟨hx, hb, hr, hml, hown, hts, hK, hlocks, hnm⟩ := id C0
  intro fu
  induction fu with
  | zero => intro H locs ls h x0 x1 x2 X hl o0 o1 hf; cases hf
  | succ fu ih =>
    intro H locs ls h x0 x1 x2 X hl o0 o1 hf
    rw [f_X8_readInto_16] at hf
    refine lv_iload_n hx hb dX8_readInto_16 rfl (lv_at hl 2 rfl) ?_
    refine lv_sipush (v := (200 : Int32)) hx hb dX8_readInto_17 (by decide) ?_
    refine lv_icmp_ge (tgt := 100) hx hb dX8_readInto_20 (by decide) (fun c20 => ?_) (fun c20 => ?_)
    · have hf := ite_t hf c20
      refine lv_bipush (v := (-4 : Int32)) hx hb dX8_readInto_100 (by decide) ?_
      exact r_I hx hb hr hlocks X hf dX8_readInto_102
    · have hf := ite_f hf c20
      refine lv_aload_n hx hb dX8_readInto_23 rfl (lv_at hl 0 rfl) ?_
      refine g_I hx hb hts hown hK X o0 hN fl_X8_28 (by decide) rfl dX8_readInto_24 ?_
      refine lv_aload_n hx hb dX8_readInto_27 rfl (lv_at hl 0 rfl) ?_
      refine g_I hx hb hts hown hK X o0 hN fl_X8_19 (by decide) rfl dX8_readInto_28 ?_
      refine lv_icmp_ge (tgt := 100) hx hb dX8_readInto_31 (by decide) (fun c31 => ?_) (fun c31 => ?_)
      · have hf := ite_t hf c31
        refine lv_bipush (v := (-4 : Int32)) hx hb dX8_readInto_100 (by decide) ?_
        exact r_I hx hb hr hlocks X hf dX8_readInto_102
      · have hf := ite_f hf c31
        refine lv_aload_n hx hb dX8_readInto_34 rfl (lv_at hl 0 rfl) ?_
        refine g_I hx hb hts hown hK X o0 hN fl_X8_28 (by decide) rfl dX8_readInto_35 ?_
        refine lv_istore_n (lv' := [(3, .int (h.1 x0 3)), (0, .ref (bs G + x0)), (1, .ref (bs G + x1)), (2, .int x2)]) hx hb dX8_readInto_38 rfl hl (by decide) rfl (fun ls hl => ?_)
        refine lv_aload_n hx hb dX8_readInto_39 rfl (lv_at hl 1 rfl) ?_
        obtain ⟨g1, hf⟩ := gd_e hf
        refine g_R hx hb hts hown hK X o0 hN g1 fl_X8_9 (by decide) rfl (by decide) dX8_readInto_40 ?_
        refine lv_iload_n hx hb dX8_readInto_43 rfl (lv_at hl 0 rfl) ?_
        obtain ⟨g2, hf⟩ := gd_e hf
        refine g_ca hx hb hK X g1 hN g2 dX8_readInto_44 ?_
        refine lv_istore (lv' := [(4, .int (h.1 (h.2 x0 1) (h.1 x0 3).toNatClampNeg)), (3, .int (h.1 x0 3)), (0, .ref (bs G + x0)), (1, .ref (bs G + x1)), (2, .int x2)]) hx hb dX8_readInto_45 hl (by decide) rfl (fun ls hl => ?_)
        refine lv_aload_n hx hb dX8_readInto_47 rfl (lv_at hl 2 rfl) ?_
        refine lv_iload hx hb dX8_readInto_48 (lv_at hl 0 rfl) ?_
        obtain ⟨r3, h4, q5, hf⟩ := bd_e hf
        refine c_S0 (As := [.int (h.1 (h.2 x0 1) (h.1 x0 3).toNatClampNeg)]) (rest := [.ref (bs G + x0)]) (st1 := [.int r3, .ref (bs G + x0)]) hx hb hml hown hts hK X (k_X8_numbersBehind l G n hN q5) lc_X8_numbersBehind ls_X8_35 (by decide) rfl hl.1 (Nat.le_of_ble_eq_true rfl) dX8_readInto_50 rfl (fun H locs X => ?_)
        obtain ⟨r6, h7, q8, hf⟩ := bd_e hf
        refine c_V0 (As := [.int r3]) (rest := []) (st1 := [.int r6]) hx hb hml hown hts hK X (k_X8_readItem l G n hN q8) o0 hN lc_X8_readItem lv_X8_39 (ci := 8) rfl rfl (by decide) rfl hl.1 (Nat.le_of_ble_eq_true rfl) dX8_readInto_53 rfl (fun H locs X => ?_)
        refine lv_if_eq (tgt := 69) hx hb dX8_readInto_56 (by decide) (fun c56 => ?_) (fun c56 => ?_)
        · have hf := ite_t hf c56
          refine lv_iload_n hx hb dX8_readInto_69 rfl (lv_at hl 1 rfl) ?_
          exact r_I hx hb hr hlocks X hf dX8_readInto_70
        · have hf := ite_f hf c56
          refine lv_aload_n hx hb dX8_readInto_59 rfl (lv_at hl 2 rfl) ?_
          refine lv_iload hx hb dX8_readInto_60 (lv_at hl 0 rfl) ?_
          refine lv_aload_n hx hb dX8_readInto_62 rfl (lv_at hl 3 rfl) ?_
          obtain ⟨r9, h10, q11, hf⟩ := bd_e hf
          refine c_V0 (As := [.int (h.1 (h.2 x0 1) (h.1 x0 3).toNatClampNeg), .ref (bs G + x1)]) (rest := []) (st1 := [.int r9]) hx hb hml hown hts hK X (k_X8_accept l G n hN q11) o0 hN lc_X8_accept lv_X8_43 (ci := 8) rfl rfl (by decide) rfl hl.1 (Nat.le_of_ble_eq_true rfl) dX8_readInto_63 rfl (fun H locs X => ?_)
          refine lv_if_ne (tgt := 71) hx hb dX8_readInto_66 (by decide) (fun c66 => ?_) (fun c66 => ?_)
          · have hf := ite_f hf c66
            refine lv_aload_n hx hb dX8_readInto_71 rfl (lv_at hl 2 rfl) ?_
            refine lv_aload_n hx hb dX8_readInto_72 rfl (lv_at hl 2 rfl) ?_
            refine g_I hx hb hts hown hK X o0 hN fl_X8_31 (by decide) rfl dX8_readInto_73 ?_
            refine lv_if_eq (tgt := 90) hx hb dX8_readInto_76 (by decide) (fun c76 => ?_) (fun c76 => ?_)
            · have hf := ite_t hf c76
              exact j_X8_readInto_90 C0 hN @ih X (lv_sub hl [2, 3, 4] rfl) o0 o1 o0 hf
            · have hf := ite_f hf c76
              refine lv_iload hx hb dX8_readInto_79 (lv_at hl 0 rfl) ?_
              refine lv_bipush (v := (110 : Int32)) hx hb dX8_readInto_81 (by decide) ?_
              refine lv_icmp_ne (tgt := 90) hx hb dX8_readInto_83 (by decide) (fun c83 => ?_) (fun c83 => ?_)
              · have hf := ite_f hf c83
                exact j_X8_readInto_90 C0 hN @ih X (lv_sub hl [2, 3, 4] rfl) o0 o1 o0 hf
              · have hf := ite_t hf c83
                refine lv_iconst (v := (1 : Int32)) hx hb dX8_readInto_86 (by decide) ?_
                refine lv_goto (tgt := 91) hx hb dX8_readInto_87 (by decide) ?_
                exact j_X8_readInto_91 C0 hN @ih X (lv_sub hl [2, 3, 4] rfl) o0 o1 o0 hf
          · have hf := ite_t hf c66
            refine lv_iload_n hx hb dX8_readInto_69 rfl (lv_at hl 1 rfl) ?_
            exact r_I hx hb hr hlocks X hf dX8_readInto_70
theorem k_X8_readInto (l : Launch) (G : GG) (n : Nat) (hN : NX ≤ n) {h h' : Hp} {x0 : Nat} {x1 : Nat} {rv : Int32} (hf : f_X8_readInto h x0 x1 = some (rv, h')) : CT l G n n yX8_readInto (.code yX8_readInto bX8_readInto 5 (some .int)) 3 0 0 [.ref (bs G + x0), .ref (bs G + x1)] h h' (some (.int rv)) := by
  refine ct_of (maxL := 5) (ret := (some .int)) (bytes := bX8_readInto) (by decide) (Nat.le_of_ble_eq_true rfl) (fun p e s m below meth c C0 X ls hl => ?_)
  have hl : lv_has ls 5 [(0, .ref (bs G + x0)), (1, .ref (bs G + x1))] := hl
  obtain ⟨hx, hb, hr, hml, hown, hts, hK, hlocks, hnm⟩ := id C0
  unfold f_X8_readInto at hf
  obtain ⟨o0, hf⟩ := gd_e hf
  obtain ⟨o1, hf⟩ := gd_e hf
  refine lv_aload_n hx hb dX8_readInto_0 rfl (lv_at hl 1 rfl) ?_
  obtain ⟨r1, h2, q3, hf⟩ := bd_e hf
  refine c_V0 (As := []) (rest := []) (st1 := []) hx hb hml hown hts hK X (k_X4_clear l G n hN q3) o1 hN lc_X4_clear lv_X8_23 (ci := 4) rfl rfl (by decide) rfl hl.1 (Nat.le_of_ble_eq_true rfl) dX8_readInto_1 rfl (fun H locs X => ?_)
  refine lv_aload_n hx hb dX8_readInto_4 rfl (lv_at hl 0 rfl) ?_
  refine lv_iconst (v := (0 : Int32)) hx hb dX8_readInto_5 (by decide) ?_
  refine g_PI hx hb hts hown hK X o0 hN fl_X8_28 ft_8_3 (by decide) rfl dX8_readInto_6 (fun H locs X => ?_)
  obtain ⟨h4, e5, hf⟩ := lt_e hf
  rw [← e5] at X
  refine lv_aload_n hx hb dX8_readInto_9 rfl (lv_at hl 0 rfl) ?_
  refine lv_iconst (v := (1 : Int32)) hx hb dX8_readInto_10 (by decide) ?_
  refine g_PZ hx hb hts hown hK X (Or.inr rfl) o0 hN fl_X8_31 ft_8_4 (by decide) rfl dX8_readInto_11 (fun H locs X => ?_)
  obtain ⟨h6, e7, hf⟩ := lt_e hf
  rw [← e7] at X
  refine lv_iconst (v := (0 : Int32)) hx hb dX8_readInto_14 (by decide) ?_
  refine lv_istore_n (lv' := [(2, .int (0 : Int32)), (0, .ref (bs G + x0)), (1, .ref (bs G + x1))]) hx hb dX8_readInto_15 rfl hl (by decide) rfl (fun ls hl => ?_)
  exact j_X8_readInto_16 C0 hN FU X (lv_sub hl [1, 2, 0] rfl) o0 o1 hf
end
theorem dX10_append_0 : decode bX10_append 0 = .ok (.aload_n 0, 1) := by decide +kernel
theorem dX10_append_1 : decode bX10_append 1 = .ok (.getfield 18, 3) := by decide +kernel
theorem dX10_append_4 : decode bX10_append 4 = .ok (.bipush 10, 2) := by decide +kernel
theorem dX10_append_6 : decode bX10_append 6 = .ok (.if_icmp .lt 5, 3) := by decide +kernel
theorem dX10_append_9 : decode bX10_append 9 = .ok (.iconst 0, 1) := by decide +kernel
theorem dX10_append_10 : decode bX10_append 10 = .ok (.ireturn, 1) := by decide +kernel
theorem dX10_append_11 : decode bX10_append 11 = .ok (.aload_n 0, 1) := by decide +kernel
theorem dX10_append_12 : decode bX10_append 12 = .ok (.getfield 9, 3) := by decide +kernel
theorem dX10_append_15 : decode bX10_append 15 = .ok (.aload_n 0, 1) := by decide +kernel
theorem dX10_append_16 : decode bX10_append 16 = .ok (.getfield 18, 3) := by decide +kernel
theorem dX10_append_19 : decode bX10_append 19 = .ok (.iload_n 1, 1) := by decide +kernel
theorem dX10_append_20 : decode bX10_append 20 = .ok (.iastore, 1) := by decide +kernel
theorem dX10_append_21 : decode bX10_append 21 = .ok (.aload_n 0, 1) := by decide +kernel
theorem dX10_append_22 : decode bX10_append 22 = .ok (.getfield 15, 3) := by decide +kernel
theorem dX10_append_25 : decode bX10_append 25 = .ok (.aload_n 0, 1) := by decide +kernel
theorem dX10_append_26 : decode bX10_append 26 = .ok (.getfield 18, 3) := by decide +kernel
theorem dX10_append_29 : decode bX10_append 29 = .ok (.iload_n 2, 1) := by decide +kernel
theorem dX10_append_30 : decode bX10_append 30 = .ok (.iastore, 1) := by decide +kernel
theorem dX10_append_31 : decode bX10_append 31 = .ok (.aload_n 0, 1) := by decide +kernel
theorem dX10_append_32 : decode bX10_append 32 = .ok (.dup, 1) := by decide +kernel
theorem dX10_append_33 : decode bX10_append 33 = .ok (.getfield 18, 3) := by decide +kernel
theorem dX10_append_36 : decode bX10_append 36 = .ok (.iconst 1, 1) := by decide +kernel
theorem dX10_append_37 : decode bX10_append 37 = .ok (.iadd, 1) := by decide +kernel
theorem dX10_append_38 : decode bX10_append 38 = .ok (.putfield 18, 3) := by decide +kernel
theorem dX10_append_41 : decode bX10_append 41 = .ok (.iconst 1, 1) := by decide +kernel
theorem dX10_append_42 : decode bX10_append 42 = .ok (.ireturn, 1) := by decide +kernel
section
variable {p : Program} {l : Launch} {e : Env} {s : State} {m : MethodId} {args : Array Value} {below : List Frame} {meth : Method} {c : Code} {G : GG} {n : Nat} {h' : Hp} {rv : Int32}
set_option maxHeartbeats 4000000
set_option maxRecDepth 100000
theorem k_X10_append (l : Launch) (G : GG) (n : Nat) (hN : NX ≤ n) {h h' : Hp} {x0 : Nat} {x1 : Int32} {x2 : Int32} {rv : Int32} (hf : f_X10_append h x0 x1 x2 = some (rv, h')) : CT l G n n yX10_append (.code yX10_append bX10_append 3 (some .boolean)) 0 0 0 [.ref (bs G + x0), .int x1, .int x2] h h' (some (.int rv)) := by
  refine ct_of (maxL := 3) (ret := (some .boolean)) (bytes := bX10_append) (by decide) (Nat.le_of_ble_eq_true rfl) (fun p e s m below meth c C0 X ls hl => ?_)
  have hl : lv_has ls 3 [(0, .ref (bs G + x0)), (1, .int x1), (2, .int x2)] := hl
  obtain ⟨hx, hb, hr, hml, hown, hts, hK, hlocks, hnm⟩ := id C0
  unfold f_X10_append at hf
  obtain ⟨o0, hf⟩ := gd_e hf
  refine lv_aload_n hx hb dX10_append_0 rfl (lv_at hl 0 rfl) ?_
  refine g_I hx hb hts hown hK X o0 hN fl_X10_18 (by decide) rfl dX10_append_1 ?_
  refine lv_bipush (v := (10 : Int32)) hx hb dX10_append_4 (by decide) ?_
  refine lv_icmp_lt (tgt := 11) hx hb dX10_append_6 (by decide) (fun c6 => ?_) (fun c6 => ?_)
  · have hf := ite_t hf c6
    refine lv_aload_n hx hb dX10_append_11 rfl (lv_at hl 0 rfl) ?_
    obtain ⟨g1, hf⟩ := gd_e hf
    refine g_R hx hb hts hown hK X o0 hN g1 fl_X10_9 (by decide) rfl (by decide) dX10_append_12 ?_
    refine lv_aload_n hx hb dX10_append_15 rfl (lv_at hl 0 rfl) ?_
    refine g_I hx hb hts hown hK X o0 hN fl_X10_18 (by decide) rfl dX10_append_16 ?_
    refine lv_iload_n hx hb dX10_append_19 rfl (lv_at hl 1 rfl) ?_
    obtain ⟨g2, hf⟩ := gd_e hf
    refine g_is hx hb hK X g1 hN g2 (by decide) dX10_append_20 (fun H locs X => ?_)
    obtain ⟨h3, e4, hf⟩ := lt_e hf
    rw [← e4] at X
    refine lv_aload_n hx hb dX10_append_21 rfl (lv_at hl 0 rfl) ?_
    obtain ⟨g5, hf⟩ := gd_e hf
    refine g_R hx hb hts hown hK X o0 hN g5 fl_X10_15 (by decide) rfl (by decide) dX10_append_22 ?_
    refine lv_aload_n hx hb dX10_append_25 rfl (lv_at hl 0 rfl) ?_
    refine g_I hx hb hts hown hK X o0 hN fl_X10_18 (by decide) rfl dX10_append_26 ?_
    refine lv_iload_n hx hb dX10_append_29 rfl (lv_at hl 2 rfl) ?_
    obtain ⟨g6, hf⟩ := gd_e hf
    refine g_is hx hb hK X g5 hN g6 (by decide) dX10_append_30 (fun H locs X => ?_)
    obtain ⟨h7, e8, hf⟩ := lt_e hf
    rw [← e8] at X
    refine lv_aload_n hx hb dX10_append_31 rfl (lv_at hl 0 rfl) ?_
    refine lv_dup hx hb dX10_append_32 rfl ?_
    refine g_I hx hb hts hown hK X o0 hN fl_X10_18 (by decide) rfl dX10_append_33 ?_
    refine lv_iconst (v := (1 : Int32)) hx hb dX10_append_36 (by decide) ?_
    refine lv_iadd hx hb dX10_append_37 ?_
    refine g_PI hx hb hts hown hK X o0 hN fl_X10_18 ft_10_0 (by decide) rfl dX10_append_38 (fun H locs X => ?_)
    obtain ⟨h9, e10, hf⟩ := lt_e hf
    rw [← e10] at X
    refine lv_iconst (v := (1 : Int32)) hx hb dX10_append_41 (by decide) ?_
    exact r_Z hx hb hr hlocks X rfl hf dX10_append_42
  · have hf := ite_f hf c6
    refine lv_iconst (v := (0 : Int32)) hx hb dX10_append_9 (by decide) ?_
    exact r_Z hx hb hr hlocks X rfl hf dX10_append_10
end
