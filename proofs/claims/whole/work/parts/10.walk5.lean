theorem dX10_set_0 : decode bX10_set 0 = .ok (.iconst 0, 1) := by decide +kernel
theorem dX10_set_1 : decode bX10_set 1 = .ok (.istore_n 1, 1) := by decide +kernel
theorem dX10_set_2 : decode bX10_set 2 = .ok (.iconst 0, 1) := by decide +kernel
theorem dX10_set_3 : decode bX10_set 3 = .ok (.istore_n 2, 1) := by decide +kernel
theorem dX10_set_4 : decode bX10_set 4 = .ok (.iload_n 2, 1) := by decide +kernel
theorem dX10_set_5 : decode bX10_set 5 = .ok (.aload_n 0, 1) := by decide +kernel
theorem dX10_set_6 : decode bX10_set 6 = .ok (.getfield 18, 3) := by decide +kernel
theorem dX10_set_9 : decode bX10_set 9 = .ok (.if_icmp .ge 22, 3) := by decide +kernel
theorem dX10_set_12 : decode bX10_set 12 = .ok (.iload_n 1, 1) := by decide +kernel
theorem dX10_set_13 : decode bX10_set 13 = .ok (.iconst 1, 1) := by decide +kernel
theorem dX10_set_14 : decode bX10_set 14 = .ok (.aload_n 0, 1) := by decide +kernel
theorem dX10_set_15 : decode bX10_set 15 = .ok (.getfield 9, 3) := by decide +kernel
theorem dX10_set_18 : decode bX10_set 18 = .ok (.iload_n 2, 1) := by decide +kernel
theorem dX10_set_19 : decode bX10_set 19 = .ok (.iaload, 1) := by decide +kernel
theorem dX10_set_20 : decode bX10_set 20 = .ok (.iconst 1, 1) := by decide +kernel
theorem dX10_set_21 : decode bX10_set 21 = .ok (.isub, 1) := by decide +kernel
theorem dX10_set_22 : decode bX10_set 22 = .ok (.ishl, 1) := by decide +kernel
theorem dX10_set_23 : decode bX10_set 23 = .ok (.ior, 1) := by decide +kernel
theorem dX10_set_24 : decode bX10_set 24 = .ok (.istore_n 1, 1) := by decide +kernel
theorem dX10_set_25 : decode bX10_set 25 = .ok (.iinc 2 1, 3) := by decide +kernel
theorem dX10_set_28 : decode bX10_set 28 = .ok (.goto (-24), 3) := by decide +kernel
theorem dX10_set_31 : decode bX10_set 31 = .ok (.iload_n 1, 1) := by decide +kernel
theorem dX10_set_32 : decode bX10_set 32 = .ok (.ireturn, 1) := by decide +kernel
section
variable {p : Program} {l : Launch} {e : Env} {s : State} {m : MethodId} {args : Array Value} {below : List Frame} {meth : Method} {c : Code} {G : GG} {n : Nat} {h' : Hp} {rv : Int32}
set_option maxHeartbeats 4000000
set_option maxRecDepth 100000
theorem j_X10_set_4 (C0 : Cx p s m args meth c G bX10_set RX10 3 (some .int) "set") (hN : NX ≤ n) : ∀ (fu : Nat), ∀ {H : Heap} {locs : List Loc} {ls : Array Slot} {h : Hp} {x0 : Nat} {x1 : Int32} {x2 : Int32}, XW G n h s 0 H locs → lv_has ls 3 [(0, .ref (bs G + x0)), (1, .int x1), (2, .int x2)] → kd x0 = 10 → f_X10_set_4 fu h x0 x1 x2 = some (rv, h') → W p l e (rmC 0 0 0) s m args below meth c H locs 0 0 (MQ below (QP G n h' (some (.int rv))) args s 0 0 (Ab G)) (F0 m 4 ls []) := by
  obtain ⟨hx, hb, hr, hml, hown, hts, hK, hlocks, hnm⟩ := id C0
  intro fu
  induction fu with
  | zero => intro H locs ls h x0 x1 x2 X hl o0 hf; cases hf
  | succ fu ih =>
    intro H locs ls h x0 x1 x2 X hl o0 hf
    rw [f_X10_set_4] at hf
    refine lv_iload_n hx hb dX10_set_4 rfl (lv_at hl 2 rfl) ?_
    refine lv_aload_n hx hb dX10_set_5 rfl (lv_at hl 0 rfl) ?_
    refine g_I hx hb hts hown hK X o0 hN fl_X10_18 (by decide) rfl dX10_set_6 ?_
    refine lv_icmp_ge (tgt := 31) hx hb dX10_set_9 (by decide) (fun c9 => ?_) (fun c9 => ?_)
    · have hf := ite_t hf c9
      refine lv_iload_n hx hb dX10_set_31 rfl (lv_at hl 1 rfl) ?_
      exact r_I hx hb hr hlocks X hf dX10_set_32
    · have hf := ite_f hf c9
      refine lv_iload_n hx hb dX10_set_12 rfl (lv_at hl 1 rfl) ?_
      refine lv_iconst (v := (1 : Int32)) hx hb dX10_set_13 (by decide) ?_
      refine lv_aload_n hx hb dX10_set_14 rfl (lv_at hl 0 rfl) ?_
      obtain ⟨g1, hf⟩ := gd_e hf
      refine g_R hx hb hts hown hK X o0 hN g1 fl_X10_9 (by decide) rfl (by decide) dX10_set_15 ?_
      refine lv_iload_n hx hb dX10_set_18 rfl (lv_at hl 2 rfl) ?_
      obtain ⟨g2, hf⟩ := gd_e hf
      refine g_ia hx hb hK X g1 hN g2 (by decide) dX10_set_19 ?_
      refine lv_iconst (v := (1 : Int32)) hx hb dX10_set_20 (by decide) ?_
      refine lv_isub hx hb dX10_set_21 ?_
      refine lv_ishl hx hb dX10_set_22 ?_
      refine lv_ior hx hb dX10_set_23 ?_
      refine lv_istore_n (lv' := [(1, .int (x1 ||| ((1 : Int32) <<< (((h.1 (h.2 x0 1) x2.toNatClampNeg) - (1 : Int32)) &&& 31)))), (0, .ref (bs G + x0)), (2, .int x2)]) hx hb dX10_set_24 rfl hl (by decide) rfl (fun ls hl => ?_)
      refine lv_iinc (v := (x2 + (1 : Int32))) (lv' := [(2, .int (x2 + (1 : Int32))), (1, .int (x1 ||| ((1 : Int32) <<< (((h.1 (h.2 x0 1) x2.toNatClampNeg) - (1 : Int32)) &&& 31)))), (0, .ref (bs G + x0))]) hx hb dX10_set_25 hl (k := 2) rfl rfl (by decide) rfl (fun ls hl => ?_)
      refine lv_goto (tgt := 4) hx hb dX10_set_28 (by decide) ?_
      exact ih X (lv_sub hl [2, 1, 0] rfl) o0 hf
theorem k_X10_set (l : Launch) (G : GG) (n : Nat) (hN : NX ≤ n) {h h' : Hp} {x0 : Nat} {rv : Int32} (hf : f_X10_set h x0 = some (rv, h')) : CT l G n n yX10_set (.code yX10_set bX10_set 3 (some .int)) 0 0 0 [.ref (bs G + x0)] h h' (some (.int rv)) := by
  refine ct_of (maxL := 3) (ret := (some .int)) (bytes := bX10_set) (by decide) (Nat.le_of_ble_eq_true rfl) (fun p e s m below meth c C0 X ls hl => ?_)
  have hl : lv_has ls 3 [(0, .ref (bs G + x0))] := hl
  obtain ⟨hx, hb, hr, hml, hown, hts, hK, hlocks, hnm⟩ := id C0
  unfold f_X10_set at hf
  obtain ⟨o0, hf⟩ := gd_e hf
  refine lv_iconst (v := (0 : Int32)) hx hb dX10_set_0 (by decide) ?_
  refine lv_istore_n (lv' := [(1, .int (0 : Int32)), (0, .ref (bs G + x0))]) hx hb dX10_set_1 rfl hl (by decide) rfl (fun ls hl => ?_)
  refine lv_iconst (v := (0 : Int32)) hx hb dX10_set_2 (by decide) ?_
  refine lv_istore_n (lv' := [(2, .int (0 : Int32)), (1, .int (0 : Int32)), (0, .ref (bs G + x0))]) hx hb dX10_set_3 rfl hl (by decide) rfl (fun ls hl => ?_)
  exact j_X10_set_4 C0 hN FU X (lv_sub hl [2, 1, 0] rfl) o0 hf
end
theorem dX10_sum_0 : decode bX10_sum 0 = .ok (.iconst 0, 1) := by decide +kernel
theorem dX10_sum_1 : decode bX10_sum 1 = .ok (.istore_n 1, 1) := by decide +kernel
theorem dX10_sum_2 : decode bX10_sum 2 = .ok (.iconst 0, 1) := by decide +kernel
theorem dX10_sum_3 : decode bX10_sum 3 = .ok (.istore_n 2, 1) := by decide +kernel
theorem dX10_sum_4 : decode bX10_sum 4 = .ok (.iload_n 2, 1) := by decide +kernel
theorem dX10_sum_5 : decode bX10_sum 5 = .ok (.aload_n 0, 1) := by decide +kernel
theorem dX10_sum_6 : decode bX10_sum 6 = .ok (.getfield 18, 3) := by decide +kernel
theorem dX10_sum_9 : decode bX10_sum 9 = .ok (.if_icmp .ge 27, 3) := by decide +kernel
theorem dX10_sum_12 : decode bX10_sum 12 = .ok (.iload_n 1, 1) := by decide +kernel
theorem dX10_sum_13 : decode bX10_sum 13 = .ok (.aload_n 0, 1) := by decide +kernel
theorem dX10_sum_14 : decode bX10_sum 14 = .ok (.getfield 9, 3) := by decide +kernel
theorem dX10_sum_17 : decode bX10_sum 17 = .ok (.iload_n 2, 1) := by decide +kernel
theorem dX10_sum_18 : decode bX10_sum 18 = .ok (.iaload, 1) := by decide +kernel
theorem dX10_sum_19 : decode bX10_sum 19 = .ok (.aload_n 0, 1) := by decide +kernel
theorem dX10_sum_20 : decode bX10_sum 20 = .ok (.getfield 15, 3) := by decide +kernel
theorem dX10_sum_23 : decode bX10_sum 23 = .ok (.iload_n 2, 1) := by decide +kernel
theorem dX10_sum_24 : decode bX10_sum 24 = .ok (.iaload, 1) := by decide +kernel
theorem dX10_sum_25 : decode bX10_sum 25 = .ok (.invokestatic 22, 3) := by decide +kernel
theorem dX10_sum_28 : decode bX10_sum 28 = .ok (.iadd, 1) := by decide +kernel
theorem dX10_sum_29 : decode bX10_sum 29 = .ok (.istore_n 1, 1) := by decide +kernel
theorem dX10_sum_30 : decode bX10_sum 30 = .ok (.iinc 2 1, 3) := by decide +kernel
theorem dX10_sum_33 : decode bX10_sum 33 = .ok (.goto (-29), 3) := by decide +kernel
theorem dX10_sum_36 : decode bX10_sum 36 = .ok (.iload_n 1, 1) := by decide +kernel
theorem dX10_sum_37 : decode bX10_sum 37 = .ok (.ireturn, 1) := by decide +kernel
section
variable {p : Program} {l : Launch} {e : Env} {s : State} {m : MethodId} {args : Array Value} {below : List Frame} {meth : Method} {c : Code} {G : GG} {n : Nat} {h' : Hp} {rv : Int32}
set_option maxHeartbeats 4000000
set_option maxRecDepth 100000
theorem j_X10_sum_4 (C0 : Cx p s m args meth c G bX10_sum RX10 3 (some .int) "sum") (hN : NX ≤ n) : ∀ (fu : Nat), ∀ {H : Heap} {locs : List Loc} {ls : Array Slot} {h : Hp} {x0 : Nat} {x1 : Int32} {x2 : Int32}, XW G n h s 0 H locs → lv_has ls 3 [(0, .ref (bs G + x0)), (1, .int x1), (2, .int x2)] → kd x0 = 10 → f_X10_sum_4 fu h x0 x1 x2 = some (rv, h') → W p l e (rmC 1 0 0) s m args below meth c H locs 0 0 (MQ below (QP G n h' (some (.int rv))) args s 0 0 (Ab G)) (F0 m 4 ls []) := by
  obtain ⟨hx, hb, hr, hml, hown, hts, hK, hlocks, hnm⟩ := id C0
  intro fu
  induction fu with
  | zero => intro H locs ls h x0 x1 x2 X hl o0 hf; cases hf
  | succ fu ih =>
    intro H locs ls h x0 x1 x2 X hl o0 hf
    rw [f_X10_sum_4] at hf
    refine lv_iload_n hx hb dX10_sum_4 rfl (lv_at hl 2 rfl) ?_
    refine lv_aload_n hx hb dX10_sum_5 rfl (lv_at hl 0 rfl) ?_
    refine g_I hx hb hts hown hK X o0 hN fl_X10_18 (by decide) rfl dX10_sum_6 ?_
    refine lv_icmp_ge (tgt := 36) hx hb dX10_sum_9 (by decide) (fun c9 => ?_) (fun c9 => ?_)
    · have hf := ite_t hf c9
      refine lv_iload_n hx hb dX10_sum_36 rfl (lv_at hl 1 rfl) ?_
      exact r_I hx hb hr hlocks X hf dX10_sum_37
    · have hf := ite_f hf c9
      refine lv_iload_n hx hb dX10_sum_12 rfl (lv_at hl 1 rfl) ?_
      refine lv_aload_n hx hb dX10_sum_13 rfl (lv_at hl 0 rfl) ?_
      obtain ⟨g1, hf⟩ := gd_e hf
      refine g_R hx hb hts hown hK X o0 hN g1 fl_X10_9 (by decide) rfl (by decide) dX10_sum_14 ?_
      refine lv_iload_n hx hb dX10_sum_17 rfl (lv_at hl 2 rfl) ?_
      obtain ⟨g2, hf⟩ := gd_e hf
      refine g_ia hx hb hK X g1 hN g2 (by decide) dX10_sum_18 ?_
      refine lv_aload_n hx hb dX10_sum_19 rfl (lv_at hl 0 rfl) ?_
      obtain ⟨g3, hf⟩ := gd_e hf
      refine g_R hx hb hts hown hK X o0 hN g3 fl_X10_15 (by decide) rfl (by decide) dX10_sum_20 ?_
      refine lv_iload_n hx hb dX10_sum_23 rfl (lv_at hl 2 rfl) ?_
      obtain ⟨g4, hf⟩ := gd_e hf
      refine g_ia hx hb hK X g3 hN g4 (by decide) dX10_sum_24 ?_
      obtain ⟨r5, h6, q7, hf⟩ := bd_e hf
      refine c_SN0 (As := [.int (h.1 (h.2 x0 1) x2.toNatClampNeg), .int (h.1 (h.2 x0 2) x2.toNatClampNeg)]) (rest := [.int x1]) (st1 := [.int r5, .int x1]) hx hb hml hown hts hK X (k_X11_countsAs l G n hN q7) lc_X11_countsAs ls_X10_22 (by decide) rfl hl.1 (Nat.le_of_ble_eq_true rfl) dX10_sum_25 rfl (fun H locs X => ?_)
      refine lv_iadd hx hb dX10_sum_28 ?_
      refine lv_istore_n (lv' := [(1, .int (x1 + r5)), (0, .ref (bs G + x0)), (2, .int x2)]) hx hb dX10_sum_29 rfl hl (by decide) rfl (fun ls hl => ?_)
      refine lv_iinc (v := (x2 + (1 : Int32))) (lv' := [(2, .int (x2 + (1 : Int32))), (1, .int (x1 + r5)), (0, .ref (bs G + x0))]) hx hb dX10_sum_30 hl (k := 2) rfl rfl (by decide) rfl (fun ls hl => ?_)
      refine lv_goto (tgt := 4) hx hb dX10_sum_33 (by decide) ?_
      exact ih X (lv_sub hl [2, 1, 0] rfl) o0 hf
theorem k_X10_sum (l : Launch) (G : GG) (n : Nat) (hN : NX ≤ n) {h h' : Hp} {x0 : Nat} {rv : Int32} (hf : f_X10_sum h x0 = some (rv, h')) : CT l G n n yX10_sum (.code yX10_sum bX10_sum 3 (some .int)) 1 0 0 [.ref (bs G + x0)] h h' (some (.int rv)) := by
  refine ct_of (maxL := 3) (ret := (some .int)) (bytes := bX10_sum) (by decide) (Nat.le_of_ble_eq_true rfl) (fun p e s m below meth c C0 X ls hl => ?_)
  have hl : lv_has ls 3 [(0, .ref (bs G + x0))] := hl
  obtain ⟨hx, hb, hr, hml, hown, hts, hK, hlocks, hnm⟩ := id C0
  unfold f_X10_sum at hf
  obtain ⟨o0, hf⟩ := gd_e hf
  refine lv_iconst (v := (0 : Int32)) hx hb dX10_sum_0 (by decide) ?_
  refine lv_istore_n (lv' := [(1, .int (0 : Int32)), (0, .ref (bs G + x0))]) hx hb dX10_sum_1 rfl hl (by decide) rfl (fun ls hl => ?_)
  refine lv_iconst (v := (0 : Int32)) hx hb dX10_sum_2 (by decide) ?_
  refine lv_istore_n (lv' := [(2, .int (0 : Int32)), (1, .int (0 : Int32)), (0, .ref (bs G + x0))]) hx hb dX10_sum_3 rfl hl (by decide) rfl (fun ls hl => ?_)
  exact j_X10_sum_4 C0 hN FU X (lv_sub hl [2, 1, 0] rfl) o0 hf
end
theorem dX10_price_0 : decode bX10_price 0 = .ok (.iconst 0, 1) := by decide +kernel
theorem dX10_price_1 : decode bX10_price 1 = .ok (.istore_n 2, 1) := by decide +kernel
theorem dX10_price_2 : decode bX10_price 2 = .ok (.iconst 0, 1) := by decide +kernel
theorem dX10_price_3 : decode bX10_price 3 = .ok (.istore_n 3, 1) := by decide +kernel
theorem dX10_price_4 : decode bX10_price 4 = .ok (.iload_n 3, 1) := by decide +kernel
theorem dX10_price_5 : decode bX10_price 5 = .ok (.aload_n 0, 1) := by decide +kernel
theorem dX10_price_6 : decode bX10_price 6 = .ok (.getfield 18, 3) := by decide +kernel
theorem dX10_price_9 : decode bX10_price 9 = .ok (.if_icmp .ge 28, 3) := by decide +kernel
theorem dX10_price_12 : decode bX10_price 12 = .ok (.iload_n 2, 1) := by decide +kernel
theorem dX10_price_13 : decode bX10_price 13 = .ok (.aload_n 1, 1) := by decide +kernel
theorem dX10_price_14 : decode bX10_price 14 = .ok (.aload_n 0, 1) := by decide +kernel
theorem dX10_price_15 : decode bX10_price 15 = .ok (.getfield 9, 3) := by decide +kernel
theorem dX10_price_18 : decode bX10_price 18 = .ok (.iload_n 3, 1) := by decide +kernel
theorem dX10_price_19 : decode bX10_price 19 = .ok (.iaload, 1) := by decide +kernel
theorem dX10_price_20 : decode bX10_price 20 = .ok (.aload_n 0, 1) := by decide +kernel
theorem dX10_price_21 : decode bX10_price 21 = .ok (.getfield 15, 3) := by decide +kernel
theorem dX10_price_24 : decode bX10_price 24 = .ok (.iload_n 3, 1) := by decide +kernel
theorem dX10_price_25 : decode bX10_price 25 = .ok (.iaload, 1) := by decide +kernel
theorem dX10_price_26 : decode bX10_price 26 = .ok (.invokevirtual 26, 3) := by decide +kernel
theorem dX10_price_29 : decode bX10_price 29 = .ok (.iadd, 1) := by decide +kernel
theorem dX10_price_30 : decode bX10_price 30 = .ok (.istore_n 2, 1) := by decide +kernel
theorem dX10_price_31 : decode bX10_price 31 = .ok (.iinc 3 1, 3) := by decide +kernel
theorem dX10_price_34 : decode bX10_price 34 = .ok (.goto (-30), 3) := by decide +kernel
theorem dX10_price_37 : decode bX10_price 37 = .ok (.iload_n 2, 1) := by decide +kernel
theorem dX10_price_38 : decode bX10_price 38 = .ok (.ireturn, 1) := by decide +kernel
section
variable {p : Program} {l : Launch} {e : Env} {s : State} {m : MethodId} {args : Array Value} {below : List Frame} {meth : Method} {c : Code} {G : GG} {n : Nat} {h' : Hp} {rv : Int32}
set_option maxHeartbeats 4000000
set_option maxRecDepth 100000
theorem j_X10_price_4 (C0 : Cx p s m args meth c G bX10_price RX10 4 (some .int) "price") (hN : NX ≤ n) : ∀ (fu : Nat), ∀ {H : Heap} {locs : List Loc} {ls : Array Slot} {h : Hp} {x0 : Nat} {x1 : Nat} {x2 : Int32} {x3 : Int32}, XW G n h s 0 H locs → lv_has ls 4 [(0, .ref (bs G + x0)), (1, .ref (bs G + x1)), (2, .int x2), (3, .int x3)] → kd x0 = 10 → kd x1 = 4 → f_X10_price_4 fu h x0 x1 x2 x3 = some (rv, h') → W p l e (rmC 2 0 0) s m args below meth c H locs 0 0 (MQ below (QP G n h' (some (.int rv))) args s 0 0 (Ab G)) (F0 m 4 ls []) := by
  obtain ⟨hx, hb, hr, hml, hown, hts, hK, hlocks, hnm⟩ := id C0
  intro fu
  induction fu with
  | zero => intro H locs ls h x0 x1 x2 x3 X hl o0 o1 hf; cases hf
  | succ fu ih =>
    intro H locs ls h x0 x1 x2 x3 X hl o0 o1 hf
    rw [f_X10_price_4] at hf
    refine lv_iload_n hx hb dX10_price_4 rfl (lv_at hl 3 rfl) ?_
    refine lv_aload_n hx hb dX10_price_5 rfl (lv_at hl 0 rfl) ?_
    refine g_I hx hb hts hown hK X o0 hN fl_X10_18 (by decide) rfl dX10_price_6 ?_
    refine lv_icmp_ge (tgt := 37) hx hb dX10_price_9 (by decide) (fun c9 => ?_) (fun c9 => ?_)
    · have hf := ite_t hf c9
      refine lv_iload_n hx hb dX10_price_37 rfl (lv_at hl 2 rfl) ?_
      exact r_I hx hb hr hlocks X hf dX10_price_38
    · have hf := ite_f hf c9
      refine lv_iload_n hx hb dX10_price_12 rfl (lv_at hl 2 rfl) ?_
      refine lv_aload_n hx hb dX10_price_13 rfl (lv_at hl 1 rfl) ?_
      refine lv_aload_n hx hb dX10_price_14 rfl (lv_at hl 0 rfl) ?_
      obtain ⟨g1, hf⟩ := gd_e hf
      refine g_R hx hb hts hown hK X o0 hN g1 fl_X10_9 (by decide) rfl (by decide) dX10_price_15 ?_
      refine lv_iload_n hx hb dX10_price_18 rfl (lv_at hl 3 rfl) ?_
      obtain ⟨g2, hf⟩ := gd_e hf
      refine g_ia hx hb hK X g1 hN g2 (by decide) dX10_price_19 ?_
      refine lv_aload_n hx hb dX10_price_20 rfl (lv_at hl 0 rfl) ?_
      obtain ⟨g3, hf⟩ := gd_e hf
      refine g_R hx hb hts hown hK X o0 hN g3 fl_X10_15 (by decide) rfl (by decide) dX10_price_21 ?_
      refine lv_iload_n hx hb dX10_price_24 rfl (lv_at hl 3 rfl) ?_
      obtain ⟨g4, hf⟩ := gd_e hf
      refine g_ia hx hb hK X g3 hN g4 (by decide) dX10_price_25 ?_
      obtain ⟨r5, h6, q7, hf⟩ := bd_e hf
      refine c_V0 (As := [.int (h.1 (h.2 x0 1) x3.toNatClampNeg), .int (h.1 (h.2 x0 2) x3.toNatClampNeg)]) (rest := [.int x2]) (st1 := [.int r5, .int x2]) hx hb hml hown hts hK X (k_X4_price l G n hN q7) o1 hN lc_X4_price lv_X10_26 (ci := 4) rfl rfl (by decide) rfl hl.1 (Nat.le_of_ble_eq_true rfl) dX10_price_26 rfl (fun H locs X => ?_)
      refine lv_iadd hx hb dX10_price_29 ?_
      refine lv_istore_n (lv' := [(2, .int (x2 + r5)), (0, .ref (bs G + x0)), (1, .ref (bs G + x1)), (3, .int x3)]) hx hb dX10_price_30 rfl hl (by decide) rfl (fun ls hl => ?_)
      refine lv_iinc (v := (x3 + (1 : Int32))) (lv' := [(3, .int (x3 + (1 : Int32))), (2, .int (x2 + r5)), (0, .ref (bs G + x0)), (1, .ref (bs G + x1))]) hx hb dX10_price_31 hl (k := 3) rfl rfl (by decide) rfl (fun ls hl => ?_)
      refine lv_goto (tgt := 4) hx hb dX10_price_34 (by decide) ?_
      exact ih X (lv_sub hl [2, 3, 1, 0] rfl) o0 o1 hf
theorem k_X10_price (l : Launch) (G : GG) (n : Nat) (hN : NX ≤ n) {h h' : Hp} {x0 : Nat} {x1 : Nat} {rv : Int32} (hf : f_X10_price h x0 x1 = some (rv, h')) : CT l G n n yX10_price (.code yX10_price bX10_price 4 (some .int)) 2 0 0 [.ref (bs G + x0), .ref (bs G + x1)] h h' (some (.int rv)) := by
  refine ct_of (maxL := 4) (ret := (some .int)) (bytes := bX10_price) (by decide) (Nat.le_of_ble_eq_true rfl) (fun p e s m below meth c C0 X ls hl => ?_)
  have hl : lv_has ls 4 [(0, .ref (bs G + x0)), (1, .ref (bs G + x1))] := hl
  obtain ⟨hx, hb, hr, hml, hown, hts, hK, hlocks, hnm⟩ := id C0
  unfold f_X10_price at hf
  obtain ⟨o0, hf⟩ := gd_e hf
  obtain ⟨o1, hf⟩ := gd_e hf
  refine lv_iconst (v := (0 : Int32)) hx hb dX10_price_0 (by decide) ?_
  refine lv_istore_n (lv' := [(2, .int (0 : Int32)), (0, .ref (bs G + x0)), (1, .ref (bs G + x1))]) hx hb dX10_price_1 rfl hl (by decide) rfl (fun ls hl => ?_)
  refine lv_iconst (v := (0 : Int32)) hx hb dX10_price_2 (by decide) ?_
  refine lv_istore_n (lv' := [(3, .int (0 : Int32)), (2, .int (0 : Int32)), (0, .ref (bs G + x0)), (1, .ref (bs G + x1))]) hx hb dX10_price_3 rfl hl (by decide) rfl (fun ls hl => ?_)
  exact j_X10_price_4 C0 hN FU X (lv_sub hl [2, 3, 1, 0] rfl) o0 o1 hf
end
theorem dX10_areSaying_0 : decode bX10_areSaying 0 = .ok (.aload_n 0, 1) := by decide +kernel
theorem dX10_areSaying_1 : decode bX10_areSaying 1 = .ok (.getfield 18, 3) := by decide +kernel
theorem dX10_areSaying_4 : decode bX10_areSaying 4 = .ok (.ifCond .eq 15, 3) := by decide +kernel
theorem dX10_areSaying_7 : decode bX10_areSaying 7 = .ok (.iload_n 1, 1) := by decide +kernel
theorem dX10_areSaying_8 : decode bX10_areSaying 8 = .ok (.ifCond .ne 13, 3) := by decide +kernel
theorem dX10_areSaying_11 : decode bX10_areSaying 11 = .ok (.aload_n 0, 1) := by decide +kernel
theorem dX10_areSaying_12 : decode bX10_areSaying 12 = .ok (.getfield 18, 3) := by decide +kernel
theorem dX10_areSaying_15 : decode bX10_areSaying 15 = .ok (.iconst 1, 1) := by decide +kernel
theorem dX10_areSaying_16 : decode bX10_areSaying 16 = .ok (.if_icmp .le 5, 3) := by decide +kernel
theorem dX10_areSaying_19 : decode bX10_areSaying 19 = .ok (.iconst 0, 1) := by decide +kernel
theorem dX10_areSaying_20 : decode bX10_areSaying 20 = .ok (.ireturn, 1) := by decide +kernel
theorem dX10_areSaying_21 : decode bX10_areSaying 21 = .ok (.iconst 0, 1) := by decide +kernel
theorem dX10_areSaying_22 : decode bX10_areSaying 22 = .ok (.istore_n 2, 1) := by decide +kernel
theorem dX10_areSaying_23 : decode bX10_areSaying 23 = .ok (.iload_n 2, 1) := by decide +kernel
theorem dX10_areSaying_24 : decode bX10_areSaying 24 = .ok (.aload_n 0, 1) := by decide +kernel
theorem dX10_areSaying_25 : decode bX10_areSaying 25 = .ok (.getfield 18, 3) := by decide +kernel
theorem dX10_areSaying_28 : decode bX10_areSaying 28 = .ok (.if_icmp .ge 24, 3) := by decide +kernel
theorem dX10_areSaying_31 : decode bX10_areSaying 31 = .ok (.aload_n 0, 1) := by decide +kernel
theorem dX10_areSaying_32 : decode bX10_areSaying 32 = .ok (.getfield 15, 3) := by decide +kernel
theorem dX10_areSaying_35 : decode bX10_areSaying 35 = .ok (.iload_n 2, 1) := by decide +kernel
theorem dX10_areSaying_36 : decode bX10_areSaying 36 = .ok (.iaload, 1) := by decide +kernel
theorem dX10_areSaying_37 : decode bX10_areSaying 37 = .ok (.iload_n 1, 1) := by decide +kernel
theorem dX10_areSaying_38 : decode bX10_areSaying 38 = .ok (.invokestatic 31, 3) := by decide +kernel
theorem dX10_areSaying_41 : decode bX10_areSaying 41 = .ok (.if_icmp .le 5, 3) := by decide +kernel
theorem dX10_areSaying_44 : decode bX10_areSaying 44 = .ok (.iconst 0, 1) := by decide +kernel
theorem dX10_areSaying_45 : decode bX10_areSaying 45 = .ok (.ireturn, 1) := by decide +kernel
theorem dX10_areSaying_46 : decode bX10_areSaying 46 = .ok (.iinc 2 1, 3) := by decide +kernel
theorem dX10_areSaying_49 : decode bX10_areSaying 49 = .ok (.goto (-26), 3) := by decide +kernel
theorem dX10_areSaying_52 : decode bX10_areSaying 52 = .ok (.iconst 1, 1) := by decide +kernel
theorem dX10_areSaying_53 : decode bX10_areSaying 53 = .ok (.ireturn, 1) := by decide +kernel
section
variable {p : Program} {l : Launch} {e : Env} {s : State} {m : MethodId} {args : Array Value} {below : List Frame} {meth : Method} {c : Code} {G : GG} {n : Nat} {h' : Hp} {rv : Int32}
set_option maxHeartbeats 4000000
set_option maxRecDepth 100000
theorem j_X10_areSaying_23 (C0 : Cx p s m args meth c G bX10_areSaying RX10 3 (some .boolean) "areSaying") (hN : NX ≤ n) : ∀ (fu : Nat), ∀ {H : Heap} {locs : List Loc} {ls : Array Slot} {h : Hp} {x0 : Nat} {x1 : Int32} {x2 : Int32}, XW G n h s 0 H locs → lv_has ls 3 [(0, .ref (bs G + x0)), (1, .int x1), (2, .int x2)] → kd x0 = 10 → f_X10_areSaying_23 fu h x0 x1 x2 = some (rv, h') → W p l e (rmC 1 0 0) s m args below meth c H locs 0 0 (MQ below (QP G n h' (some (.int rv))) args s 0 0 (Ab G)) (F0 m 23 ls []) := by
  obtain ⟨hx, hb, hr, hml, hown, hts, hK, hlocks, hnm⟩ := id C0
  intro fu
  induction fu with
  | zero => intro H locs ls h x0 x1 x2 X hl o0 hf; cases hf
  | succ fu ih =>
    intro H locs ls h x0 x1 x2 X hl o0 hf
    rw [f_X10_areSaying_23] at hf
    refine lv_iload_n hx hb dX10_areSaying_23 rfl (lv_at hl 2 rfl) ?_
    refine lv_aload_n hx hb dX10_areSaying_24 rfl (lv_at hl 0 rfl) ?_
    refine g_I hx hb hts hown hK X o0 hN fl_X10_18 (by decide) rfl dX10_areSaying_25 ?_
    refine lv_icmp_ge (tgt := 52) hx hb dX10_areSaying_28 (by decide) (fun c28 => ?_) (fun c28 => ?_)
    · have hf := ite_t hf c28
      refine lv_iconst (v := (1 : Int32)) hx hb dX10_areSaying_52 (by decide) ?_
      exact r_Z hx hb hr hlocks X rfl hf dX10_areSaying_53
    · have hf := ite_f hf c28
      refine lv_aload_n hx hb dX10_areSaying_31 rfl (lv_at hl 0 rfl) ?_
      obtain ⟨g1, hf⟩ := gd_e hf
      refine g_R hx hb hts hown hK X o0 hN g1 fl_X10_15 (by decide) rfl (by decide) dX10_areSaying_32 ?_
      refine lv_iload_n hx hb dX10_areSaying_35 rfl (lv_at hl 2 rfl) ?_
      obtain ⟨g2, hf⟩ := gd_e hf
      refine g_ia hx hb hK X g1 hN g2 (by decide) dX10_areSaying_36 ?_
      refine lv_iload_n hx hb dX10_areSaying_37 rfl (lv_at hl 1 rfl) ?_
      obtain ⟨r3, h4, q5, hf⟩ := bd_e hf
      refine c_SN0 (As := [.int x1]) (rest := [.int (h.1 (h.2 x0 2) x2.toNatClampNeg)]) (st1 := [.int r3, .int (h.1 (h.2 x0 2) x2.toNatClampNeg)]) hx hb hml hown hts hK X (k_X11_lastUse l G n hN q5) lc_X11_lastUse ls_X10_31 (by decide) rfl hl.1 (Nat.le_of_ble_eq_true rfl) dX10_areSaying_38 rfl (fun H locs X => ?_)
      refine lv_icmp_le (tgt := 46) hx hb dX10_areSaying_41 (by decide) (fun c41 => ?_) (fun c41 => ?_)
      · have hf := ite_t hf c41
        refine lv_iinc (v := (x2 + (1 : Int32))) (lv' := [(2, .int (x2 + (1 : Int32))), (0, .ref (bs G + x0)), (1, .int x1)]) hx hb dX10_areSaying_46 hl (k := 2) rfl rfl (by decide) rfl (fun ls hl => ?_)
        refine lv_goto (tgt := 23) hx hb dX10_areSaying_49 (by decide) ?_
        exact ih X (lv_sub hl [1, 2, 0] rfl) o0 hf
      · have hf := ite_f hf c41
        refine lv_iconst (v := (0 : Int32)) hx hb dX10_areSaying_44 (by decide) ?_
        exact r_Z hx hb hr hlocks X rfl hf dX10_areSaying_45
theorem k_X10_areSaying (l : Launch) (G : GG) (n : Nat) (hN : NX ≤ n) {h h' : Hp} {x0 : Nat} {x1 : Int32} {rv : Int32} (hf : f_X10_areSaying h x0 x1 = some (rv, h')) : CT l G n n yX10_areSaying (.code yX10_areSaying bX10_areSaying 3 (some .boolean)) 1 0 0 [.ref (bs G + x0), .int x1] h h' (some (.int rv)) := by
  refine ct_of (maxL := 3) (ret := (some .boolean)) (bytes := bX10_areSaying) (by decide) (Nat.le_of_ble_eq_true rfl) (fun p e s m below meth c C0 X ls hl => ?_)
  have hl : lv_has ls 3 [(0, .ref (bs G + x0)), (1, .int x1)] := hl
  obtain ⟨hx, hb, hr, hml, hown, hts, hK, hlocks, hnm⟩ := id C0
  unfold f_X10_areSaying at hf
  obtain ⟨o0, hf⟩ := gd_e hf
  refine lv_aload_n hx hb dX10_areSaying_0 rfl (lv_at hl 0 rfl) ?_
  refine g_I hx hb hts hown hK X o0 hN fl_X10_18 (by decide) rfl dX10_areSaying_1 ?_
  refine lv_if_eq (tgt := 19) hx hb dX10_areSaying_4 (by decide) (fun c4 => ?_) (fun c4 => ?_)
  · have hf := ite_t hf c4
    refine lv_iconst (v := (0 : Int32)) hx hb dX10_areSaying_19 (by decide) ?_
    exact r_Z hx hb hr hlocks X rfl hf dX10_areSaying_20
  · have hf := ite_f hf c4
    refine lv_iload_n hx hb dX10_areSaying_7 rfl (lv_at hl 1 rfl) ?_
    refine lv_if_ne (tgt := 21) hx hb dX10_areSaying_8 (by decide) (fun c8 => ?_) (fun c8 => ?_)
    · have hf := ite_f hf c8
      refine lv_iconst (v := (0 : Int32)) hx hb dX10_areSaying_21 (by decide) ?_
      refine lv_istore_n (lv' := [(2, .int (0 : Int32)), (0, .ref (bs G + x0)), (1, .int x1)]) hx hb dX10_areSaying_22 rfl hl (by decide) rfl (fun ls hl => ?_)
      exact j_X10_areSaying_23 C0 hN FU X (lv_sub hl [1, 2, 0] rfl) o0 hf
    · have hf := ite_t hf c8
      refine lv_aload_n hx hb dX10_areSaying_11 rfl (lv_at hl 0 rfl) ?_
      refine g_I hx hb hts hown hK X o0 hN fl_X10_18 (by decide) rfl dX10_areSaying_12 ?_
      refine lv_iconst (v := (1 : Int32)) hx hb dX10_areSaying_15 (by decide) ?_
      refine lv_icmp_le (tgt := 21) hx hb dX10_areSaying_16 (by decide) (fun c16 => ?_) (fun c16 => ?_)
      · have hf := ite_t hf c16
        refine lv_iconst (v := (0 : Int32)) hx hb dX10_areSaying_21 (by decide) ?_
        refine lv_istore_n (lv' := [(2, .int (0 : Int32)), (0, .ref (bs G + x0)), (1, .int x1)]) hx hb dX10_areSaying_22 rfl hl (by decide) rfl (fun ls hl => ?_)
        exact j_X10_areSaying_23 C0 hN FU X (lv_sub hl [1, 2, 0] rfl) o0 hf
      · have hf := ite_f hf c16
        refine lv_iconst (v := (0 : Int32)) hx hb dX10_areSaying_19 (by decide) ?_
        exact r_Z hx hb hr hlocks X rfl hf dX10_areSaying_20
end
theorem dX11_write_0 : decode bX11_write 0 = .ok (.iload_n 1, 1) := by decide +kernel
theorem dX11_write_1 : decode bX11_write 1 = .ok (.bipush 32, 2) := by decide +kernel
theorem dX11_write_3 : decode bX11_write 3 = .ok (.if_icmp .lt 9, 3) := by decide +kernel
theorem dX11_write_6 : decode bX11_write 6 = .ok (.iload_n 1, 1) := by decide +kernel
theorem dX11_write_7 : decode bX11_write 7 = .ok (.bipush 126, 2) := by decide +kernel
theorem dX11_write_9 : decode bX11_write 9 = .ok (.if_icmp .le 5, 3) := by decide +kernel
theorem dX11_write_12 : decode bX11_write 12 = .ok (.iconst (-1), 1) := by decide +kernel
theorem dX11_write_13 : decode bX11_write 13 = .ok (.ireturn, 1) := by decide +kernel
theorem dX11_write_14 : decode bX11_write 14 = .ok (.aload_n 0, 1) := by decide +kernel
theorem dX11_write_15 : decode bX11_write 15 = .ok (.getfield 10, 3) := by decide +kernel
theorem dX11_write_18 : decode bX11_write 18 = .ok (.iload_n 1, 1) := by decide +kernel
theorem dX11_write_19 : decode bX11_write 19 = .ok (.i2c, 1) := by decide +kernel
theorem dX11_write_20 : decode bX11_write 20 = .ok (.invokevirtual 101, 3) := by decide +kernel
theorem dX11_write_23 : decode bX11_write 23 = .ok (.ifCond .eq 13, 3) := by decide +kernel
theorem dX11_write_26 : decode bX11_write 26 = .ok (.aload_n 0, 1) := by decide +kernel
theorem dX11_write_27 : decode bX11_write 27 = .ok (.getfield 10, 3) := by decide +kernel
theorem dX11_write_30 : decode bX11_write 30 = .ok (.getfield 109, 3) := by decide +kernel
theorem dX11_write_33 : decode bX11_write 33 = .ok (.goto 5, 3) := by decide +kernel
theorem dX11_write_36 : decode bX11_write 36 = .ok (.bipush (-3), 2) := by decide +kernel
theorem dX11_write_38 : decode bX11_write 38 = .ok (.ireturn, 1) := by decide +kernel
section
variable {p : Program} {l : Launch} {e : Env} {s : State} {m : MethodId} {args : Array Value} {below : List Frame} {meth : Method} {c : Code} {G : GG} {n : Nat} {h' : Hp} {rv : Int32}
set_option maxHeartbeats 4000000
set_option maxRecDepth 100000
theorem k_X11_write (l : Launch) (G : GG) (n : Nat) (hN : NX ≤ n) {h h' : Hp} {x0 : Nat} {x1 : Int32} {rv : Int32} (hf : f_X11_write h x0 x1 = some (rv, h')) : CT l G n n yX11_write (.code yX11_write bX11_write 2 (some .int)) 1 0 0 [.ref (bs G + x0), .int x1] h h' (some (.int rv)) := by
  refine ct_of (maxL := 2) (ret := (some .int)) (bytes := bX11_write) (by decide) (Nat.le_of_ble_eq_true rfl) (fun p e s m below meth c C0 X ls hl => ?_)
  have hl : lv_has ls 2 [(0, .ref (bs G + x0)), (1, .int x1)] := hl
  obtain ⟨hx, hb, hr, hml, hown, hts, hK, hlocks, hnm⟩ := id C0
  unfold f_X11_write at hf
  obtain ⟨o0, hf⟩ := gd_e hf
  refine lv_iload_n hx hb dX11_write_0 rfl (lv_at hl 1 rfl) ?_
  refine lv_bipush (v := (32 : Int32)) hx hb dX11_write_1 (by decide) ?_
  refine lv_icmp_lt (tgt := 12) hx hb dX11_write_3 (by decide) (fun c3 => ?_) (fun c3 => ?_)
  · have hf := ite_t hf c3
    refine lv_iconst (v := (-1 : Int32)) hx hb dX11_write_12 (by decide) ?_
    exact r_I hx hb hr hlocks X hf dX11_write_13
  · have hf := ite_f hf c3
    refine lv_iload_n hx hb dX11_write_6 rfl (lv_at hl 1 rfl) ?_
    refine lv_bipush (v := (126 : Int32)) hx hb dX11_write_7 (by decide) ?_
    refine lv_icmp_le (tgt := 14) hx hb dX11_write_9 (by decide) (fun c9 => ?_) (fun c9 => ?_)
    · have hf := ite_t hf c9
      refine lv_aload_n hx hb dX11_write_14 rfl (lv_at hl 0 rfl) ?_
      obtain ⟨g1, hf⟩ := gd_e hf
      refine g_R hx hb hts hown hK X o0 hN g1 fl_X11_10 (by decide) rfl (by decide) dX11_write_15 ?_
      refine lv_iload_n hx hb dX11_write_18 rfl (lv_at hl 1 rfl) ?_
      refine lv_i2c hx hb dX11_write_19 rfl ?_
      obtain ⟨r2, h3, q4, hf⟩ := bd_e hf
      refine c_V0 (As := [.int (x1.toUInt32 % 65536).toInt32]) (rest := []) (st1 := [.int r2]) hx hb hml hown hts hK X (k_X8_append l G n hN q4) g1 hN lc_X8_append lv_X11_101 (ci := 8) rfl rfl (by decide) rfl hl.1 (Nat.le_of_ble_eq_true rfl) dX11_write_20 rfl (fun H locs X => ?_)
      refine lv_if_eq (tgt := 36) hx hb dX11_write_23 (by decide) (fun c23 => ?_) (fun c23 => ?_)
      · have hf := ite_t hf c23
        refine lv_bipush (v := (-3 : Int32)) hx hb dX11_write_36 (by decide) ?_
        exact r_I hx hb hr hlocks X hf dX11_write_38
      · have hf := ite_f hf c23
        refine lv_aload_n hx hb dX11_write_26 rfl (lv_at hl 0 rfl) ?_
        obtain ⟨g5, hf⟩ := gd_e hf
        refine g_R hx hb hts hown hK X o0 hN g5 fl_X11_10 (by decide) rfl (by decide) dX11_write_27 ?_
        refine g_I hx hb hts hown hK X g5 hN fl_X11_109 (by decide) rfl dX11_write_30 ?_
        refine lv_goto (tgt := 38) hx hb dX11_write_33 (by decide) ?_
        exact r_I hx hb hr hlocks X hf dX11_write_38
    · have hf := ite_f hf c9
      refine lv_iconst (v := (-1 : Int32)) hx hb dX11_write_12 (by decide) ?_
      exact r_I hx hb hr hlocks X hf dX11_write_13
end
theorem dX11_wipe_0 : decode bX11_wipe 0 = .ok (.aload_n 0, 1) := by decide +kernel
theorem dX11_wipe_1 : decode bX11_wipe 1 = .ok (.getfield 10, 3) := by decide +kernel
theorem dX11_wipe_4 : decode bX11_wipe 4 = .ok (.getfield 109, 3) := by decide +kernel
theorem dX11_wipe_7 : decode bX11_wipe 7 = .ok (.istore_n 1, 1) := by decide +kernel
theorem dX11_wipe_8 : decode bX11_wipe 8 = .ok (.aload_n 0, 1) := by decide +kernel
theorem dX11_wipe_9 : decode bX11_wipe 9 = .ok (.getfield 10, 3) := by decide +kernel
theorem dX11_wipe_12 : decode bX11_wipe 12 = .ok (.iconst 0, 1) := by decide +kernel
theorem dX11_wipe_13 : decode bX11_wipe 13 = .ok (.putfield 109, 3) := by decide +kernel
theorem dX11_wipe_16 : decode bX11_wipe 16 = .ok (.iload_n 1, 1) := by decide +kernel
theorem dX11_wipe_17 : decode bX11_wipe 17 = .ok (.ireturn, 1) := by decide +kernel
section
variable {p : Program} {l : Launch} {e : Env} {s : State} {m : MethodId} {args : Array Value} {below : List Frame} {meth : Method} {c : Code} {G : GG} {n : Nat} {h' : Hp} {rv : Int32}
set_option maxHeartbeats 4000000
set_option maxRecDepth 100000
theorem k_X11_wipe (l : Launch) (G : GG) (n : Nat) (hN : NX ≤ n) {h h' : Hp} {x0 : Nat} {rv : Int32} (hf : f_X11_wipe h x0 = some (rv, h')) : CT l G n n yX11_wipe (.code yX11_wipe bX11_wipe 2 (some .int)) 0 0 0 [.ref (bs G + x0)] h h' (some (.int rv)) := by
  refine ct_of (maxL := 2) (ret := (some .int)) (bytes := bX11_wipe) (by decide) (Nat.le_of_ble_eq_true rfl) (fun p e s m below meth c C0 X ls hl => ?_)
  have hl : lv_has ls 2 [(0, .ref (bs G + x0))] := hl
  obtain ⟨hx, hb, hr, hml, hown, hts, hK, hlocks, hnm⟩ := id C0
  unfold f_X11_wipe at hf
  obtain ⟨o0, hf⟩ := gd_e hf
  refine lv_aload_n hx hb dX11_wipe_0 rfl (lv_at hl 0 rfl) ?_
  obtain ⟨g1, hf⟩ := gd_e hf
  refine g_R hx hb hts hown hK X o0 hN g1 fl_X11_10 (by decide) rfl (by decide) dX11_wipe_1 ?_
  refine g_I hx hb hts hown hK X g1 hN fl_X11_109 (by decide) rfl dX11_wipe_4 ?_
  refine lv_istore_n (lv' := [(1, .int (h.1 (h.2 x0 0) 0)), (0, .ref (bs G + x0))]) hx hb dX11_wipe_7 rfl hl (by decide) rfl (fun ls hl => ?_)
  refine lv_aload_n hx hb dX11_wipe_8 rfl (lv_at hl 1 rfl) ?_
  obtain ⟨g2, hf⟩ := gd_e hf
  refine g_R hx hb hts hown hK X o0 hN g2 fl_X11_10 (by decide) rfl (by decide) dX11_wipe_9 ?_
  refine lv_iconst (v := (0 : Int32)) hx hb dX11_wipe_12 (by decide) ?_
  refine g_PI hx hb hts hown hK X g2 hN fl_X11_109 ft_8_0 (by decide) rfl dX11_wipe_13 (fun H locs X => ?_)
  obtain ⟨h3, e4, hf⟩ := lt_e hf
  rw [← e4] at X
  refine lv_iload_n hx hb dX11_wipe_16 rfl (lv_at hl 0 rfl) ?_
  exact r_I hx hb hr hlocks X hf dX11_wipe_17
end
theorem dX11_fault_0 : decode bX11_fault 0 = .ok (.aload_n 0, 1) := by decide +kernel
theorem dX11_fault_1 : decode bX11_fault 1 = .ok (.getfield 10, 3) := by decide +kernel
theorem dX11_fault_4 : decode bX11_fault 4 = .ok (.aload_n 0, 1) := by decide +kernel
theorem dX11_fault_5 : decode bX11_fault 5 = .ok (.getfield 23, 3) := by decide +kernel
theorem dX11_fault_8 : decode bX11_fault 8 = .ok (.invokevirtual 105, 3) := by decide +kernel
theorem dX11_fault_11 : decode bX11_fault 11 = .ok (.ireturn, 1) := by decide +kernel
section
variable {p : Program} {l : Launch} {e : Env} {s : State} {m : MethodId} {args : Array Value} {below : List Frame} {meth : Method} {c : Code} {G : GG} {n : Nat} {h' : Hp} {rv : Int32}
set_option maxHeartbeats 4000000
set_option maxRecDepth 100000
theorem k_X11_fault (l : Launch) (G : GG) (n : Nat) (hN : NX ≤ n) {h h' : Hp} {x0 : Nat} {rv : Int32} (hf : f_X11_fault h x0 = some (rv, h')) : CT l G n n yX11_fault (.code yX11_fault bX11_fault 1 (some .int)) 4 0 0 [.ref (bs G + x0)] h h' (some (.int rv)) := by
  refine ct_of (maxL := 1) (ret := (some .int)) (bytes := bX11_fault) (by decide) (Nat.le_of_ble_eq_true rfl) (fun p e s m below meth c C0 X ls hl => ?_)
  have hl : lv_has ls 1 [(0, .ref (bs G + x0))] := hl
  obtain ⟨hx, hb, hr, hml, hown, hts, hK, hlocks, hnm⟩ := id C0
  unfold f_X11_fault at hf
  obtain ⟨o0, hf⟩ := gd_e hf
  refine lv_aload_n hx hb dX11_fault_0 rfl (lv_at hl 0 rfl) ?_
  obtain ⟨g1, hf⟩ := gd_e hf
  refine g_R hx hb hts hown hK X o0 hN g1 fl_X11_10 (by decide) rfl (by decide) dX11_fault_1 ?_
  refine lv_aload_n hx hb dX11_fault_4 rfl (lv_at hl 0 rfl) ?_
  obtain ⟨g2, hf⟩ := gd_e hf
  refine g_R hx hb hts hown hK X o0 hN g2 fl_X11_23 (by decide) rfl (by decide) dX11_fault_5 ?_
  obtain ⟨r3, h4, q5, hf⟩ := bd_e hf
  refine c_V0 (As := [.ref (bs G + (h.2 x0 2))]) (rest := []) (st1 := [.int r3]) hx hb hml hown hts hK X (k_X8_readInto l G n hN q5) g1 hN lc_X8_readInto lv_X11_105 (ci := 8) rfl rfl (by decide) rfl hl.1 (Nat.le_of_ble_eq_true rfl) dX11_fault_8 rfl (fun H locs X => ?_)
  exact r_I hx hb hr hlocks X hf dX11_fault_11
end
theorem dX11_lay_0 : decode bX11_lay 0 = .ok (.aload_n 0, 1) := by decide +kernel
theorem dX11_lay_1 : decode bX11_lay 1 = .ok (.getfield 10, 3) := by decide +kernel
theorem dX11_lay_4 : decode bX11_lay 4 = .ok (.aload_n 0, 1) := by decide +kernel
theorem dX11_lay_5 : decode bX11_lay 5 = .ok (.getfield 23, 3) := by decide +kernel
theorem dX11_lay_8 : decode bX11_lay 8 = .ok (.invokevirtual 105, 3) := by decide +kernel
theorem dX11_lay_11 : decode bX11_lay 11 = .ok (.bipush (-4), 2) := by decide +kernel
theorem dX11_lay_13 : decode bX11_lay 13 = .ok (.if_icmp .ne 13, 3) := by decide +kernel
theorem dX11_lay_16 : decode bX11_lay 16 = .ok (.aload_n 0, 1) := by decide +kernel
theorem dX11_lay_17 : decode bX11_lay 17 = .ok (.getfield 23, 3) := by decide +kernel
theorem dX11_lay_20 : decode bX11_lay 20 = .ok (.getfield 116, 3) := by decide +kernel
theorem dX11_lay_23 : decode bX11_lay 23 = .ok (.ifCond .ne 6, 3) := by decide +kernel
theorem dX11_lay_26 : decode bX11_lay 26 = .ok (.bipush (-2), 2) := by decide +kernel
theorem dX11_lay_28 : decode bX11_lay 28 = .ok (.ireturn, 1) := by decide +kernel
theorem dX11_lay_29 : decode bX11_lay 29 = .ok (.aload_n 0, 1) := by decide +kernel
theorem dX11_lay_30 : decode bX11_lay 30 = .ok (.getfield 19, 3) := by decide +kernel
theorem dX11_lay_33 : decode bX11_lay 33 = .ok (.astore_n 1, 1) := by decide +kernel
theorem dX11_lay_34 : decode bX11_lay 34 = .ok (.aload_n 0, 1) := by decide +kernel
theorem dX11_lay_35 : decode bX11_lay 35 = .ok (.aload_n 0, 1) := by decide +kernel
theorem dX11_lay_36 : decode bX11_lay 36 = .ok (.getfield 23, 3) := by decide +kernel
theorem dX11_lay_39 : decode bX11_lay 39 = .ok (.putfield 19, 3) := by decide +kernel
theorem dX11_lay_42 : decode bX11_lay 42 = .ok (.aload_n 0, 1) := by decide +kernel
theorem dX11_lay_43 : decode bX11_lay 43 = .ok (.aload_n 1, 1) := by decide +kernel
theorem dX11_lay_44 : decode bX11_lay 44 = .ok (.putfield 23, 3) := by decide +kernel
theorem dX11_lay_47 : decode bX11_lay 47 = .ok (.aload_n 0, 1) := by decide +kernel
theorem dX11_lay_48 : decode bX11_lay 48 = .ok (.getfield 29, 3) := by decide +kernel
theorem dX11_lay_51 : decode bX11_lay 51 = .ok (.iconst 0, 1) := by decide +kernel
theorem dX11_lay_52 : decode bX11_lay 52 = .ok (.invokevirtual 119, 3) := by decide +kernel
theorem dX11_lay_55 : decode bX11_lay 55 = .ok (.aload_n 0, 1) := by decide +kernel
theorem dX11_lay_56 : decode bX11_lay 56 = .ok (.getfield 38, 3) := by decide +kernel
theorem dX11_lay_59 : decode bX11_lay 59 = .ok (.iconst 0, 1) := by decide +kernel
theorem dX11_lay_60 : decode bX11_lay 60 = .ok (.putfield 123, 3) := by decide +kernel
theorem dX11_lay_63 : decode bX11_lay 63 = .ok (.aload_n 0, 1) := by decide +kernel
theorem dX11_lay_64 : decode bX11_lay 64 = .ok (.getfield 42, 3) := by decide +kernel
theorem dX11_lay_67 : decode bX11_lay 67 = .ok (.iconst 0, 1) := by decide +kernel
theorem dX11_lay_68 : decode bX11_lay 68 = .ok (.putfield 123, 3) := by decide +kernel
theorem dX11_lay_71 : decode bX11_lay 71 = .ok (.aload_n 0, 1) := by decide +kernel
theorem dX11_lay_72 : decode bX11_lay 72 = .ok (.getfield 48, 3) := by decide +kernel
theorem dX11_lay_75 : decode bX11_lay 75 = .ok (.iconst 0, 1) := by decide +kernel
theorem dX11_lay_76 : decode bX11_lay 76 = .ok (.putfield 126, 3) := by decide +kernel
theorem dX11_lay_79 : decode bX11_lay 79 = .ok (.aload_n 0, 1) := by decide +kernel
theorem dX11_lay_80 : decode bX11_lay 80 = .ok (.getfield 55, 3) := by decide +kernel
theorem dX11_lay_83 : decode bX11_lay 83 = .ok (.iconst 0, 1) := by decide +kernel
theorem dX11_lay_84 : decode bX11_lay 84 = .ok (.putfield 127, 3) := by decide +kernel
theorem dX11_lay_87 : decode bX11_lay 87 = .ok (.aload_n 0, 1) := by decide +kernel
theorem dX11_lay_88 : decode bX11_lay 88 = .ok (.getfield 69, 3) := by decide +kernel
theorem dX11_lay_91 : decode bX11_lay 91 = .ok (.aload_n 0, 1) := by decide +kernel
theorem dX11_lay_92 : decode bX11_lay 92 = .ok (.getfield 19, 3) := by decide +kernel
theorem dX11_lay_95 : decode bX11_lay 95 = .ok (.invokevirtual 112, 3) := by decide +kernel
theorem dX11_lay_98 : decode bX11_lay 98 = .ok (.aload_n 0, 1) := by decide +kernel
theorem dX11_lay_99 : decode bX11_lay 99 = .ok (.getfield 19, 3) := by decide +kernel
theorem dX11_lay_102 : decode bX11_lay 102 = .ok (.getfield 128, 3) := by decide +kernel
theorem dX11_lay_105 : decode bX11_lay 105 = .ok (.ireturn, 1) := by decide +kernel
section
variable {p : Program} {l : Launch} {e : Env} {s : State} {m : MethodId} {args : Array Value} {below : List Frame} {meth : Method} {c : Code} {G : GG} {n : Nat} {h' : Hp} {rv : Int32}
set_option maxHeartbeats 4000000
set_option maxRecDepth 100000
theorem k_X11_lay (l : Launch) (G : GG) (n : Nat) (hN : NX ≤ n) {h h' : Hp} {x0 : Nat} {rv : Int32} (hf : f_X11_lay h x0 = some (rv, h')) : CT l G n n yX11_lay (.code yX11_lay bX11_lay 2 (some .int)) 4 0 0 [.ref (bs G + x0)] h h' (some (.int rv)) := by
  refine ct_of (maxL := 2) (ret := (some .int)) (bytes := bX11_lay) (by decide) (Nat.le_of_ble_eq_true rfl) (fun p e s m below meth c C0 X ls hl => ?_)
  have hl : lv_has ls 2 [(0, .ref (bs G + x0))] := hl
  obtain ⟨hx, hb, hr, hml, hown, hts, hK, hlocks, hnm⟩ := id C0
  unfold f_X11_lay at hf
  obtain ⟨o0, hf⟩ := gd_e hf
  refine lv_aload_n hx hb dX11_lay_0 rfl (lv_at hl 0 rfl) ?_
  obtain ⟨g1, hf⟩ := gd_e hf
  refine g_R hx hb hts hown hK X o0 hN g1 fl_X11_10 (by decide) rfl (by decide) dX11_lay_1 ?_
  refine lv_aload_n hx hb dX11_lay_4 rfl (lv_at hl 0 rfl) ?_
  obtain ⟨g2, hf⟩ := gd_e hf
  refine g_R hx hb hts hown hK X o0 hN g2 fl_X11_23 (by decide) rfl (by decide) dX11_lay_5 ?_
  obtain ⟨r3, h4, q5, hf⟩ := bd_e hf
  refine c_V0 (As := [.ref (bs G + (h.2 x0 2))]) (rest := []) (st1 := [.int r3]) hx hb hml hown hts hK X (k_X8_readInto l G n hN q5) g1 hN lc_X8_readInto lv_X11_105 (ci := 8) rfl rfl (by decide) rfl hl.1 (Nat.le_of_ble_eq_true rfl) dX11_lay_8 rfl (fun H locs X => ?_)
  refine lv_bipush (v := (-4 : Int32)) hx hb dX11_lay_11 (by decide) ?_
  refine lv_icmp_ne (tgt := 26) hx hb dX11_lay_13 (by decide) (fun c13 => ?_) (fun c13 => ?_)
  · have hf := ite_f hf c13
    refine lv_bipush (v := (-2 : Int32)) hx hb dX11_lay_26 (by decide) ?_
    exact r_I hx hb hr hlocks X hf dX11_lay_28
  · have hf := ite_t hf c13
    refine lv_aload_n hx hb dX11_lay_16 rfl (lv_at hl 0 rfl) ?_
    obtain ⟨g6, hf⟩ := gd_e hf
    refine g_R hx hb hts hown hK X o0 hN g6 fl_X11_23 (by decide) rfl (by decide) dX11_lay_17 ?_
    refine g_I hx hb hts hown hK X g6 hN fl_X11_116 (by decide) rfl dX11_lay_20 ?_
    refine lv_if_ne (tgt := 29) hx hb dX11_lay_23 (by decide) (fun c23 => ?_) (fun c23 => ?_)
    · have hf := ite_f hf c23
      refine lv_aload_n hx hb dX11_lay_29 rfl (lv_at hl 0 rfl) ?_
      obtain ⟨g7, hf⟩ := gd_e hf
      refine g_R hx hb hts hown hK X o0 hN g7 fl_X11_19 (by decide) rfl (by decide) dX11_lay_30 ?_
      refine lv_astore_n (lv' := [(1, .ref (bs G + (h4.2 x0 1))), (0, .ref (bs G + x0))]) hx hb dX11_lay_33 rfl hl (by decide) rfl (fun ls hl => ?_)
      refine lv_aload_n hx hb dX11_lay_34 rfl (lv_at hl 1 rfl) ?_
      refine lv_aload_n hx hb dX11_lay_35 rfl (lv_at hl 1 rfl) ?_
      obtain ⟨g8, hf⟩ := gd_e hf
      refine g_R hx hb hts hown hK X o0 hN g8 fl_X11_23 (by decide) rfl (by decide) dX11_lay_36 ?_
      refine g_PR hx hb hts hown hK X o0 hN g8 fl_X11_19 ft_11_1 (by decide) rfl (by decide) (fun _ => rfl) (fun _ => rfl) dX11_lay_39 (fun H locs X => ?_)
      obtain ⟨h9, e10, hf⟩ := lt_e hf
      rw [← e10] at X
      refine lv_aload_n hx hb dX11_lay_42 rfl (lv_at hl 1 rfl) ?_
      refine lv_aload_n hx hb dX11_lay_43 rfl (lv_at hl 0 rfl) ?_
      refine g_PR hx hb hts hown hK X o0 hN g7 fl_X11_23 ft_11_2 (by decide) rfl (by decide) (fun _ => rfl) (fun _ => rfl) dX11_lay_44 (fun H locs X => ?_)
      obtain ⟨h11, e12, hf⟩ := lt_e hf
      rw [← e12] at X
      refine lv_aload_n hx hb dX11_lay_47 rfl (lv_at hl 1 rfl) ?_
      obtain ⟨g13, hf⟩ := gd_e hf
      refine g_R hx hb hts hown hK X o0 hN g13 fl_X11_29 (by decide) rfl (by decide) dX11_lay_48 ?_
      refine lv_iconst (v := (0 : Int32)) hx hb dX11_lay_51 (by decide) ?_
      obtain ⟨r14, h15, q16, hf⟩ := bd_e hf
      refine c_V0 (As := [.int (0 : Int32)]) (rest := []) (st1 := []) hx hb hml hown hts hK X (k_X2_begin l G n hN q16) g13 hN lc_X2_begin lv_X11_119 (ci := 2) rfl rfl (by decide) rfl hl.1 (Nat.le_of_ble_eq_true rfl) dX11_lay_52 rfl (fun H locs X => ?_)
      refine lv_aload_n hx hb dX11_lay_55 rfl (lv_at hl 1 rfl) ?_
      obtain ⟨g17, hf⟩ := gd_e hf
      refine g_R hx hb hts hown hK X o0 hN g17 fl_X11_38 (by decide) rfl (by decide) dX11_lay_56 ?_
      refine lv_iconst (v := (0 : Int32)) hx hb dX11_lay_59 (by decide) ?_
      refine g_PI hx hb hts hown hK X g17 hN fl_X11_123 ft_3_0 (by decide) rfl dX11_lay_60 (fun H locs X => ?_)
      obtain ⟨h18, e19, hf⟩ := lt_e hf
      rw [← e19] at X
      refine lv_aload_n hx hb dX11_lay_63 rfl (lv_at hl 1 rfl) ?_
      obtain ⟨g20, hf⟩ := gd_e hf
      refine g_R hx hb hts hown hK X o0 hN g20 fl_X11_42 (by decide) rfl (by decide) dX11_lay_64 ?_
      refine lv_iconst (v := (0 : Int32)) hx hb dX11_lay_67 (by decide) ?_
      refine g_PI hx hb hts hown hK X g20 hN fl_X11_123 ft_3_0 (by decide) rfl dX11_lay_68 (fun H locs X => ?_)
      obtain ⟨h21, e22, hf⟩ := lt_e hf
      rw [← e22] at X
      refine lv_aload_n hx hb dX11_lay_71 rfl (lv_at hl 1 rfl) ?_
      obtain ⟨g23, hf⟩ := gd_e hf
      refine g_R hx hb hts hown hK X o0 hN g23 fl_X11_48 (by decide) rfl (by decide) dX11_lay_72 ?_
      refine lv_iconst (v := (0 : Int32)) hx hb dX11_lay_75 (by decide) ?_
      refine g_PI hx hb hts hown hK X g23 hN fl_X11_126 ft_10_0 (by decide) rfl dX11_lay_76 (fun H locs X => ?_)
      obtain ⟨h24, e25, hf⟩ := lt_e hf
      rw [← e25] at X
      refine lv_aload_n hx hb dX11_lay_79 rfl (lv_at hl 1 rfl) ?_
      obtain ⟨g26, hf⟩ := gd_e hf
      refine g_R hx hb hts hown hK X o0 hN g26 fl_X11_55 (by decide) rfl (by decide) dX11_lay_80 ?_
      refine lv_iconst (v := (0 : Int32)) hx hb dX11_lay_83 (by decide) ?_
      refine g_PI hx hb hts hown hK X g26 hN fl_X11_127 ft_0_0 (by decide) rfl dX11_lay_84 (fun H locs X => ?_)
      obtain ⟨h27, e28, hf⟩ := lt_e hf
      rw [← e28] at X
      refine lv_aload_n hx hb dX11_lay_87 rfl (lv_at hl 1 rfl) ?_
      obtain ⟨g29, hf⟩ := gd_e hf
      refine g_R hx hb hts hown hK X o0 hN g29 fl_X11_69 (by decide) rfl (by decide) dX11_lay_88 ?_
      refine lv_aload_n hx hb dX11_lay_91 rfl (lv_at hl 1 rfl) ?_
      obtain ⟨g30, hf⟩ := gd_e hf
      refine g_R hx hb hts hown hK X o0 hN g30 fl_X11_19 (by decide) rfl (by decide) dX11_lay_92 ?_
      obtain ⟨r31, h32, q33, hf⟩ := bd_e hf
      refine c_V0 (As := [.ref (bs G + (h27.2 x0 1))]) (rest := []) (st1 := []) hx hb hml hown hts hK X (k_X5_forget l G n hN q33) g29 hN lc_X5_forget lv_X11_112 (ci := 5) rfl rfl (by decide) rfl hl.1 (Nat.le_of_ble_eq_true rfl) dX11_lay_95 rfl (fun H locs X => ?_)
      refine lv_aload_n hx hb dX11_lay_98 rfl (lv_at hl 1 rfl) ?_
      obtain ⟨g34, hf⟩ := gd_e hf
      refine g_R hx hb hts hown hK X o0 hN g34 fl_X11_19 (by decide) rfl (by decide) dX11_lay_99 ?_
      refine g_I hx hb hts hown hK X g34 hN fl_X11_128 (by decide) rfl dX11_lay_102 ?_
      exact r_I hx hb hr hlocks X hf dX11_lay_105
    · have hf := ite_t hf c23
      refine lv_bipush (v := (-2 : Int32)) hx hb dX11_lay_26 (by decide) ?_
      exact r_I hx hb hr hlocks X hf dX11_lay_28
end
theorem dX11_holderOf_0 : decode bX11_holderOf 0 = .ok (.iconst 0, 1) := by decide +kernel
theorem dX11_holderOf_1 : decode bX11_holderOf 1 = .ok (.istore_n 2, 1) := by decide +kernel
theorem dX11_holderOf_2 : decode bX11_holderOf 2 = .ok (.iload_n 2, 1) := by decide +kernel
theorem dX11_holderOf_3 : decode bX11_holderOf 3 = .ok (.aload_n 1, 1) := by decide +kernel
theorem dX11_holderOf_4 : decode bX11_holderOf 4 = .ok (.arraylength, 1) := by decide +kernel
theorem dX11_holderOf_5 : decode bX11_holderOf 5 = .ok (.if_icmp .ge 23, 3) := by decide +kernel
theorem dX11_holderOf_8 : decode bX11_holderOf 8 = .ok (.aload_n 1, 1) := by decide +kernel
theorem dX11_holderOf_9 : decode bX11_holderOf 9 = .ok (.iload_n 2, 1) := by decide +kernel
theorem dX11_holderOf_10 : decode bX11_holderOf 10 = .ok (.iaload, 1) := by decide +kernel
theorem dX11_holderOf_11 : decode bX11_holderOf 11 = .ok (.iload_n 0, 1) := by decide +kernel
theorem dX11_holderOf_12 : decode bX11_holderOf 12 = .ok (.iconst 1, 1) := by decide +kernel
theorem dX11_holderOf_13 : decode bX11_holderOf 13 = .ok (.isub, 1) := by decide +kernel
theorem dX11_holderOf_14 : decode bX11_holderOf 14 = .ok (.invokestatic 184, 3) := by decide +kernel
theorem dX11_holderOf_17 : decode bX11_holderOf 17 = .ok (.ifCond .eq 5, 3) := by decide +kernel
theorem dX11_holderOf_20 : decode bX11_holderOf 20 = .ok (.iload_n 2, 1) := by decide +kernel
theorem dX11_holderOf_21 : decode bX11_holderOf 21 = .ok (.ireturn, 1) := by decide +kernel
theorem dX11_holderOf_22 : decode bX11_holderOf 22 = .ok (.iinc 2 1, 3) := by decide +kernel
theorem dX11_holderOf_25 : decode bX11_holderOf 25 = .ok (.goto (-23), 3) := by decide +kernel
theorem dX11_holderOf_28 : decode bX11_holderOf 28 = .ok (.bipush (-4), 2) := by decide +kernel
theorem dX11_holderOf_30 : decode bX11_holderOf 30 = .ok (.ireturn, 1) := by decide +kernel
section
variable {p : Program} {l : Launch} {e : Env} {s : State} {m : MethodId} {args : Array Value} {below : List Frame} {meth : Method} {c : Code} {G : GG} {n : Nat} {h' : Hp} {rv : Int32}
set_option maxHeartbeats 4000000
set_option maxRecDepth 100000
theorem j_X11_holderOf_2 (C0 : Cx p s m args meth c G bX11_holderOf RX11 3 (some .int) "holderOf") (hN : NX ≤ n) : ∀ (fu : Nat), ∀ {H : Heap} {locs : List Loc} {ls : Array Slot} {h : Hp} {x0 : Int32} {x1 : Nat} {x2 : Int32}, XW G n h s 0 H locs → lv_has ls 3 [(0, .int x0), (1, .ref (bs G + x1)), (2, .int x2)] → kd x1 = 13 → f_X11_holderOf_2 fu h x0 x1 x2 = some (rv, h') → W p l e (rmC 1 0 0) s m args below meth c H locs 0 0 (MQ below (QP G n h' (some (.int rv))) args s 0 0 (Ab G)) (F0 m 2 ls []) := by
  obtain ⟨hx, hb, hr, hml, hown, hts, hK, hlocks, hnm⟩ := id C0
  intro fu
  induction fu with
  | zero => intro H locs ls h x0 x1 x2 X hl o1 hf; cases hf
  | succ fu ih =>
    intro H locs ls h x0 x1 x2 X hl o1 hf
    rw [f_X11_holderOf_2] at hf
    refine lv_iload_n hx hb dX11_holderOf_2 rfl (lv_at hl 2 rfl) ?_
    refine lv_aload_n hx hb dX11_holderOf_3 rfl (lv_at hl 1 rfl) ?_
    refine g_al hx hb hK X o1 hN (by decide) dX11_holderOf_4 ?_
    refine lv_icmp_ge (tgt := 28) hx hb dX11_holderOf_5 (by decide) (fun c5 => ?_) (fun c5 => ?_)
    · have hf := ite_t hf c5
      refine lv_bipush (v := (-4 : Int32)) hx hb dX11_holderOf_28 (by decide) ?_
      exact r_I hx hb hr hlocks X hf dX11_holderOf_30
    · have hf := ite_f hf c5
      refine lv_aload_n hx hb dX11_holderOf_8 rfl (lv_at hl 1 rfl) ?_
      refine lv_iload_n hx hb dX11_holderOf_9 rfl (lv_at hl 2 rfl) ?_
      obtain ⟨g1, hf⟩ := gd_e hf
      refine g_ia hx hb hK X o1 hN g1 (by decide) dX11_holderOf_10 ?_
      refine lv_iload_n hx hb dX11_holderOf_11 rfl (lv_at hl 0 rfl) ?_
      refine lv_iconst (v := (1 : Int32)) hx hb dX11_holderOf_12 (by decide) ?_
      refine lv_isub hx hb dX11_holderOf_13 ?_
      obtain ⟨r2, h3, q4, hf⟩ := bd_e hf
      refine c_S0 (As := [.int (h.1 x1 x2.toNatClampNeg), .int (x0 - (1 : Int32))]) (rest := []) (st1 := [.int r2]) hx hb hml hown hts hK X (k_X11_hasBit l G n hN q4) lc_X11_hasBit ls_X11_184 (by decide) rfl hl.1 (Nat.le_of_ble_eq_true rfl) dX11_holderOf_14 rfl (fun H locs X => ?_)
      refine lv_if_eq (tgt := 22) hx hb dX11_holderOf_17 (by decide) (fun c17 => ?_) (fun c17 => ?_)
      · have hf := ite_t hf c17
        refine lv_iinc (v := (x2 + (1 : Int32))) (lv' := [(2, .int (x2 + (1 : Int32))), (0, .int x0), (1, .ref (bs G + x1))]) hx hb dX11_holderOf_22 hl (k := 2) rfl rfl (by decide) rfl (fun ls hl => ?_)
        refine lv_goto (tgt := 2) hx hb dX11_holderOf_25 (by decide) ?_
        exact ih X (lv_sub hl [1, 2, 0] rfl) o1 hf
      · have hf := ite_f hf c17
        refine lv_iload_n hx hb dX11_holderOf_20 rfl (lv_at hl 2 rfl) ?_
        exact r_I hx hb hr hlocks X hf dX11_holderOf_21
theorem k_X11_holderOf (l : Launch) (G : GG) (n : Nat) (hN : NX ≤ n) {h h' : Hp} {x0 : Int32} {x1 : Nat} {rv : Int32} (hf : f_X11_holderOf h x0 x1 = some (rv, h')) : CT l G n n yX11_holderOf (.code yX11_holderOf bX11_holderOf 3 (some .int)) 1 0 0 [.int x0, .ref (bs G + x1)] h h' (some (.int rv)) := by
  refine ct_of (maxL := 3) (ret := (some .int)) (bytes := bX11_holderOf) (by decide) (Nat.le_of_ble_eq_true rfl) (fun p e s m below meth c C0 X ls hl => ?_)
  have hl : lv_has ls 3 [(0, .int x0), (1, .ref (bs G + x1))] := hl
  obtain ⟨hx, hb, hr, hml, hown, hts, hK, hlocks, hnm⟩ := id C0
  unfold f_X11_holderOf at hf
  obtain ⟨o1, hf⟩ := gd_e hf
  refine lv_iconst (v := (0 : Int32)) hx hb dX11_holderOf_0 (by decide) ?_
  refine lv_istore_n (lv' := [(2, .int (0 : Int32)), (0, .int x0), (1, .ref (bs G + x1))]) hx hb dX11_holderOf_1 rfl hl (by decide) rfl (fun ls hl => ?_)
  exact j_X11_holderOf_2 C0 hN FU X (lv_sub hl [1, 2, 0] rfl) o1 hf
end
theorem dX11_number_0 : decode bX11_number 0 = .ok (.aload_n 0, 1) := by decide +kernel
theorem dX11_number_1 : decode bX11_number 1 = .ok (.getfield 19, 3) := by decide +kernel
theorem dX11_number_4 : decode bX11_number 4 = .ok (.iload_n 1, 1) := by decide +kernel
theorem dX11_number_5 : decode bX11_number 5 = .ok (.invokevirtual 131, 3) := by decide +kernel
theorem dX11_number_8 : decode bX11_number 8 = .ok (.ifCond .ne 5, 3) := by decide +kernel
theorem dX11_number_11 : decode bX11_number 11 = .ok (.iconst (-1), 1) := by decide +kernel
theorem dX11_number_12 : decode bX11_number 12 = .ok (.ireturn, 1) := by decide +kernel
theorem dX11_number_13 : decode bX11_number 13 = .ok (.iload_n 2, 1) := by decide +kernel
theorem dX11_number_14 : decode bX11_number 14 = .ok (.tableswitch 76 0 3 #[30, 40, 52, 64], 30) := by decide +kernel
theorem dX11_number_44 : decode bX11_number 44 = .ok (.aload_n 0, 1) := by decide +kernel
theorem dX11_number_45 : decode bX11_number 45 = .ok (.getfield 19, 3) := by decide +kernel
theorem dX11_number_48 : decode bX11_number 48 = .ok (.getfield 135, 3) := by decide +kernel
theorem dX11_number_51 : decode bX11_number 51 = .ok (.iload_n 1, 1) := by decide +kernel
theorem dX11_number_52 : decode bX11_number 52 = .ok (.iaload, 1) := by decide +kernel
theorem dX11_number_53 : decode bX11_number 53 = .ok (.ireturn, 1) := by decide +kernel
theorem dX11_number_54 : decode bX11_number 54 = .ok (.iload_n 1, 1) := by decide +kernel
theorem dX11_number_55 : decode bX11_number 55 = .ok (.aload_n 0, 1) := by decide +kernel
theorem dX11_number_56 : decode bX11_number 56 = .ok (.getfield 19, 3) := by decide +kernel
theorem dX11_number_59 : decode bX11_number 59 = .ok (.getfield 139, 3) := by decide +kernel
theorem dX11_number_62 : decode bX11_number 62 = .ok (.invokestatic 142, 3) := by decide +kernel
theorem dX11_number_65 : decode bX11_number 65 = .ok (.ireturn, 1) := by decide +kernel
theorem dX11_number_66 : decode bX11_number 66 = .ok (.iload_n 1, 1) := by decide +kernel
theorem dX11_number_67 : decode bX11_number 67 = .ok (.aload_n 0, 1) := by decide +kernel
theorem dX11_number_68 : decode bX11_number 68 = .ok (.getfield 29, 3) := by decide +kernel
theorem dX11_number_71 : decode bX11_number 71 = .ok (.getfield 146, 3) := by decide +kernel
theorem dX11_number_74 : decode bX11_number 74 = .ok (.invokestatic 142, 3) := by decide +kernel
theorem dX11_number_77 : decode bX11_number 77 = .ok (.ireturn, 1) := by decide +kernel
theorem dX11_number_78 : decode bX11_number 78 = .ok (.iload_n 1, 1) := by decide +kernel
theorem dX11_number_79 : decode bX11_number 79 = .ok (.aload_n 0, 1) := by decide +kernel
theorem dX11_number_80 : decode bX11_number 80 = .ok (.getfield 29, 3) := by decide +kernel
theorem dX11_number_83 : decode bX11_number 83 = .ok (.getfield 149, 3) := by decide +kernel
theorem dX11_number_86 : decode bX11_number 86 = .ok (.invokestatic 142, 3) := by decide +kernel
theorem dX11_number_89 : decode bX11_number 89 = .ok (.ireturn, 1) := by decide +kernel
theorem dX11_number_90 : decode bX11_number 90 = .ok (.iconst (-1), 1) := by decide +kernel
theorem dX11_number_91 : decode bX11_number 91 = .ok (.ireturn, 1) := by decide +kernel
section
variable {p : Program} {l : Launch} {e : Env} {s : State} {m : MethodId} {args : Array Value} {below : List Frame} {meth : Method} {c : Code} {G : GG} {n : Nat} {h' : Hp} {rv : Int32}
set_option maxHeartbeats 4000000
set_option maxRecDepth 100000
theorem k_X11_number (l : Launch) (G : GG) (n : Nat) (hN : NX ≤ n) {h h' : Hp} {x0 : Nat} {x1 : Int32} {x2 : Int32} {rv : Int32} (hf : f_X11_number h x0 x1 x2 = some (rv, h')) : CT l G n n yX11_number (.code yX11_number bX11_number 3 (some .int)) 2 0 0 [.ref (bs G + x0), .int x1, .int x2] h h' (some (.int rv)) := by
  refine ct_of (maxL := 3) (ret := (some .int)) (bytes := bX11_number) (by decide) (Nat.le_of_ble_eq_true rfl) (fun p e s m below meth c C0 X ls hl => ?_)
  have hl : lv_has ls 3 [(0, .ref (bs G + x0)), (1, .int x1), (2, .int x2)] := hl
  obtain ⟨hx, hb, hr, hml, hown, hts, hK, hlocks, hnm⟩ := id C0
  unfold f_X11_number at hf
  obtain ⟨o0, hf⟩ := gd_e hf
  refine lv_aload_n hx hb dX11_number_0 rfl (lv_at hl 0 rfl) ?_
  obtain ⟨g1, hf⟩ := gd_e hf
  refine g_R hx hb hts hown hK X o0 hN g1 fl_X11_19 (by decide) rfl (by decide) dX11_number_1 ?_
  refine lv_iload_n hx hb dX11_number_4 rfl (lv_at hl 1 rfl) ?_
  obtain ⟨r2, h3, q4, hf⟩ := bd_e hf
  refine c_V0 (As := [.int x1]) (rest := []) (st1 := [.int r2]) hx hb hml hown hts hK X (k_X4_isNumber l G n hN q4) g1 hN lc_X4_isNumber lv_X11_131 (ci := 4) rfl rfl (by decide) rfl hl.1 (Nat.le_of_ble_eq_true rfl) dX11_number_5 rfl (fun H locs X => ?_)
  refine lv_if_ne (tgt := 13) hx hb dX11_number_8 (by decide) (fun c8 => ?_) (fun c8 => ?_)
  · have hf := ite_f hf c8
    refine lv_iload_n hx hb dX11_number_13 rfl (lv_at hl 2 rfl) ?_
    by_cases s14_0 : x2 = (0 : Int32)
    · have hf := ite_t hf s14_0
      refine sw_in (k := (0 : Int32)) (off := 30) (tgt := 44) hx hb dX11_number_14 s14_0 (by decide) (by decide) (by decide) (by decide) ?_
      refine lv_aload_n hx hb dX11_number_44 rfl (lv_at hl 0 rfl) ?_
      obtain ⟨g5, hf⟩ := gd_e hf
      refine g_R hx hb hts hown hK X o0 hN g5 fl_X11_19 (by decide) rfl (by decide) dX11_number_45 ?_
      obtain ⟨g6, hf⟩ := gd_e hf
      refine g_R hx hb hts hown hK X g5 hN g6 fl_X11_135 (by decide) rfl (by decide) dX11_number_48 ?_
      refine lv_iload_n hx hb dX11_number_51 rfl (lv_at hl 1 rfl) ?_
      obtain ⟨g7, hf⟩ := gd_e hf
      refine g_ia hx hb hK X g6 hN g7 (by decide) dX11_number_52 ?_
      exact r_I hx hb hr hlocks X hf dX11_number_53
    have hf := ite_f hf s14_0
    by_cases s14_1 : x2 = (1 : Int32)
    · have hf := ite_t hf s14_1
      refine sw_in (k := (1 : Int32)) (off := 40) (tgt := 54) hx hb dX11_number_14 s14_1 (by decide) (by decide) (by decide) (by decide) ?_
      refine lv_iload_n hx hb dX11_number_54 rfl (lv_at hl 1 rfl) ?_
      refine lv_aload_n hx hb dX11_number_55 rfl (lv_at hl 0 rfl) ?_
      obtain ⟨g8, hf⟩ := gd_e hf
      refine g_R hx hb hts hown hK X o0 hN g8 fl_X11_19 (by decide) rfl (by decide) dX11_number_56 ?_
      obtain ⟨g9, hf⟩ := gd_e hf
      refine g_R hx hb hts hown hK X g8 hN g9 fl_X11_139 (by decide) rfl (by decide) dX11_number_59 ?_
      obtain ⟨r10, h11, q12, hf⟩ := bd_e hf
      refine c_S0 (As := [.int x1, .ref (bs G + (h3.2 (h3.2 x0 1) 6))]) (rest := []) (st1 := [.int r10]) hx hb hml hown hts hK X (k_X11_holderOf l G n hN q12) lc_X11_holderOf ls_X11_142 (by decide) rfl hl.1 (Nat.le_of_ble_eq_true rfl) dX11_number_62 rfl (fun H locs X => ?_)
      exact r_I hx hb hr hlocks X hf dX11_number_65
    have hf := ite_f hf s14_1
    by_cases s14_2 : x2 = (2 : Int32)
    · have hf := ite_t hf s14_2
      refine sw_in (k := (2 : Int32)) (off := 52) (tgt := 66) hx hb dX11_number_14 s14_2 (by decide) (by decide) (by decide) (by decide) ?_
      refine lv_iload_n hx hb dX11_number_66 rfl (lv_at hl 1 rfl) ?_
      refine lv_aload_n hx hb dX11_number_67 rfl (lv_at hl 0 rfl) ?_
      obtain ⟨g13, hf⟩ := gd_e hf
      refine g_R hx hb hts hown hK X o0 hN g13 fl_X11_29 (by decide) rfl (by decide) dX11_number_68 ?_
      obtain ⟨g14, hf⟩ := gd_e hf
      refine g_R hx hb hts hown hK X g13 hN g14 fl_X11_146 (by decide) rfl (by decide) dX11_number_71 ?_
      obtain ⟨r15, h16, q17, hf⟩ := bd_e hf
      refine c_S0 (As := [.int x1, .ref (bs G + (h3.2 (h3.2 x0 3) 0))]) (rest := []) (st1 := [.int r15]) hx hb hml hown hts hK X (k_X11_holderOf l G n hN q17) lc_X11_holderOf ls_X11_142 (by decide) rfl hl.1 (Nat.le_of_ble_eq_true rfl) dX11_number_74 rfl (fun H locs X => ?_)
      exact r_I hx hb hr hlocks X hf dX11_number_77
    have hf := ite_f hf s14_2
    by_cases s14_3 : x2 = (3 : Int32)
    · have hf := ite_t hf s14_3
      refine sw_in (k := (3 : Int32)) (off := 64) (tgt := 78) hx hb dX11_number_14 s14_3 (by decide) (by decide) (by decide) (by decide) ?_
      refine lv_iload_n hx hb dX11_number_78 rfl (lv_at hl 1 rfl) ?_
      refine lv_aload_n hx hb dX11_number_79 rfl (lv_at hl 0 rfl) ?_
      obtain ⟨g18, hf⟩ := gd_e hf
      refine g_R hx hb hts hown hK X o0 hN g18 fl_X11_29 (by decide) rfl (by decide) dX11_number_80 ?_
      obtain ⟨g19, hf⟩ := gd_e hf
      refine g_R hx hb hts hown hK X g18 hN g19 fl_X11_149 (by decide) rfl (by decide) dX11_number_83 ?_
      obtain ⟨r20, h21, q22, hf⟩ := bd_e hf
      refine c_S0 (As := [.int x1, .ref (bs G + (h3.2 (h3.2 x0 3) 1))]) (rest := []) (st1 := [.int r20]) hx hb hml hown hts hK X (k_X11_holderOf l G n hN q22) lc_X11_holderOf ls_X11_142 (by decide) rfl hl.1 (Nat.le_of_ble_eq_true rfl) dX11_number_86 rfl (fun H locs X => ?_)
      exact r_I hx hb hr hlocks X hf dX11_number_89
    have hf := ite_f hf s14_3
    refine sw_df (ex := [(0 : Int32), (1 : Int32), (2 : Int32), (3 : Int32)]) (tgt := 90) hx hb dX11_number_14 (by decide) (by decide) (List.forall_mem_cons.mpr ⟨s14_0, List.forall_mem_cons.mpr ⟨s14_1, List.forall_mem_cons.mpr ⟨s14_2, List.forall_mem_cons.mpr ⟨s14_3, (fun _ hz => absurd hz List.not_mem_nil)⟩⟩⟩⟩) (by decide) ?_
    refine lv_iconst (v := (-1 : Int32)) hx hb dX11_number_90 (by decide) ?_
    exact r_I hx hb hr hlocks X hf dX11_number_91
  · have hf := ite_t hf c8
    refine lv_iconst (v := (-1 : Int32)) hx hb dX11_number_11 (by decide) ?_
    exact r_I hx hb hr hlocks X hf dX11_number_12
end
theorem dX11_sceneNow_0 : decode bX11_sceneNow 0 = .ok (.aload_n 0, 1) := by decide +kernel
theorem dX11_sceneNow_1 : decode bX11_sceneNow 1 = .ok (.getfield 76, 3) := by decide +kernel
theorem dX11_sceneNow_4 : decode bX11_sceneNow 4 = .ok (.aload_n 0, 1) := by decide +kernel
theorem dX11_sceneNow_5 : decode bX11_sceneNow 5 = .ok (.getfield 19, 3) := by decide +kernel
theorem dX11_sceneNow_8 : decode bX11_sceneNow 8 = .ok (.aload_n 0, 1) := by decide +kernel
theorem dX11_sceneNow_9 : decode bX11_sceneNow 9 = .ok (.getfield 29, 3) := by decide +kernel
theorem dX11_sceneNow_12 : decode bX11_sceneNow 12 = .ok (.invokevirtual 319, 3) := by decide +kernel
theorem dX11_sceneNow_15 : decode bX11_sceneNow 15 = .ok (.aload_n 0, 1) := by decide +kernel
theorem dX11_sceneNow_16 : decode bX11_sceneNow 16 = .ok (.getfield 76, 3) := by decide +kernel
theorem dX11_sceneNow_19 : decode bX11_sceneNow 19 = .ok (.areturn, 1) := by decide +kernel
section
variable {p : Program} {l : Launch} {e : Env} {s : State} {m : MethodId} {args : Array Value} {below : List Frame} {meth : Method} {c : Code} {G : GG} {n : Nat} {h' : Hp} {rv : Nat}
set_option maxHeartbeats 4000000
set_option maxRecDepth 100000
theorem k_X11_sceneNow (l : Launch) (G : GG) (n : Nat) (hN : NX ≤ n) {h h' : Hp} {x0 : Nat} {rv : Nat} (hf : f_X11_sceneNow h x0 = some (rv, h')) : CT l G n n yX11_sceneNow (.code yX11_sceneNow bX11_sceneNow 1 (some (.object "TakenNumbers$Scene"))) 3 0 0 [.ref (bs G + x0)] h h' (some (.ref (bs G + rv))) := by
  refine ct_of (maxL := 1) (ret := (some (.object "TakenNumbers$Scene"))) (bytes := bX11_sceneNow) (by decide) (Nat.le_of_ble_eq_true rfl) (fun p e s m below meth c C0 X ls hl => ?_)
  have hl : lv_has ls 1 [(0, .ref (bs G + x0))] := hl
  obtain ⟨hx, hb, hr, hml, hown, hts, hK, hlocks, hnm⟩ := id C0
  unfold f_X11_sceneNow at hf
  obtain ⟨o0, hf⟩ := gd_e hf
  refine lv_aload_n hx hb dX11_sceneNow_0 rfl (lv_at hl 0 rfl) ?_
  obtain ⟨g1, hf⟩ := gd_e hf
  refine g_R hx hb hts hown hK X o0 hN g1 fl_X11_76 (by decide) rfl (by decide) dX11_sceneNow_1 ?_
  refine lv_aload_n hx hb dX11_sceneNow_4 rfl (lv_at hl 0 rfl) ?_
  obtain ⟨g2, hf⟩ := gd_e hf
  refine g_R hx hb hts hown hK X o0 hN g2 fl_X11_19 (by decide) rfl (by decide) dX11_sceneNow_5 ?_
  refine lv_aload_n hx hb dX11_sceneNow_8 rfl (lv_at hl 0 rfl) ?_
  obtain ⟨g3, hf⟩ := gd_e hf
  refine g_R hx hb hts hown hK X o0 hN g3 fl_X11_29 (by decide) rfl (by decide) dX11_sceneNow_9 ?_
  obtain ⟨r4, h5, q6, hf⟩ := bd_e hf
  refine c_V0 (As := [.ref (bs G + (h.2 x0 1)), .ref (bs G + (h.2 x0 3))]) (rest := []) (st1 := []) hx hb hml hown hts hK X (k_X6_setNow l G n hN q6) g1 hN lc_X6_setNow lv_X11_319 (ci := 6) rfl rfl (by decide) rfl hl.1 (Nat.le_of_ble_eq_true rfl) dX11_sceneNow_12 rfl (fun H locs X => ?_)
  refine lv_aload_n hx hb dX11_sceneNow_15 rfl (lv_at hl 0 rfl) ?_
  obtain ⟨g7, hf⟩ := gd_e hf
  refine g_R hx hb hts hown hK X o0 hN g7 fl_X11_76 (by decide) rfl (by decide) dX11_sceneNow_16 ?_
  exact r_A hx hb hr hlocks X hf dX11_sceneNow_19
end
theorem dX11_person_0 : decode bX11_person 0 = .ok (.aload_n 0, 1) := by decide +kernel
theorem dX11_person_1 : decode bX11_person 1 = .ok (.getfield 19, 3) := by decide +kernel
theorem dX11_person_4 : decode bX11_person 4 = .ok (.iload_n 1, 1) := by decide +kernel
theorem dX11_person_5 : decode bX11_person 5 = .ok (.invokevirtual 152, 3) := by decide +kernel
theorem dX11_person_8 : decode bX11_person 8 = .ok (.ifCond .ne 5, 3) := by decide +kernel
theorem dX11_person_11 : decode bX11_person 11 = .ok (.iconst (-1), 1) := by decide +kernel
theorem dX11_person_12 : decode bX11_person 12 = .ok (.ireturn, 1) := by decide +kernel
theorem dX11_person_13 : decode bX11_person 13 = .ok (.iload_n 2, 1) := by decide +kernel
theorem dX11_person_14 : decode bX11_person 14 = .ok (.tableswitch 64 0 2 #[26, 36, 48], 26) := by decide +kernel
theorem dX11_person_40 : decode bX11_person 40 = .ok (.aload_n 0, 1) := by decide +kernel
theorem dX11_person_41 : decode bX11_person 41 = .ok (.getfield 19, 3) := by decide +kernel
theorem dX11_person_44 : decode bX11_person 44 = .ok (.getfield 155, 3) := by decide +kernel
theorem dX11_person_47 : decode bX11_person 47 = .ok (.iload_n 1, 1) := by decide +kernel
theorem dX11_person_48 : decode bX11_person 48 = .ok (.iaload, 1) := by decide +kernel
theorem dX11_person_49 : decode bX11_person 49 = .ok (.ireturn, 1) := by decide +kernel
theorem dX11_person_50 : decode bX11_person 50 = .ok (.aload_n 0, 1) := by decide +kernel
theorem dX11_person_51 : decode bX11_person 51 = .ok (.getfield 29, 3) := by decide +kernel
theorem dX11_person_54 : decode bX11_person 54 = .ok (.getfield 158, 3) := by decide +kernel
theorem dX11_person_57 : decode bX11_person 57 = .ok (.iload_n 1, 1) := by decide +kernel
theorem dX11_person_58 : decode bX11_person 58 = .ok (.ishr, 1) := by decide +kernel
theorem dX11_person_59 : decode bX11_person 59 = .ok (.iconst 1, 1) := by decide +kernel
theorem dX11_person_60 : decode bX11_person 60 = .ok (.iand, 1) := by decide +kernel
theorem dX11_person_61 : decode bX11_person 61 = .ok (.ireturn, 1) := by decide +kernel
theorem dX11_person_62 : decode bX11_person 62 = .ok (.aload_n 0, 1) := by decide +kernel
theorem dX11_person_63 : decode bX11_person 63 = .ok (.invokevirtual 161, 3) := by decide +kernel
theorem dX11_person_66 : decode bX11_person 66 = .ok (.iload_n 1, 1) := by decide +kernel
theorem dX11_person_67 : decode bX11_person 67 = .ok (.aload_n 0, 1) := by decide +kernel
theorem dX11_person_68 : decode bX11_person 68 = .ok (.getfield 29, 3) := by decide +kernel
theorem dX11_person_71 : decode bX11_person 71 = .ok (.invokevirtual 165, 3) := by decide +kernel
theorem dX11_person_74 : decode bX11_person 74 = .ok (.invokevirtual 168, 3) := by decide +kernel
theorem dX11_person_77 : decode bX11_person 77 = .ok (.ireturn, 1) := by decide +kernel
theorem dX11_person_78 : decode bX11_person 78 = .ok (.iconst (-1), 1) := by decide +kernel
theorem dX11_person_79 : decode bX11_person 79 = .ok (.ireturn, 1) := by decide +kernel
section
variable {p : Program} {l : Launch} {e : Env} {s : State} {m : MethodId} {args : Array Value} {below : List Frame} {meth : Method} {c : Code} {G : GG} {n : Nat} {h' : Hp} {rv : Int32}
set_option maxHeartbeats 4000000
set_option maxRecDepth 100000
theorem k_X11_person (l : Launch) (G : GG) (n : Nat) (hN : NX ≤ n) {h h' : Hp} {x0 : Nat} {x1 : Int32} {x2 : Int32} {rv : Int32} (hf : f_X11_person h x0 x1 x2 = some (rv, h')) : CT l G n n yX11_person (.code yX11_person bX11_person 3 (some .int)) 4 0 0 [.ref (bs G + x0), .int x1, .int x2] h h' (some (.int rv)) := by
  refine ct_of (maxL := 3) (ret := (some .int)) (bytes := bX11_person) (by decide) (Nat.le_of_ble_eq_true rfl) (fun p e s m below meth c C0 X ls hl => ?_)
  have hl : lv_has ls 3 [(0, .ref (bs G + x0)), (1, .int x1), (2, .int x2)] := hl
  obtain ⟨hx, hb, hr, hml, hown, hts, hK, hlocks, hnm⟩ := id C0
  unfold f_X11_person at hf
  obtain ⟨o0, hf⟩ := gd_e hf
  refine lv_aload_n hx hb dX11_person_0 rfl (lv_at hl 0 rfl) ?_
  obtain ⟨g1, hf⟩ := gd_e hf
  refine g_R hx hb hts hown hK X o0 hN g1 fl_X11_19 (by decide) rfl (by decide) dX11_person_1 ?_
  refine lv_iload_n hx hb dX11_person_4 rfl (lv_at hl 1 rfl) ?_
  obtain ⟨r2, h3, q4, hf⟩ := bd_e hf
  refine c_V0 (As := [.int x1]) (rest := []) (st1 := [.int r2]) hx hb hml hown hts hK X (k_X4_isPerson l G n hN q4) g1 hN lc_X4_isPerson lv_X11_152 (ci := 4) rfl rfl (by decide) rfl hl.1 (Nat.le_of_ble_eq_true rfl) dX11_person_5 rfl (fun H locs X => ?_)
  refine lv_if_ne (tgt := 13) hx hb dX11_person_8 (by decide) (fun c8 => ?_) (fun c8 => ?_)
  · have hf := ite_f hf c8
    refine lv_iload_n hx hb dX11_person_13 rfl (lv_at hl 2 rfl) ?_
    by_cases s14_0 : x2 = (0 : Int32)
    · have hf := ite_t hf s14_0
      refine sw_in (k := (0 : Int32)) (off := 26) (tgt := 40) hx hb dX11_person_14 s14_0 (by decide) (by decide) (by decide) (by decide) ?_
      refine lv_aload_n hx hb dX11_person_40 rfl (lv_at hl 0 rfl) ?_
      obtain ⟨g5, hf⟩ := gd_e hf
      refine g_R hx hb hts hown hK X o0 hN g5 fl_X11_19 (by decide) rfl (by decide) dX11_person_41 ?_
      obtain ⟨g6, hf⟩ := gd_e hf
      refine g_R hx hb hts hown hK X g5 hN g6 fl_X11_155 (by decide) rfl (by decide) dX11_person_44 ?_
      refine lv_iload_n hx hb dX11_person_47 rfl (lv_at hl 1 rfl) ?_
      obtain ⟨g7, hf⟩ := gd_e hf
      refine g_ia hx hb hK X g6 hN g7 (by decide) dX11_person_48 ?_
      exact r_I hx hb hr hlocks X hf dX11_person_49
    have hf := ite_f hf s14_0
    by_cases s14_1 : x2 = (1 : Int32)
    · have hf := ite_t hf s14_1
      refine sw_in (k := (1 : Int32)) (off := 36) (tgt := 50) hx hb dX11_person_14 s14_1 (by decide) (by decide) (by decide) (by decide) ?_
      refine lv_aload_n hx hb dX11_person_50 rfl (lv_at hl 0 rfl) ?_
      obtain ⟨g8, hf⟩ := gd_e hf
      refine g_R hx hb hts hown hK X o0 hN g8 fl_X11_29 (by decide) rfl (by decide) dX11_person_51 ?_
      refine g_I hx hb hts hown hK X g8 hN fl_X11_158 (by decide) rfl dX11_person_54 ?_
      refine lv_iload_n hx hb dX11_person_57 rfl (lv_at hl 1 rfl) ?_
      refine lv_ishr hx hb dX11_person_58 ?_
      refine lv_iconst (v := (1 : Int32)) hx hb dX11_person_59 (by decide) ?_
      refine lv_iand hx hb dX11_person_60 ?_
      exact r_I hx hb hr hlocks X hf dX11_person_61
    have hf := ite_f hf s14_1
    by_cases s14_2 : x2 = (2 : Int32)
    · have hf := ite_t hf s14_2
      refine sw_in (k := (2 : Int32)) (off := 48) (tgt := 62) hx hb dX11_person_14 s14_2 (by decide) (by decide) (by decide) (by decide) ?_
      refine lv_aload_n hx hb dX11_person_62 rfl (lv_at hl 0 rfl) ?_
      obtain ⟨r9, h10, q11, hf⟩ := bd_e hf
      refine c_V0 (As := []) (rest := []) (st1 := [.ref (bs G + r9)]) hx hb hml hown hts hK X (k_X11_sceneNow l G n hN q11) o0 hN lc_X11_sceneNow lv_X11_161 (ci := 11) rfl rfl (by decide) rfl hl.1 (Nat.le_of_ble_eq_true rfl) dX11_person_63 rfl (fun H locs X => ?_)
      obtain ⟨g12, hf⟩ := gd_e hf
      refine lv_iload_n hx hb dX11_person_66 rfl (lv_at hl 1 rfl) ?_
      refine lv_aload_n hx hb dX11_person_67 rfl (lv_at hl 0 rfl) ?_
      obtain ⟨g13, hf⟩ := gd_e hf
      refine g_R hx hb hts hown hK X o0 hN g13 fl_X11_29 (by decide) rfl (by decide) dX11_person_68 ?_
      obtain ⟨r14, h15, q16, hf⟩ := bd_e hf
      refine c_V0 (As := []) (rest := [.int x1, .ref (bs G + r9)]) (st1 := [.int r14, .int x1, .ref (bs G + r9)]) hx hb hml hown hts hK X (k_X2_taken l G n hN q16) g13 hN lc_X2_taken lv_X11_165 (ci := 2) rfl rfl (by decide) rfl hl.1 (Nat.le_of_ble_eq_true rfl) dX11_person_71 rfl (fun H locs X => ?_)
      obtain ⟨r17, h18, q19, hf⟩ := bd_e hf
      refine c_V0 (As := [.int x1, .int r14]) (rest := []) (st1 := [.int r17]) hx hb hml hown hts hK X (k_X6_mayUse l G n hN q19) g12 hN lc_X6_mayUse lv_X11_168 (ci := 6) rfl rfl (by decide) rfl hl.1 (Nat.le_of_ble_eq_true rfl) dX11_person_74 rfl (fun H locs X => ?_)
      exact r_I hx hb hr hlocks X hf dX11_person_77
    have hf := ite_f hf s14_2
    refine sw_df (ex := [(0 : Int32), (1 : Int32), (2 : Int32)]) (tgt := 78) hx hb dX11_person_14 (by decide) (by decide) (List.forall_mem_cons.mpr ⟨s14_0, List.forall_mem_cons.mpr ⟨s14_1, List.forall_mem_cons.mpr ⟨s14_2, (fun _ hz => absurd hz List.not_mem_nil)⟩⟩⟩) (by decide) ?_
    refine lv_iconst (v := (-1 : Int32)) hx hb dX11_person_78 (by decide) ?_
    exact r_I hx hb hr hlocks X hf dX11_person_79
  · have hf := ite_t hf c8
    refine lv_iconst (v := (-1 : Int32)) hx hb dX11_person_11 (by decide) ?_
    exact r_I hx hb hr hlocks X hf dX11_person_12
end
theorem dX11_law_0 : decode bX11_law 0 = .ok (.iload_n 1, 1) := by decide +kernel
theorem dX11_law_1 : decode bX11_law 1 = .ok (.tableswitch 51 0 2 #[27, 35, 43], 27) := by decide +kernel
theorem dX11_law_28 : decode bX11_law 28 = .ok (.aload_n 0, 1) := by decide +kernel
theorem dX11_law_29 : decode bX11_law 29 = .ok (.getfield 19, 3) := by decide +kernel
theorem dX11_law_32 : decode bX11_law 32 = .ok (.getfield 172, 3) := by decide +kernel
theorem dX11_law_35 : decode bX11_law 35 = .ok (.ireturn, 1) := by decide +kernel
theorem dX11_law_36 : decode bX11_law 36 = .ok (.aload_n 0, 1) := by decide +kernel
theorem dX11_law_37 : decode bX11_law 37 = .ok (.getfield 19, 3) := by decide +kernel
theorem dX11_law_40 : decode bX11_law 40 = .ok (.getfield 175, 3) := by decide +kernel
theorem dX11_law_43 : decode bX11_law 43 = .ok (.ireturn, 1) := by decide +kernel
theorem dX11_law_44 : decode bX11_law 44 = .ok (.aload_n 0, 1) := by decide +kernel
theorem dX11_law_45 : decode bX11_law 45 = .ok (.getfield 19, 3) := by decide +kernel
theorem dX11_law_48 : decode bX11_law 48 = .ok (.getfield 178, 3) := by decide +kernel
theorem dX11_law_51 : decode bX11_law 51 = .ok (.ireturn, 1) := by decide +kernel
theorem dX11_law_52 : decode bX11_law 52 = .ok (.iconst (-1), 1) := by decide +kernel
theorem dX11_law_53 : decode bX11_law 53 = .ok (.ireturn, 1) := by decide +kernel
section
variable {p : Program} {l : Launch} {e : Env} {s : State} {m : MethodId} {args : Array Value} {below : List Frame} {meth : Method} {c : Code} {G : GG} {n : Nat} {h' : Hp} {rv : Int32}
set_option maxHeartbeats 4000000
set_option maxRecDepth 100000
theorem k_X11_law (l : Launch) (G : GG) (n : Nat) (hN : NX ≤ n) {h h' : Hp} {x0 : Nat} {x1 : Int32} {rv : Int32} (hf : f_X11_law h x0 x1 = some (rv, h')) : CT l G n n yX11_law (.code yX11_law bX11_law 2 (some .int)) 0 0 0 [.ref (bs G + x0), .int x1] h h' (some (.int rv)) := by
  refine ct_of (maxL := 2) (ret := (some .int)) (bytes := bX11_law) (by decide) (Nat.le_of_ble_eq_true rfl) (fun p e s m below meth c C0 X ls hl => ?_)
  have hl : lv_has ls 2 [(0, .ref (bs G + x0)), (1, .int x1)] := hl
  obtain ⟨hx, hb, hr, hml, hown, hts, hK, hlocks, hnm⟩ := id C0
  unfold f_X11_law at hf
  obtain ⟨o0, hf⟩ := gd_e hf
  refine lv_iload_n hx hb dX11_law_0 rfl (lv_at hl 1 rfl) ?_
  by_cases s1_0 : x1 = (0 : Int32)
  · have hf := ite_t hf s1_0
    refine sw_in (k := (0 : Int32)) (off := 27) (tgt := 28) hx hb dX11_law_1 s1_0 (by decide) (by decide) (by decide) (by decide) ?_
    refine lv_aload_n hx hb dX11_law_28 rfl (lv_at hl 0 rfl) ?_
    obtain ⟨g1, hf⟩ := gd_e hf
    refine g_R hx hb hts hown hK X o0 hN g1 fl_X11_19 (by decide) rfl (by decide) dX11_law_29 ?_
    refine g_I hx hb hts hown hK X g1 hN fl_X11_172 (by decide) rfl dX11_law_32 ?_
    exact r_I hx hb hr hlocks X hf dX11_law_35
  have hf := ite_f hf s1_0
  by_cases s1_1 : x1 = (1 : Int32)
  · have hf := ite_t hf s1_1
    refine sw_in (k := (1 : Int32)) (off := 35) (tgt := 36) hx hb dX11_law_1 s1_1 (by decide) (by decide) (by decide) (by decide) ?_
    refine lv_aload_n hx hb dX11_law_36 rfl (lv_at hl 0 rfl) ?_
    obtain ⟨g2, hf⟩ := gd_e hf
    refine g_R hx hb hts hown hK X o0 hN g2 fl_X11_19 (by decide) rfl (by decide) dX11_law_37 ?_
    refine g_I hx hb hts hown hK X g2 hN fl_X11_175 (by decide) rfl dX11_law_40 ?_
    exact r_I hx hb hr hlocks X hf dX11_law_43
  have hf := ite_f hf s1_1
  by_cases s1_2 : x1 = (2 : Int32)
  · have hf := ite_t hf s1_2
    refine sw_in (k := (2 : Int32)) (off := 43) (tgt := 44) hx hb dX11_law_1 s1_2 (by decide) (by decide) (by decide) (by decide) ?_
    refine lv_aload_n hx hb dX11_law_44 rfl (lv_at hl 0 rfl) ?_
    obtain ⟨g3, hf⟩ := gd_e hf
    refine g_R hx hb hts hown hK X o0 hN g3 fl_X11_19 (by decide) rfl (by decide) dX11_law_45 ?_
    refine g_I hx hb hts hown hK X g3 hN fl_X11_178 (by decide) rfl dX11_law_48 ?_
    exact r_I hx hb hr hlocks X hf dX11_law_51
  have hf := ite_f hf s1_2
  refine sw_df (ex := [(0 : Int32), (1 : Int32), (2 : Int32)]) (tgt := 52) hx hb dX11_law_1 (by decide) (by decide) (List.forall_mem_cons.mpr ⟨s1_0, List.forall_mem_cons.mpr ⟨s1_1, List.forall_mem_cons.mpr ⟨s1_2, (fun _ hz => absurd hz List.not_mem_nil)⟩⟩⟩) (by decide) ?_
  refine lv_iconst (v := (-1 : Int32)) hx hb dX11_law_52 (by decide) ?_
  exact r_I hx hb hr hlocks X hf dX11_law_53
end
theorem dX11_tell_0 : decode bX11_tell 0 = .ok (.aload_n 0, 1) := by decide +kernel
theorem dX11_tell_1 : decode bX11_tell 1 = .ok (.getfield 19, 3) := by decide +kernel
theorem dX11_tell_4 : decode bX11_tell 4 = .ok (.iload_n 1, 1) := by decide +kernel
theorem dX11_tell_5 : decode bX11_tell 5 = .ok (.invokevirtual 131, 3) := by decide +kernel
theorem dX11_tell_8 : decode bX11_tell 8 = .ok (.ifCond .eq 13, 3) := by decide +kernel
theorem dX11_tell_11 : decode bX11_tell 11 = .ok (.iload_n 2, 1) := by decide +kernel
theorem dX11_tell_12 : decode bX11_tell 12 = .ok (.iconst 1, 1) := by decide +kernel
theorem dX11_tell_13 : decode bX11_tell 13 = .ok (.if_icmp .lt 8, 3) := by decide +kernel
theorem dX11_tell_16 : decode bX11_tell 16 = .ok (.iload_n 2, 1) := by decide +kernel
theorem dX11_tell_17 : decode bX11_tell 17 = .ok (.iconst 3, 1) := by decide +kernel
theorem dX11_tell_18 : decode bX11_tell 18 = .ok (.if_icmp .le 5, 3) := by decide +kernel
theorem dX11_tell_21 : decode bX11_tell 21 = .ok (.iconst (-1), 1) := by decide +kernel
theorem dX11_tell_22 : decode bX11_tell 22 = .ok (.ireturn, 1) := by decide +kernel
theorem dX11_tell_23 : decode bX11_tell 23 = .ok (.aload_n 0, 1) := by decide +kernel
theorem dX11_tell_24 : decode bX11_tell 24 = .ok (.getfield 48, 3) := by decide +kernel
theorem dX11_tell_27 : decode bX11_tell 27 = .ok (.invokevirtual 181, 3) := by decide +kernel
theorem dX11_tell_30 : decode bX11_tell 30 = .ok (.iload_n 1, 1) := by decide +kernel
theorem dX11_tell_31 : decode bX11_tell 31 = .ok (.iconst 1, 1) := by decide +kernel
theorem dX11_tell_32 : decode bX11_tell 32 = .ok (.isub, 1) := by decide +kernel
theorem dX11_tell_33 : decode bX11_tell 33 = .ok (.invokestatic 184, 3) := by decide +kernel
theorem dX11_tell_36 : decode bX11_tell 36 = .ok (.ifCond .ne 11, 3) := by decide +kernel
theorem dX11_tell_39 : decode bX11_tell 39 = .ok (.iload_n 1, 1) := by decide +kernel
theorem dX11_tell_40 : decode bX11_tell 40 = .ok (.iload_n 2, 1) := by decide +kernel
theorem dX11_tell_41 : decode bX11_tell 41 = .ok (.invokestatic 188, 3) := by decide +kernel
theorem dX11_tell_44 : decode bX11_tell 44 = .ok (.ifCond .ne 6, 3) := by decide +kernel
theorem dX11_tell_47 : decode bX11_tell 47 = .ok (.bipush (-2), 2) := by decide +kernel
theorem dX11_tell_49 : decode bX11_tell 49 = .ok (.ireturn, 1) := by decide +kernel
theorem dX11_tell_50 : decode bX11_tell 50 = .ok (.aload_n 0, 1) := by decide +kernel
theorem dX11_tell_51 : decode bX11_tell 51 = .ok (.getfield 48, 3) := by decide +kernel
theorem dX11_tell_54 : decode bX11_tell 54 = .ok (.iload_n 1, 1) := by decide +kernel
theorem dX11_tell_55 : decode bX11_tell 55 = .ok (.iload_n 2, 1) := by decide +kernel
theorem dX11_tell_56 : decode bX11_tell 56 = .ok (.invokevirtual 191, 3) := by decide +kernel
theorem dX11_tell_59 : decode bX11_tell 59 = .ok (.ifCond .eq 13, 3) := by decide +kernel
theorem dX11_tell_62 : decode bX11_tell 62 = .ok (.aload_n 0, 1) := by decide +kernel
theorem dX11_tell_63 : decode bX11_tell 63 = .ok (.getfield 48, 3) := by decide +kernel
theorem dX11_tell_66 : decode bX11_tell 66 = .ok (.getfield 126, 3) := by decide +kernel
theorem dX11_tell_69 : decode bX11_tell 69 = .ok (.goto 5, 3) := by decide +kernel
theorem dX11_tell_72 : decode bX11_tell 72 = .ok (.bipush (-3), 2) := by decide +kernel
theorem dX11_tell_74 : decode bX11_tell 74 = .ok (.ireturn, 1) := by decide +kernel
section
variable {p : Program} {l : Launch} {e : Env} {s : State} {m : MethodId} {args : Array Value} {below : List Frame} {meth : Method} {c : Code} {G : GG} {n : Nat} {h' : Hp} {rv : Int32}
set_option maxHeartbeats 4000000
set_option maxRecDepth 100000
theorem k_X11_tell (l : Launch) (G : GG) (n : Nat) (hN : NX ≤ n) {h h' : Hp} {x0 : Nat} {x1 : Int32} {x2 : Int32} {rv : Int32} (hf : f_X11_tell h x0 x1 x2 = some (rv, h')) : CT l G n n yX11_tell (.code yX11_tell bX11_tell 3 (some .int)) 1 0 0 [.ref (bs G + x0), .int x1, .int x2] h h' (some (.int rv)) := by
  refine ct_of (maxL := 3) (ret := (some .int)) (bytes := bX11_tell) (by decide) (Nat.le_of_ble_eq_true rfl) (fun p e s m below meth c C0 X ls hl => ?_)
  have hl : lv_has ls 3 [(0, .ref (bs G + x0)), (1, .int x1), (2, .int x2)] := hl
  obtain ⟨hx, hb, hr, hml, hown, hts, hK, hlocks, hnm⟩ := id C0
  unfold f_X11_tell at hf
  obtain ⟨o0, hf⟩ := gd_e hf
  refine lv_aload_n hx hb dX11_tell_0 rfl (lv_at hl 0 rfl) ?_
  obtain ⟨g1, hf⟩ := gd_e hf
  refine g_R hx hb hts hown hK X o0 hN g1 fl_X11_19 (by decide) rfl (by decide) dX11_tell_1 ?_
  refine lv_iload_n hx hb dX11_tell_4 rfl (lv_at hl 1 rfl) ?_
  obtain ⟨r2, h3, q4, hf⟩ := bd_e hf
  refine c_V0 (As := [.int x1]) (rest := []) (st1 := [.int r2]) hx hb hml hown hts hK X (k_X4_isNumber l G n hN q4) g1 hN lc_X4_isNumber lv_X11_131 (ci := 4) rfl rfl (by decide) rfl hl.1 (Nat.le_of_ble_eq_true rfl) dX11_tell_5 rfl (fun H locs X => ?_)
  refine lv_if_eq (tgt := 21) hx hb dX11_tell_8 (by decide) (fun c8 => ?_) (fun c8 => ?_)
  · have hf := ite_t hf c8
    refine lv_iconst (v := (-1 : Int32)) hx hb dX11_tell_21 (by decide) ?_
    exact r_I hx hb hr hlocks X hf dX11_tell_22
  · have hf := ite_f hf c8
    refine lv_iload_n hx hb dX11_tell_11 rfl (lv_at hl 2 rfl) ?_
    refine lv_iconst (v := (1 : Int32)) hx hb dX11_tell_12 (by decide) ?_
    refine lv_icmp_lt (tgt := 21) hx hb dX11_tell_13 (by decide) (fun c13 => ?_) (fun c13 => ?_)
    · have hf := ite_t hf c13
      refine lv_iconst (v := (-1 : Int32)) hx hb dX11_tell_21 (by decide) ?_
      exact r_I hx hb hr hlocks X hf dX11_tell_22
    · have hf := ite_f hf c13
      refine lv_iload_n hx hb dX11_tell_16 rfl (lv_at hl 2 rfl) ?_
      refine lv_iconst (v := (3 : Int32)) hx hb dX11_tell_17 (by decide) ?_
      refine lv_icmp_le (tgt := 23) hx hb dX11_tell_18 (by decide) (fun c18 => ?_) (fun c18 => ?_)
      · have hf := ite_t hf c18
        refine lv_aload_n hx hb dX11_tell_23 rfl (lv_at hl 0 rfl) ?_
        obtain ⟨g5, hf⟩ := gd_e hf
        refine g_R hx hb hts hown hK X o0 hN g5 fl_X11_48 (by decide) rfl (by decide) dX11_tell_24 ?_
        obtain ⟨r6, h7, q8, hf⟩ := bd_e hf
        refine c_V0 (As := []) (rest := []) (st1 := [.int r6]) hx hb hml hown hts hK X (k_X10_set l G n hN q8) g5 hN lc_X10_set lv_X11_181 (ci := 10) rfl rfl (by decide) rfl hl.1 (Nat.le_of_ble_eq_true rfl) dX11_tell_27 rfl (fun H locs X => ?_)
        refine lv_iload_n hx hb dX11_tell_30 rfl (lv_at hl 1 rfl) ?_
        refine lv_iconst (v := (1 : Int32)) hx hb dX11_tell_31 (by decide) ?_
        refine lv_isub hx hb dX11_tell_32 ?_
        obtain ⟨r9, h10, q11, hf⟩ := bd_e hf
        refine c_S0 (As := [.int r6, .int (x1 - (1 : Int32))]) (rest := []) (st1 := [.int r9]) hx hb hml hown hts hK X (k_X11_hasBit l G n hN q11) lc_X11_hasBit ls_X11_184 (by decide) rfl hl.1 (Nat.le_of_ble_eq_true rfl) dX11_tell_33 rfl (fun H locs X => ?_)
        refine lv_if_ne (tgt := 47) hx hb dX11_tell_36 (by decide) (fun c36 => ?_) (fun c36 => ?_)
        · have hf := ite_f hf c36
          refine lv_bipush (v := (-2 : Int32)) hx hb dX11_tell_47 (by decide) ?_
          exact r_I hx hb hr hlocks X hf dX11_tell_49
        · have hf := ite_t hf c36
          refine lv_iload_n hx hb dX11_tell_39 rfl (lv_at hl 1 rfl) ?_
          refine lv_iload_n hx hb dX11_tell_40 rfl (lv_at hl 2 rfl) ?_
          obtain ⟨r12, h13, q14, hf⟩ := bd_e hf
          refine c_S0 (As := [.int x1, .int x2]) (rest := []) (st1 := [.int r12]) hx hb hml hown hts hK X (k_X11_canStand l G n hN q14) lc_X11_canStand ls_X11_188 (by decide) rfl hl.1 (Nat.le_of_ble_eq_true rfl) dX11_tell_41 rfl (fun H locs X => ?_)
          refine lv_if_ne (tgt := 50) hx hb dX11_tell_44 (by decide) (fun c44 => ?_) (fun c44 => ?_)
          · have hf := ite_f hf c44
            refine lv_aload_n hx hb dX11_tell_50 rfl (lv_at hl 0 rfl) ?_
            obtain ⟨g15, hf⟩ := gd_e hf
            refine g_R hx hb hts hown hK X o0 hN g15 fl_X11_48 (by decide) rfl (by decide) dX11_tell_51 ?_
            refine lv_iload_n hx hb dX11_tell_54 rfl (lv_at hl 1 rfl) ?_
            refine lv_iload_n hx hb dX11_tell_55 rfl (lv_at hl 2 rfl) ?_
            obtain ⟨r16, h17, q18, hf⟩ := bd_e hf
            refine c_V0 (As := [.int x1, .int x2]) (rest := []) (st1 := [.int r16]) hx hb hml hown hts hK X (k_X10_append l G n hN q18) g15 hN lc_X10_append lv_X11_191 (ci := 10) rfl rfl (by decide) rfl hl.1 (Nat.le_of_ble_eq_true rfl) dX11_tell_56 rfl (fun H locs X => ?_)
            refine lv_if_eq (tgt := 72) hx hb dX11_tell_59 (by decide) (fun c59 => ?_) (fun c59 => ?_)
            · have hf := ite_t hf c59
              refine lv_bipush (v := (-3 : Int32)) hx hb dX11_tell_72 (by decide) ?_
              exact r_I hx hb hr hlocks X hf dX11_tell_74
            · have hf := ite_f hf c59
              refine lv_aload_n hx hb dX11_tell_62 rfl (lv_at hl 0 rfl) ?_
              obtain ⟨g19, hf⟩ := gd_e hf
              refine g_R hx hb hts hown hK X o0 hN g19 fl_X11_48 (by decide) rfl (by decide) dX11_tell_63 ?_
              refine g_I hx hb hts hown hK X g19 hN fl_X11_126 (by decide) rfl dX11_tell_66 ?_
              refine lv_goto (tgt := 74) hx hb dX11_tell_69 (by decide) ?_
              exact r_I hx hb hr hlocks X hf dX11_tell_74
          · have hf := ite_t hf c44
            refine lv_bipush (v := (-2 : Int32)) hx hb dX11_tell_47 (by decide) ?_
            exact r_I hx hb hr hlocks X hf dX11_tell_49
      · have hf := ite_f hf c18
        refine lv_iconst (v := (-1 : Int32)) hx hb dX11_tell_21 (by decide) ?_
        exact r_I hx hb hr hlocks X hf dX11_tell_22
end
theorem dX11_hush_0 : decode bX11_hush 0 = .ok (.aload_n 0, 1) := by decide +kernel
theorem dX11_hush_1 : decode bX11_hush 1 = .ok (.getfield 48, 3) := by decide +kernel
theorem dX11_hush_4 : decode bX11_hush 4 = .ok (.getfield 126, 3) := by decide +kernel
theorem dX11_hush_7 : decode bX11_hush 7 = .ok (.istore_n 1, 1) := by decide +kernel
theorem dX11_hush_8 : decode bX11_hush 8 = .ok (.aload_n 0, 1) := by decide +kernel
theorem dX11_hush_9 : decode bX11_hush 9 = .ok (.getfield 48, 3) := by decide +kernel
theorem dX11_hush_12 : decode bX11_hush 12 = .ok (.iconst 0, 1) := by decide +kernel
theorem dX11_hush_13 : decode bX11_hush 13 = .ok (.putfield 126, 3) := by decide +kernel
theorem dX11_hush_16 : decode bX11_hush 16 = .ok (.iload_n 1, 1) := by decide +kernel
theorem dX11_hush_17 : decode bX11_hush 17 = .ok (.ireturn, 1) := by decide +kernel
section
variable {p : Program} {l : Launch} {e : Env} {s : State} {m : MethodId} {args : Array Value} {below : List Frame} {meth : Method} {c : Code} {G : GG} {n : Nat} {h' : Hp} {rv : Int32}
set_option maxHeartbeats 4000000
set_option maxRecDepth 100000
theorem k_X11_hush (l : Launch) (G : GG) (n : Nat) (hN : NX ≤ n) {h h' : Hp} {x0 : Nat} {rv : Int32} (hf : f_X11_hush h x0 = some (rv, h')) : CT l G n n yX11_hush (.code yX11_hush bX11_hush 2 (some .int)) 0 0 0 [.ref (bs G + x0)] h h' (some (.int rv)) := by
  refine ct_of (maxL := 2) (ret := (some .int)) (bytes := bX11_hush) (by decide) (Nat.le_of_ble_eq_true rfl) (fun p e s m below meth c C0 X ls hl => ?_)
  have hl : lv_has ls 2 [(0, .ref (bs G + x0))] := hl
  obtain ⟨hx, hb, hr, hml, hown, hts, hK, hlocks, hnm⟩ := id C0
  unfold f_X11_hush at hf
  obtain ⟨o0, hf⟩ := gd_e hf
  refine lv_aload_n hx hb dX11_hush_0 rfl (lv_at hl 0 rfl) ?_
  obtain ⟨g1, hf⟩ := gd_e hf
  refine g_R hx hb hts hown hK X o0 hN g1 fl_X11_48 (by decide) rfl (by decide) dX11_hush_1 ?_
  refine g_I hx hb hts hown hK X g1 hN fl_X11_126 (by decide) rfl dX11_hush_4 ?_
  refine lv_istore_n (lv' := [(1, .int (h.1 (h.2 x0 6) 0)), (0, .ref (bs G + x0))]) hx hb dX11_hush_7 rfl hl (by decide) rfl (fun ls hl => ?_)
  refine lv_aload_n hx hb dX11_hush_8 rfl (lv_at hl 1 rfl) ?_
  obtain ⟨g2, hf⟩ := gd_e hf
  refine g_R hx hb hts hown hK X o0 hN g2 fl_X11_48 (by decide) rfl (by decide) dX11_hush_9 ?_
  refine lv_iconst (v := (0 : Int32)) hx hb dX11_hush_12 (by decide) ?_
  refine g_PI hx hb hts hown hK X g2 hN fl_X11_126 ft_10_0 (by decide) rfl dX11_hush_13 (fun H locs X => ?_)
  obtain ⟨h3, e4, hf⟩ := lt_e hf
  rw [← e4] at X
  refine lv_iload_n hx hb dX11_hush_16 rfl (lv_at hl 0 rfl) ?_
  exact r_I hx hb hr hlocks X hf dX11_hush_17
end
theorem dX11_words_0 : decode bX11_words 0 = .ok (.iload_n 1, 1) := by decide +kernel
theorem dX11_words_1 : decode bX11_words 1 = .ok (.tableswitch 74 0 2 #[27, 39, 51], 27) := by decide +kernel
theorem dX11_words_28 : decode bX11_words 28 = .ok (.aload_n 0, 1) := by decide +kernel
theorem dX11_words_29 : decode bX11_words 29 = .ok (.getfield 48, 3) := by decide +kernel
theorem dX11_words_32 : decode bX11_words 32 = .ok (.invokevirtual 193, 3) := by decide +kernel
theorem dX11_words_35 : decode bX11_words 35 = .ok (.sipush 1000, 3) := by decide +kernel
theorem dX11_words_38 : decode bX11_words 38 = .ok (.iadd, 1) := by decide +kernel
theorem dX11_words_39 : decode bX11_words 39 = .ok (.ireturn, 1) := by decide +kernel
theorem dX11_words_40 : decode bX11_words 40 = .ok (.aload_n 0, 1) := by decide +kernel
theorem dX11_words_41 : decode bX11_words 41 = .ok (.getfield 48, 3) := by decide +kernel
theorem dX11_words_44 : decode bX11_words 44 = .ok (.aload_n 0, 1) := by decide +kernel
theorem dX11_words_45 : decode bX11_words 45 = .ok (.getfield 19, 3) := by decide +kernel
theorem dX11_words_48 : decode bX11_words 48 = .ok (.invokevirtual 196, 3) := by decide +kernel
theorem dX11_words_51 : decode bX11_words 51 = .ok (.ireturn, 1) := by decide +kernel
theorem dX11_words_52 : decode bX11_words 52 = .ok (.aload_n 0, 1) := by decide +kernel
theorem dX11_words_53 : decode bX11_words 53 = .ok (.getfield 48, 3) := by decide +kernel
theorem dX11_words_56 : decode bX11_words 56 = .ok (.aload_n 0, 1) := by decide +kernel
theorem dX11_words_57 : decode bX11_words 57 = .ok (.getfield 19, 3) := by decide +kernel
theorem dX11_words_60 : decode bX11_words 60 = .ok (.getfield 172, 3) := by decide +kernel
theorem dX11_words_63 : decode bX11_words 63 = .ok (.invokevirtual 199, 3) := by decide +kernel
theorem dX11_words_66 : decode bX11_words 66 = .ok (.ifCond .eq 7, 3) := by decide +kernel
theorem dX11_words_69 : decode bX11_words 69 = .ok (.iconst 1, 1) := by decide +kernel
theorem dX11_words_70 : decode bX11_words 70 = .ok (.goto 4, 3) := by decide +kernel
theorem dX11_words_73 : decode bX11_words 73 = .ok (.iconst 0, 1) := by decide +kernel
theorem dX11_words_74 : decode bX11_words 74 = .ok (.ireturn, 1) := by decide +kernel
theorem dX11_words_75 : decode bX11_words 75 = .ok (.iconst (-1), 1) := by decide +kernel
theorem dX11_words_76 : decode bX11_words 76 = .ok (.ireturn, 1) := by decide +kernel
section
variable {p : Program} {l : Launch} {e : Env} {s : State} {m : MethodId} {args : Array Value} {below : List Frame} {meth : Method} {c : Code} {G : GG} {n : Nat} {h' : Hp} {rv : Int32}
set_option maxHeartbeats 4000000
set_option maxRecDepth 100000
theorem k_X11_words (l : Launch) (G : GG) (n : Nat) (hN : NX ≤ n) {h h' : Hp} {x0 : Nat} {x1 : Int32} {rv : Int32} (hf : f_X11_words h x0 x1 = some (rv, h')) : CT l G n n yX11_words (.code yX11_words bX11_words 2 (some .int)) 3 0 0 [.ref (bs G + x0), .int x1] h h' (some (.int rv)) := by
  refine ct_of (maxL := 2) (ret := (some .int)) (bytes := bX11_words) (by decide) (Nat.le_of_ble_eq_true rfl) (fun p e s m below meth c C0 X ls hl => ?_)
  have hl : lv_has ls 2 [(0, .ref (bs G + x0)), (1, .int x1)] := hl
  obtain ⟨hx, hb, hr, hml, hown, hts, hK, hlocks, hnm⟩ := id C0
  unfold f_X11_words at hf
  obtain ⟨o0, hf⟩ := gd_e hf
  refine lv_iload_n hx hb dX11_words_0 rfl (lv_at hl 1 rfl) ?_
  by_cases s1_0 : x1 = (0 : Int32)
  · have hf := ite_t hf s1_0
    refine sw_in (k := (0 : Int32)) (off := 27) (tgt := 28) hx hb dX11_words_1 s1_0 (by decide) (by decide) (by decide) (by decide) ?_
    refine lv_aload_n hx hb dX11_words_28 rfl (lv_at hl 0 rfl) ?_
    obtain ⟨g1, hf⟩ := gd_e hf
    refine g_R hx hb hts hown hK X o0 hN g1 fl_X11_48 (by decide) rfl (by decide) dX11_words_29 ?_
    obtain ⟨r2, h3, q4, hf⟩ := bd_e hf
    refine c_V0 (As := []) (rest := []) (st1 := [.int r2]) hx hb hml hown hts hK X (k_X10_sum l G n hN q4) g1 hN lc_X10_sum lv_X11_193 (ci := 10) rfl rfl (by decide) rfl hl.1 (Nat.le_of_ble_eq_true rfl) dX11_words_32 rfl (fun H locs X => ?_)
    refine lv_sipush (v := (1000 : Int32)) hx hb dX11_words_35 (by decide) ?_
    refine lv_iadd hx hb dX11_words_38 ?_
    exact r_I hx hb hr hlocks X hf dX11_words_39
  have hf := ite_f hf s1_0
  by_cases s1_1 : x1 = (1 : Int32)
  · have hf := ite_t hf s1_1
    refine sw_in (k := (1 : Int32)) (off := 39) (tgt := 40) hx hb dX11_words_1 s1_1 (by decide) (by decide) (by decide) (by decide) ?_
    refine lv_aload_n hx hb dX11_words_40 rfl (lv_at hl 0 rfl) ?_
    obtain ⟨g5, hf⟩ := gd_e hf
    refine g_R hx hb hts hown hK X o0 hN g5 fl_X11_48 (by decide) rfl (by decide) dX11_words_41 ?_
    refine lv_aload_n hx hb dX11_words_44 rfl (lv_at hl 0 rfl) ?_
    obtain ⟨g6, hf⟩ := gd_e hf
    refine g_R hx hb hts hown hK X o0 hN g6 fl_X11_19 (by decide) rfl (by decide) dX11_words_45 ?_
    obtain ⟨r7, h8, q9, hf⟩ := bd_e hf
    refine c_V0 (As := [.ref (bs G + (h.2 x0 1))]) (rest := []) (st1 := [.int r7]) hx hb hml hown hts hK X (k_X10_price l G n hN q9) g5 hN lc_X10_price lv_X11_196 (ci := 10) rfl rfl (by decide) rfl hl.1 (Nat.le_of_ble_eq_true rfl) dX11_words_48 rfl (fun H locs X => ?_)
    exact r_I hx hb hr hlocks X hf dX11_words_51
  have hf := ite_f hf s1_1
  by_cases s1_2 : x1 = (2 : Int32)
  · have hf := ite_t hf s1_2
    refine sw_in (k := (2 : Int32)) (off := 51) (tgt := 52) hx hb dX11_words_1 s1_2 (by decide) (by decide) (by decide) (by decide) ?_
    refine lv_aload_n hx hb dX11_words_52 rfl (lv_at hl 0 rfl) ?_
    obtain ⟨g10, hf⟩ := gd_e hf
    refine g_R hx hb hts hown hK X o0 hN g10 fl_X11_48 (by decide) rfl (by decide) dX11_words_53 ?_
    refine lv_aload_n hx hb dX11_words_56 rfl (lv_at hl 0 rfl) ?_
    obtain ⟨g11, hf⟩ := gd_e hf
    refine g_R hx hb hts hown hK X o0 hN g11 fl_X11_19 (by decide) rfl (by decide) dX11_words_57 ?_
    refine g_I hx hb hts hown hK X g11 hN fl_X11_172 (by decide) rfl dX11_words_60 ?_
    obtain ⟨r12, h13, q14, hf⟩ := bd_e hf
    refine c_V0 (As := [.int (h.1 (h.2 x0 1) 2)]) (rest := []) (st1 := [.int r12]) hx hb hml hown hts hK X (k_X10_areSaying l G n hN q14) g10 hN lc_X10_areSaying lv_X11_199 (ci := 10) rfl rfl (by decide) rfl hl.1 (Nat.le_of_ble_eq_true rfl) dX11_words_63 rfl (fun H locs X => ?_)
    refine lv_if_eq (tgt := 73) hx hb dX11_words_66 (by decide) (fun c66 => ?_) (fun c66 => ?_)
    · have hf := ite_t hf c66
      refine lv_iconst (v := (0 : Int32)) hx hb dX11_words_73 (by decide) ?_
      exact r_I hx hb hr hlocks X hf dX11_words_74
    · have hf := ite_f hf c66
      refine lv_iconst (v := (1 : Int32)) hx hb dX11_words_69 (by decide) ?_
      refine lv_goto (tgt := 74) hx hb dX11_words_70 (by decide) ?_
      exact r_I hx hb hr hlocks X hf dX11_words_74
  have hf := ite_f hf s1_2
  refine sw_df (ex := [(0 : Int32), (1 : Int32), (2 : Int32)]) (tgt := 75) hx hb dX11_words_1 (by decide) (by decide) (List.forall_mem_cons.mpr ⟨s1_0, List.forall_mem_cons.mpr ⟨s1_1, List.forall_mem_cons.mpr ⟨s1_2, (fun _ hz => absurd hz List.not_mem_nil)⟩⟩⟩) (by decide) ?_
  refine lv_iconst (v := (-1 : Int32)) hx hb dX11_words_75 (by decide) ?_
  exact r_I hx hb hr hlocks X hf dX11_words_76
end
theorem dX11_say_0 : decode bX11_say 0 = .ok (.aload_n 0, 1) := by decide +kernel
theorem dX11_say_1 : decode bX11_say 1 = .ok (.getfield 19, 3) := by decide +kernel
theorem dX11_say_4 : decode bX11_say 4 = .ok (.iload_n 1, 1) := by decide +kernel
theorem dX11_say_5 : decode bX11_say 5 = .ok (.invokevirtual 152, 3) := by decide +kernel
theorem dX11_say_8 : decode bX11_say 8 = .ok (.ifCond .ne 5, 3) := by decide +kernel
theorem dX11_say_11 : decode bX11_say 11 = .ok (.iconst (-1), 1) := by decide +kernel
theorem dX11_say_12 : decode bX11_say 12 = .ok (.ireturn, 1) := by decide +kernel
theorem dX11_say_13 : decode bX11_say 13 = .ok (.aload_n 0, 1) := by decide +kernel
theorem dX11_say_14 : decode bX11_say 14 = .ok (.getfield 48, 3) := by decide +kernel
theorem dX11_say_17 : decode bX11_say 17 = .ok (.invokevirtual 181, 3) := by decide +kernel
theorem dX11_say_20 : decode bX11_say 20 = .ok (.istore_n 2, 1) := by decide +kernel
theorem dX11_say_21 : decode bX11_say 21 = .ok (.aload_n 0, 1) := by decide +kernel
theorem dX11_say_22 : decode bX11_say 22 = .ok (.getfield 48, 3) := by decide +kernel
theorem dX11_say_25 : decode bX11_say 25 = .ok (.aload_n 0, 1) := by decide +kernel
theorem dX11_say_26 : decode bX11_say 26 = .ok (.getfield 19, 3) := by decide +kernel
theorem dX11_say_29 : decode bX11_say 29 = .ok (.getfield 172, 3) := by decide +kernel
theorem dX11_say_32 : decode bX11_say 32 = .ok (.invokevirtual 199, 3) := by decide +kernel
theorem dX11_say_35 : decode bX11_say 35 = .ok (.ifCond .eq 26, 3) := by decide +kernel
theorem dX11_say_38 : decode bX11_say 38 = .ok (.aload_n 0, 1) := by decide +kernel
theorem dX11_say_39 : decode bX11_say 39 = .ok (.getfield 48, 3) := by decide +kernel
theorem dX11_say_42 : decode bX11_say 42 = .ok (.invokevirtual 193, 3) := by decide +kernel
theorem dX11_say_45 : decode bX11_say 45 = .ok (.aload_n 0, 1) := by decide +kernel
theorem dX11_say_46 : decode bX11_say 46 = .ok (.getfield 19, 3) := by decide +kernel
theorem dX11_say_49 : decode bX11_say 49 = .ok (.getfield 155, 3) := by decide +kernel
theorem dX11_say_52 : decode bX11_say 52 = .ok (.iload_n 1, 1) := by decide +kernel
theorem dX11_say_53 : decode bX11_say 53 = .ok (.iaload, 1) := by decide +kernel
theorem dX11_say_54 : decode bX11_say 54 = .ok (.if_icmp .ne 7, 3) := by decide +kernel
theorem dX11_say_57 : decode bX11_say 57 = .ok (.iconst 1, 1) := by decide +kernel
theorem dX11_say_58 : decode bX11_say 58 = .ok (.goto 4, 3) := by decide +kernel
theorem dX11_say_61 : decode bX11_say 61 = .ok (.iconst 0, 1) := by decide +kernel
theorem dX11_say_62 : decode bX11_say 62 = .ok (.istore_n 3, 1) := by decide +kernel
theorem dX11_say_63 : decode bX11_say 63 = .ok (.iload_n 2, 1) := by decide +kernel
theorem dX11_say_64 : decode bX11_say 64 = .ok (.aload_n 0, 1) := by decide +kernel
theorem dX11_say_65 : decode bX11_say 65 = .ok (.invokevirtual 161, 3) := by decide +kernel
theorem dX11_say_68 : decode bX11_say 68 = .ok (.iload_n 1, 1) := by decide +kernel
theorem dX11_say_69 : decode bX11_say 69 = .ok (.aload_n 0, 1) := by decide +kernel
theorem dX11_say_70 : decode bX11_say 70 = .ok (.getfield 29, 3) := by decide +kernel
theorem dX11_say_73 : decode bX11_say 73 = .ok (.invokevirtual 165, 3) := by decide +kernel
theorem dX11_say_76 : decode bX11_say 76 = .ok (.invokevirtual 168, 3) := by decide +kernel
theorem dX11_say_79 : decode bX11_say 79 = .ok (.iconst (-1), 1) := by decide +kernel
theorem dX11_say_80 : decode bX11_say 80 = .ok (.ixor, 1) := by decide +kernel
theorem dX11_say_81 : decode bX11_say 81 = .ok (.iand, 1) := by decide +kernel
theorem dX11_say_82 : decode bX11_say 82 = .ok (.ifCond .ne 7, 3) := by decide +kernel
theorem dX11_say_85 : decode bX11_say 85 = .ok (.iconst 1, 1) := by decide +kernel
theorem dX11_say_86 : decode bX11_say 86 = .ok (.goto 4, 3) := by decide +kernel
theorem dX11_say_89 : decode bX11_say 89 = .ok (.iconst 0, 1) := by decide +kernel
theorem dX11_say_90 : decode bX11_say 90 = .ok (.istore 4, 2) := by decide +kernel
theorem dX11_say_92 : decode bX11_say 92 = .ok (.iload_n 3, 1) := by decide +kernel
theorem dX11_say_93 : decode bX11_say 93 = .ok (.ifCond .eq 22, 3) := by decide +kernel
theorem dX11_say_96 : decode bX11_say 96 = .ok (.iload 4, 2) := by decide +kernel
theorem dX11_say_98 : decode bX11_say 98 = .ok (.ifCond .eq 17, 3) := by decide +kernel
theorem dX11_say_101 : decode bX11_say 101 = .ok (.aload_n 0, 1) := by decide +kernel
theorem dX11_say_102 : decode bX11_say 102 = .ok (.getfield 29, 3) := by decide +kernel
theorem dX11_say_105 : decode bX11_say 105 = .ok (.getfield 158, 3) := by decide +kernel
theorem dX11_say_108 : decode bX11_say 108 = .ok (.iload_n 1, 1) := by decide +kernel
theorem dX11_say_109 : decode bX11_say 109 = .ok (.invokestatic 184, 3) := by decide +kernel
theorem dX11_say_112 : decode bX11_say 112 = .ok (.ifCond .eq 6, 3) := by decide +kernel
theorem dX11_say_115 : decode bX11_say 115 = .ok (.bipush (-2), 2) := by decide +kernel
theorem dX11_say_117 : decode bX11_say 117 = .ok (.ireturn, 1) := by decide +kernel
theorem dX11_say_118 : decode bX11_say 118 = .ok (.aload_n 0, 1) := by decide +kernel
theorem dX11_say_119 : decode bX11_say 119 = .ok (.getfield 38, 3) := by decide +kernel
theorem dX11_say_122 : decode bX11_say 122 = .ok (.aload_n 0, 1) := by decide +kernel
theorem dX11_say_123 : decode bX11_say 123 = .ok (.getfield 29, 3) := by decide +kernel
theorem dX11_say_126 : decode bX11_say 126 = .ok (.invokevirtual 202, 3) := by decide +kernel
theorem dX11_say_129 : decode bX11_say 129 = .ok (.aload_n 0, 1) := by decide +kernel
theorem dX11_say_130 : decode bX11_say 130 = .ok (.getfield 29, 3) := by decide +kernel
theorem dX11_say_133 : decode bX11_say 133 = .ok (.iload_n 1, 1) := by decide +kernel
theorem dX11_say_134 : decode bX11_say 134 = .ok (.iload_n 2, 1) := by decide +kernel
theorem dX11_say_135 : decode bX11_say 135 = .ok (.invokevirtual 206, 3) := by decide +kernel
theorem dX11_say_138 : decode bX11_say 138 = .ok (.aload_n 0, 1) := by decide +kernel
theorem dX11_say_139 : decode bX11_say 139 = .ok (.getfield 48, 3) := by decide +kernel
theorem dX11_say_142 : decode bX11_say 142 = .ok (.aload_n 0, 1) := by decide +kernel
theorem dX11_say_143 : decode bX11_say 143 = .ok (.getfield 19, 3) := by decide +kernel
theorem dX11_say_146 : decode bX11_say 146 = .ok (.invokevirtual 196, 3) := by decide +kernel
theorem dX11_say_149 : decode bX11_say 149 = .ok (.ireturn, 1) := by decide +kernel
section
variable {p : Program} {l : Launch} {e : Env} {s : State} {m : MethodId} {args : Array Value} {below : List Frame} {meth : Method} {c : Code} {G : GG} {n : Nat} {h' : Hp} {rv : Int32}
set_option maxHeartbeats 4000000
set_option maxRecDepth 100000
theorem j_X11_say_90 (C0 : Cx p s m args meth c G bX11_say RX11 5 (some .int) "say") (hN : NX ≤ n) {H : Heap} {locs : List Loc} {ls : Array Slot} {h : Hp} {x0 : Nat} {x1 : Int32} {x2 : Int32} {x3 : Int32} {t0 : Int32} (X : XW G n h s 0 H locs) (hl : lv_has ls 5 [(0, .ref (bs G + x0)), (1, .int x1), (2, .int x2), (3, .int x3)]) (o0 : kd x0 = 11) (hf : f_X11_say_90 h x0 x1 x2 x3 t0 = some (rv, h')) : W p l e (rmC 4 0 0) s m args below meth c H locs 0 0 (MQ below (QP G n h' (some (.int rv))) args s 0 0 (Ab G)) (F0 m 90 ls [.int t0]) := by
  obtain ⟨hx, hb, hr, hml, hown, hts, hK, hlocks, hnm⟩ := id C0
  unfold f_X11_say_90 at hf
  refine lv_istore (lv' := [(4, .int t0), (0, .ref (bs G + x0)), (1, .int x1), (2, .int x2), (3, .int x3)]) hx hb dX11_say_90 hl (by decide) rfl (fun ls hl => ?_)
  refine lv_iload_n hx hb dX11_say_92 rfl (lv_at hl 4 rfl) ?_
  refine lv_if_eq (tgt := 115) hx hb dX11_say_93 (by decide) (fun c93 => ?_) (fun c93 => ?_)
  · have hf := ite_t hf c93
    refine lv_bipush (v := (-2 : Int32)) hx hb dX11_say_115 (by decide) ?_
    exact r_I hx hb hr hlocks X hf dX11_say_117
  · have hf := ite_f hf c93
    refine lv_iload hx hb dX11_say_96 (lv_at hl 0 rfl) ?_
    refine lv_if_eq (tgt := 115) hx hb dX11_say_98 (by decide) (fun c98 => ?_) (fun c98 => ?_)
    · have hf := ite_t hf c98
      refine lv_bipush (v := (-2 : Int32)) hx hb dX11_say_115 (by decide) ?_
      exact r_I hx hb hr hlocks X hf dX11_say_117
    · have hf := ite_f hf c98
      refine lv_aload_n hx hb dX11_say_101 rfl (lv_at hl 1 rfl) ?_
      obtain ⟨g1, hf⟩ := gd_e hf
      refine g_R hx hb hts hown hK X o0 hN g1 fl_X11_29 (by decide) rfl (by decide) dX11_say_102 ?_
      refine g_I hx hb hts hown hK X g1 hN fl_X11_158 (by decide) rfl dX11_say_105 ?_
      refine lv_iload_n hx hb dX11_say_108 rfl (lv_at hl 2 rfl) ?_
      obtain ⟨r2, h3, q4, hf⟩ := bd_e hf
      refine c_S0 (As := [.int (h.1 (h.2 x0 3) 2), .int x1]) (rest := []) (st1 := [.int r2]) hx hb hml hown hts hK X (k_X11_hasBit l G n hN q4) lc_X11_hasBit ls_X11_184 (by decide) rfl hl.1 (Nat.le_of_ble_eq_true rfl) dX11_say_109 rfl (fun H locs X => ?_)
      refine lv_if_eq (tgt := 118) hx hb dX11_say_112 (by decide) (fun c112 => ?_) (fun c112 => ?_)
      · have hf := ite_t hf c112
        refine lv_aload_n hx hb dX11_say_118 rfl (lv_at hl 1 rfl) ?_
        obtain ⟨g5, hf⟩ := gd_e hf
        refine g_R hx hb hts hown hK X o0 hN g5 fl_X11_38 (by decide) rfl (by decide) dX11_say_119 ?_
        refine lv_aload_n hx hb dX11_say_122 rfl (lv_at hl 1 rfl) ?_
        obtain ⟨g6, hf⟩ := gd_e hf
        refine g_R hx hb hts hown hK X o0 hN g6 fl_X11_29 (by decide) rfl (by decide) dX11_say_123 ?_
        obtain ⟨r7, h8, q9, hf⟩ := bd_e hf
        refine c_V0 (As := [.ref (bs G + (h3.2 x0 3))]) (rest := []) (st1 := []) hx hb hml hown hts hK X (k_X3_push l G n hN q9) g5 hN lc_X3_push lv_X11_202 (ci := 3) rfl rfl (by decide) rfl hl.1 (Nat.le_of_ble_eq_true rfl) dX11_say_126 rfl (fun H locs X => ?_)
        refine lv_aload_n hx hb dX11_say_129 rfl (lv_at hl 1 rfl) ?_
        obtain ⟨g10, hf⟩ := gd_e hf
        refine g_R hx hb hts hown hK X o0 hN g10 fl_X11_29 (by decide) rfl (by decide) dX11_say_130 ?_
        refine lv_iload_n hx hb dX11_say_133 rfl (lv_at hl 2 rfl) ?_
        refine lv_iload_n hx hb dX11_say_134 rfl (lv_at hl 3 rfl) ?_
        obtain ⟨r11, h12, q13, hf⟩ := bd_e hf
        refine c_V0 (As := [.int x1, .int x2]) (rest := []) (st1 := []) hx hb hml hown hts hK X (k_X2_take l G n hN q13) g10 hN lc_X2_take lv_X11_206 (ci := 2) rfl rfl (by decide) rfl hl.1 (Nat.le_of_ble_eq_true rfl) dX11_say_135 rfl (fun H locs X => ?_)
        refine lv_aload_n hx hb dX11_say_138 rfl (lv_at hl 1 rfl) ?_
        obtain ⟨g14, hf⟩ := gd_e hf
        refine g_R hx hb hts hown hK X o0 hN g14 fl_X11_48 (by decide) rfl (by decide) dX11_say_139 ?_
        refine lv_aload_n hx hb dX11_say_142 rfl (lv_at hl 1 rfl) ?_
        obtain ⟨g15, hf⟩ := gd_e hf
        refine g_R hx hb hts hown hK X o0 hN g15 fl_X11_19 (by decide) rfl (by decide) dX11_say_143 ?_
        obtain ⟨r16, h17, q18, hf⟩ := bd_e hf
        refine c_V0 (As := [.ref (bs G + (h12.2 x0 1))]) (rest := []) (st1 := [.int r16]) hx hb hml hown hts hK X (k_X10_price l G n hN q18) g14 hN lc_X10_price lv_X11_196 (ci := 10) rfl rfl (by decide) rfl hl.1 (Nat.le_of_ble_eq_true rfl) dX11_say_146 rfl (fun H locs X => ?_)
        exact r_I hx hb hr hlocks X hf dX11_say_149
      · have hf := ite_f hf c112
        refine lv_bipush (v := (-2 : Int32)) hx hb dX11_say_115 (by decide) ?_
        exact r_I hx hb hr hlocks X hf dX11_say_117
theorem j_X11_say_62 (C0 : Cx p s m args meth c G bX11_say RX11 5 (some .int) "say") (hN : NX ≤ n) {H : Heap} {locs : List Loc} {ls : Array Slot} {h : Hp} {x0 : Nat} {x1 : Int32} {x2 : Int32} {t0 : Int32} (X : XW G n h s 0 H locs) (hl : lv_has ls 5 [(0, .ref (bs G + x0)), (1, .int x1), (2, .int x2)]) (o0 : kd x0 = 11) (hf : f_X11_say_62 h x0 x1 x2 t0 = some (rv, h')) : W p l e (rmC 4 0 0) s m args below meth c H locs 0 0 (MQ below (QP G n h' (some (.int rv))) args s 0 0 (Ab G)) (F0 m 62 ls [.int t0]) := by
  obtain ⟨hx, hb, hr, hml, hown, hts, hK, hlocks, hnm⟩ := id C0
  unfold f_X11_say_62 at hf
  refine lv_istore_n (lv' := [(3, .int t0), (0, .ref (bs G + x0)), (1, .int x1), (2, .int x2)]) hx hb dX11_say_62 rfl hl (by decide) rfl (fun ls hl => ?_)
  refine lv_iload_n hx hb dX11_say_63 rfl (lv_at hl 3 rfl) ?_
  refine lv_aload_n hx hb dX11_say_64 rfl (lv_at hl 1 rfl) ?_
  obtain ⟨r1, h2, q3, hf⟩ := bd_e hf
  refine c_V0 (As := []) (rest := [.int x2]) (st1 := [.ref (bs G + r1), .int x2]) hx hb hml hown hts hK X (k_X11_sceneNow l G n hN q3) o0 hN lc_X11_sceneNow lv_X11_161 (ci := 11) rfl rfl (by decide) rfl hl.1 (Nat.le_of_ble_eq_true rfl) dX11_say_65 rfl (fun H locs X => ?_)
  obtain ⟨g4, hf⟩ := gd_e hf
  refine lv_iload_n hx hb dX11_say_68 rfl (lv_at hl 2 rfl) ?_
  refine lv_aload_n hx hb dX11_say_69 rfl (lv_at hl 1 rfl) ?_
  obtain ⟨g5, hf⟩ := gd_e hf
  refine g_R hx hb hts hown hK X o0 hN g5 fl_X11_29 (by decide) rfl (by decide) dX11_say_70 ?_
  obtain ⟨r6, h7, q8, hf⟩ := bd_e hf
  refine c_V0 (As := []) (rest := [.int x1, .ref (bs G + r1), .int x2]) (st1 := [.int r6, .int x1, .ref (bs G + r1), .int x2]) hx hb hml hown hts hK X (k_X2_taken l G n hN q8) g5 hN lc_X2_taken lv_X11_165 (ci := 2) rfl rfl (by decide) rfl hl.1 (Nat.le_of_ble_eq_true rfl) dX11_say_73 rfl (fun H locs X => ?_)
  obtain ⟨r9, h10, q11, hf⟩ := bd_e hf
  refine c_V0 (As := [.int x1, .int r6]) (rest := [.int x2]) (st1 := [.int r9, .int x2]) hx hb hml hown hts hK X (k_X6_mayUse l G n hN q11) g4 hN lc_X6_mayUse lv_X11_168 (ci := 6) rfl rfl (by decide) rfl hl.1 (Nat.le_of_ble_eq_true rfl) dX11_say_76 rfl (fun H locs X => ?_)
  refine lv_iconst (v := (-1 : Int32)) hx hb dX11_say_79 (by decide) ?_
  refine lv_ixor hx hb dX11_say_80 ?_
  refine lv_iand hx hb dX11_say_81 ?_
  refine lv_if_ne (tgt := 89) hx hb dX11_say_82 (by decide) (fun c82 => ?_) (fun c82 => ?_)
  · have hf := ite_f hf c82
    refine lv_iconst (v := (0 : Int32)) hx hb dX11_say_89 (by decide) ?_
    exact j_X11_say_90 C0 hN X (lv_sub hl [1, 2, 3, 0] rfl) o0 hf
  · have hf := ite_t hf c82
    refine lv_iconst (v := (1 : Int32)) hx hb dX11_say_85 (by decide) ?_
    refine lv_goto (tgt := 90) hx hb dX11_say_86 (by decide) ?_
    exact j_X11_say_90 C0 hN X (lv_sub hl [1, 2, 3, 0] rfl) o0 hf
theorem j_X11_say_61 (C0 : Cx p s m args meth c G bX11_say RX11 5 (some .int) "say") (hN : NX ≤ n) {H : Heap} {locs : List Loc} {ls : Array Slot} {h : Hp} {x0 : Nat} {x1 : Int32} {x2 : Int32} (X : XW G n h s 0 H locs) (hl : lv_has ls 5 [(0, .ref (bs G + x0)), (1, .int x1), (2, .int x2)]) (o0 : kd x0 = 11) (hf : f_X11_say_61 h x0 x1 x2 = some (rv, h')) : W p l e (rmC 4 0 0) s m args below meth c H locs 0 0 (MQ below (QP G n h' (some (.int rv))) args s 0 0 (Ab G)) (F0 m 61 ls []) := by
  obtain ⟨hx, hb, hr, hml, hown, hts, hK, hlocks, hnm⟩ := id C0
  unfold f_X11_say_61 at hf
  refine lv_iconst (v := (0 : Int32)) hx hb dX11_say_61 (by decide) ?_
  exact j_X11_say_62 C0 hN X (lv_sub hl [0, 1, 2] rfl) o0 hf
theorem k_X11_say (l : Launch) (G : GG) (n : Nat) (hN : NX ≤ n) {h h' : Hp} {x0 : Nat} {x1 : Int32} {rv : Int32} (hf : f_X11_say h x0 x1 = some (rv, h')) : CT l G n n yX11_say (.code yX11_say bX11_say 5 (some .int)) 4 0 0 [.ref (bs G + x0), .int x1] h h' (some (.int rv)) := by
  refine ct_of (maxL := 5) (ret := (some .int)) (bytes := bX11_say) (by decide) (Nat.le_of_ble_eq_true rfl) (fun p e s m below meth c C0 X ls hl => ?_)
  have hl : lv_has ls 5 [(0, .ref (bs G + x0)), (1, .int x1)] := hl
  obtain ⟨hx, hb, hr, hml, hown, hts, hK, hlocks, hnm⟩ := id C0
  unfold f_X11_say at hf
  obtain ⟨o0, hf⟩ := gd_e hf
  refine lv_aload_n hx hb dX11_say_0 rfl (lv_at hl 0 rfl) ?_
  obtain ⟨g1, hf⟩ := gd_e hf
  refine g_R hx hb hts hown hK X o0 hN g1 fl_X11_19 (by decide) rfl (by decide) dX11_say_1 ?_
  refine lv_iload_n hx hb dX11_say_4 rfl (lv_at hl 1 rfl) ?_
  obtain ⟨r2, h3, q4, hf⟩ := bd_e hf
  refine c_V0 (As := [.int x1]) (rest := []) (st1 := [.int r2]) hx hb hml hown hts hK X (k_X4_isPerson l G n hN q4) g1 hN lc_X4_isPerson lv_X11_152 (ci := 4) rfl rfl (by decide) rfl hl.1 (Nat.le_of_ble_eq_true rfl) dX11_say_5 rfl (fun H locs X => ?_)
  refine lv_if_ne (tgt := 13) hx hb dX11_say_8 (by decide) (fun c8 => ?_) (fun c8 => ?_)
  · have hf := ite_f hf c8
    refine lv_aload_n hx hb dX11_say_13 rfl (lv_at hl 0 rfl) ?_
    obtain ⟨g5, hf⟩ := gd_e hf
    refine g_R hx hb hts hown hK X o0 hN g5 fl_X11_48 (by decide) rfl (by decide) dX11_say_14 ?_
    obtain ⟨r6, h7, q8, hf⟩ := bd_e hf
    refine c_V0 (As := []) (rest := []) (st1 := [.int r6]) hx hb hml hown hts hK X (k_X10_set l G n hN q8) g5 hN lc_X10_set lv_X11_181 (ci := 10) rfl rfl (by decide) rfl hl.1 (Nat.le_of_ble_eq_true rfl) dX11_say_17 rfl (fun H locs X => ?_)
    refine lv_istore_n (lv' := [(2, .int r6), (0, .ref (bs G + x0)), (1, .int x1)]) hx hb dX11_say_20 rfl hl (by decide) rfl (fun ls hl => ?_)
    refine lv_aload_n hx hb dX11_say_21 rfl (lv_at hl 1 rfl) ?_
    obtain ⟨g9, hf⟩ := gd_e hf
    refine g_R hx hb hts hown hK X o0 hN g9 fl_X11_48 (by decide) rfl (by decide) dX11_say_22 ?_
    refine lv_aload_n hx hb dX11_say_25 rfl (lv_at hl 1 rfl) ?_
    obtain ⟨g10, hf⟩ := gd_e hf
    refine g_R hx hb hts hown hK X o0 hN g10 fl_X11_19 (by decide) rfl (by decide) dX11_say_26 ?_
    refine g_I hx hb hts hown hK X g10 hN fl_X11_172 (by decide) rfl dX11_say_29 ?_
    obtain ⟨r11, h12, q13, hf⟩ := bd_e hf
    refine c_V0 (As := [.int (h7.1 (h7.2 x0 1) 2)]) (rest := []) (st1 := [.int r11]) hx hb hml hown hts hK X (k_X10_areSaying l G n hN q13) g9 hN lc_X10_areSaying lv_X11_199 (ci := 10) rfl rfl (by decide) rfl hl.1 (Nat.le_of_ble_eq_true rfl) dX11_say_32 rfl (fun H locs X => ?_)
    refine lv_if_eq (tgt := 61) hx hb dX11_say_35 (by decide) (fun c35 => ?_) (fun c35 => ?_)
    · have hf := ite_t hf c35
      exact j_X11_say_61 C0 hN X (lv_sub hl [1, 2, 0] rfl) o0 hf
    · have hf := ite_f hf c35
      refine lv_aload_n hx hb dX11_say_38 rfl (lv_at hl 1 rfl) ?_
      obtain ⟨g14, hf⟩ := gd_e hf
      refine g_R hx hb hts hown hK X o0 hN g14 fl_X11_48 (by decide) rfl (by decide) dX11_say_39 ?_
      obtain ⟨r15, h16, q17, hf⟩ := bd_e hf
      refine c_V0 (As := []) (rest := []) (st1 := [.int r15]) hx hb hml hown hts hK X (k_X10_sum l G n hN q17) g14 hN lc_X10_sum lv_X11_193 (ci := 10) rfl rfl (by decide) rfl hl.1 (Nat.le_of_ble_eq_true rfl) dX11_say_42 rfl (fun H locs X => ?_)
      refine lv_aload_n hx hb dX11_say_45 rfl (lv_at hl 1 rfl) ?_
      obtain ⟨g18, hf⟩ := gd_e hf
      refine g_R hx hb hts hown hK X o0 hN g18 fl_X11_19 (by decide) rfl (by decide) dX11_say_46 ?_
      obtain ⟨g19, hf⟩ := gd_e hf
      refine g_R hx hb hts hown hK X g18 hN g19 fl_X11_155 (by decide) rfl (by decide) dX11_say_49 ?_
      refine lv_iload_n hx hb dX11_say_52 rfl (lv_at hl 2 rfl) ?_
      obtain ⟨g20, hf⟩ := gd_e hf
      refine g_ia hx hb hK X g19 hN g20 (by decide) dX11_say_53 ?_
      refine lv_icmp_ne (tgt := 61) hx hb dX11_say_54 (by decide) (fun c54 => ?_) (fun c54 => ?_)
      · have hf := ite_f hf c54
        exact j_X11_say_61 C0 hN X (lv_sub hl [1, 2, 0] rfl) o0 hf
      · have hf := ite_t hf c54
        refine lv_iconst (v := (1 : Int32)) hx hb dX11_say_57 (by decide) ?_
        refine lv_goto (tgt := 62) hx hb dX11_say_58 (by decide) ?_
        exact j_X11_say_62 C0 hN X (lv_sub hl [1, 2, 0] rfl) o0 hf
  · have hf := ite_t hf c8
    refine lv_iconst (v := (-1 : Int32)) hx hb dX11_say_11 (by decide) ?_
    exact r_I hx hb hr hlocks X hf dX11_say_12
end
theorem dX11_usedNow_0 : decode bX11_usedNow 0 = .ok (.aload_n 0, 1) := by decide +kernel
theorem dX11_usedNow_1 : decode bX11_usedNow 1 = .ok (.getfield 69, 3) := by decide +kernel
theorem dX11_usedNow_4 : decode bX11_usedNow 4 = .ok (.aload_n 0, 1) := by decide +kernel
theorem dX11_usedNow_5 : decode bX11_usedNow 5 = .ok (.invokevirtual 161, 3) := by decide +kernel
theorem dX11_usedNow_8 : decode bX11_usedNow 8 = .ok (.iload_n 1, 1) := by decide +kernel
theorem dX11_usedNow_9 : decode bX11_usedNow 9 = .ok (.aload_n 0, 1) := by decide +kernel
theorem dX11_usedNow_10 : decode bX11_usedNow 10 = .ok (.getfield 29, 3) := by decide +kernel
theorem dX11_usedNow_13 : decode bX11_usedNow 13 = .ok (.invokevirtual 165, 3) := by decide +kernel
theorem dX11_usedNow_16 : decode bX11_usedNow 16 = .ok (.invokevirtual 168, 3) := by decide +kernel
theorem dX11_usedNow_19 : decode bX11_usedNow 19 = .ok (.iload_n 2, 1) := by decide +kernel
theorem dX11_usedNow_20 : decode bX11_usedNow 20 = .ok (.aload_n 0, 1) := by decide +kernel
theorem dX11_usedNow_21 : decode bX11_usedNow 21 = .ok (.getfield 19, 3) := by decide +kernel
theorem dX11_usedNow_24 : decode bX11_usedNow 24 = .ok (.getfield 172, 3) := by decide +kernel
theorem dX11_usedNow_27 : decode bX11_usedNow 27 = .ok (.invokevirtual 244, 3) := by decide +kernel
theorem dX11_usedNow_30 : decode bX11_usedNow 30 = .ok (.ireturn, 1) := by decide +kernel
section
variable {p : Program} {l : Launch} {e : Env} {s : State} {m : MethodId} {args : Array Value} {below : List Frame} {meth : Method} {c : Code} {G : GG} {n : Nat} {h' : Hp} {rv : Int32}
set_option maxHeartbeats 4000000
set_option maxRecDepth 100000
theorem k_X11_usedNow (l : Launch) (G : GG) (n : Nat) (hN : NX ≤ n) {h h' : Hp} {x0 : Nat} {x1 : Int32} {x2 : Int32} {rv : Int32} (hf : f_X11_usedNow h x0 x1 x2 = some (rv, h')) : CT l G n n yX11_usedNow (.code yX11_usedNow bX11_usedNow 3 (some .int)) 4 0 0 [.ref (bs G + x0), .int x1, .int x2] h h' (some (.int rv)) := by
  refine ct_of (maxL := 3) (ret := (some .int)) (bytes := bX11_usedNow) (by decide) (Nat.le_of_ble_eq_true rfl) (fun p e s m below meth c C0 X ls hl => ?_)
  have hl : lv_has ls 3 [(0, .ref (bs G + x0)), (1, .int x1), (2, .int x2)] := hl
  obtain ⟨hx, hb, hr, hml, hown, hts, hK, hlocks, hnm⟩ := id C0
  unfold f_X11_usedNow at hf
  obtain ⟨o0, hf⟩ := gd_e hf
  refine lv_aload_n hx hb dX11_usedNow_0 rfl (lv_at hl 0 rfl) ?_
  obtain ⟨g1, hf⟩ := gd_e hf
  refine g_R hx hb hts hown hK X o0 hN g1 fl_X11_69 (by decide) rfl (by decide) dX11_usedNow_1 ?_
  refine lv_aload_n hx hb dX11_usedNow_4 rfl (lv_at hl 0 rfl) ?_
  obtain ⟨r2, h3, q4, hf⟩ := bd_e hf
  refine c_V0 (As := []) (rest := [.ref (bs G + (h.2 x0 9))]) (st1 := [.ref (bs G + r2), .ref (bs G + (h.2 x0 9))]) hx hb hml hown hts hK X (k_X11_sceneNow l G n hN q4) o0 hN lc_X11_sceneNow lv_X11_161 (ci := 11) rfl rfl (by decide) rfl hl.1 (Nat.le_of_ble_eq_true rfl) dX11_usedNow_5 rfl (fun H locs X => ?_)
  obtain ⟨g5, hf⟩ := gd_e hf
  refine lv_iload_n hx hb dX11_usedNow_8 rfl (lv_at hl 1 rfl) ?_
  refine lv_aload_n hx hb dX11_usedNow_9 rfl (lv_at hl 0 rfl) ?_
  obtain ⟨g6, hf⟩ := gd_e hf
  refine g_R hx hb hts hown hK X o0 hN g6 fl_X11_29 (by decide) rfl (by decide) dX11_usedNow_10 ?_
  obtain ⟨r7, h8, q9, hf⟩ := bd_e hf
  refine c_V0 (As := []) (rest := [.int x1, .ref (bs G + r2), .ref (bs G + (h.2 x0 9))]) (st1 := [.int r7, .int x1, .ref (bs G + r2), .ref (bs G + (h.2 x0 9))]) hx hb hml hown hts hK X (k_X2_taken l G n hN q9) g6 hN lc_X2_taken lv_X11_165 (ci := 2) rfl rfl (by decide) rfl hl.1 (Nat.le_of_ble_eq_true rfl) dX11_usedNow_13 rfl (fun H locs X => ?_)
  obtain ⟨r10, h11, q12, hf⟩ := bd_e hf
  refine c_V0 (As := [.int x1, .int r7]) (rest := [.ref (bs G + (h.2 x0 9))]) (st1 := [.int r10, .ref (bs G + (h.2 x0 9))]) hx hb hml hown hts hK X (k_X6_mayUse l G n hN q12) g5 hN lc_X6_mayUse lv_X11_168 (ci := 6) rfl rfl (by decide) rfl hl.1 (Nat.le_of_ble_eq_true rfl) dX11_usedNow_16 rfl (fun H locs X => ?_)
  refine lv_iload_n hx hb dX11_usedNow_19 rfl (lv_at hl 2 rfl) ?_
  refine lv_aload_n hx hb dX11_usedNow_20 rfl (lv_at hl 0 rfl) ?_
  obtain ⟨g13, hf⟩ := gd_e hf
  refine g_R hx hb hts hown hK X o0 hN g13 fl_X11_19 (by decide) rfl (by decide) dX11_usedNow_21 ?_
  refine g_I hx hb hts hown hK X g13 hN fl_X11_172 (by decide) rfl dX11_usedNow_24 ?_
  obtain ⟨r14, h15, q16, hf⟩ := bd_e hf
  refine c_V0 (As := [.int r10, .int x2, .int (h11.1 (h11.2 x0 1) 2)]) (rest := []) (st1 := [.int r14]) hx hb hml hown hts hK X (k_X5_find l G n hN q16) g1 hN lc_X5_find lv_X11_244 (ci := 5) rfl rfl (by decide) rfl hl.1 (Nat.le_of_ble_eq_true rfl) dX11_usedNow_27 rfl (fun H locs X => ?_)
  exact r_I hx hb hr hlocks X hf dX11_usedNow_30
end
theorem dX11_speak_0 : decode bX11_speak 0 = .ok (.aload_n 0, 1) := by decide +kernel
theorem dX11_speak_1 : decode bX11_speak 1 = .ok (.getfield 19, 3) := by decide +kernel
theorem dX11_speak_4 : decode bX11_speak 4 = .ok (.iload_n 1, 1) := by decide +kernel
theorem dX11_speak_5 : decode bX11_speak 5 = .ok (.invokevirtual 152, 3) := by decide +kernel
theorem dX11_speak_8 : decode bX11_speak 8 = .ok (.ifCond .ne 5, 3) := by decide +kernel
theorem dX11_speak_11 : decode bX11_speak 11 = .ok (.iconst (-1), 1) := by decide +kernel
theorem dX11_speak_12 : decode bX11_speak 12 = .ok (.ireturn, 1) := by decide +kernel
theorem dX11_speak_13 : decode bX11_speak 13 = .ok (.aload_n 0, 1) := by decide +kernel
theorem dX11_speak_14 : decode bX11_speak 14 = .ok (.getfield 29, 3) := by decide +kernel
theorem dX11_speak_17 : decode bX11_speak 17 = .ok (.getfield 158, 3) := by decide +kernel
theorem dX11_speak_20 : decode bX11_speak 20 = .ok (.iload_n 1, 1) := by decide +kernel
theorem dX11_speak_21 : decode bX11_speak 21 = .ok (.invokestatic 184, 3) := by decide +kernel
theorem dX11_speak_24 : decode bX11_speak 24 = .ok (.ifCond .eq 6, 3) := by decide +kernel
theorem dX11_speak_27 : decode bX11_speak 27 = .ok (.bipush (-2), 2) := by decide +kernel
theorem dX11_speak_29 : decode bX11_speak 29 = .ok (.ireturn, 1) := by decide +kernel
theorem dX11_speak_30 : decode bX11_speak 30 = .ok (.aload_n 0, 1) := by decide +kernel
theorem dX11_speak_31 : decode bX11_speak 31 = .ok (.iload_n 1, 1) := by decide +kernel
theorem dX11_speak_32 : decode bX11_speak 32 = .ok (.aload_n 0, 1) := by decide +kernel
theorem dX11_speak_33 : decode bX11_speak 33 = .ok (.getfield 19, 3) := by decide +kernel
theorem dX11_speak_36 : decode bX11_speak 36 = .ok (.getfield 155, 3) := by decide +kernel
theorem dX11_speak_39 : decode bX11_speak 39 = .ok (.iload_n 1, 1) := by decide +kernel
theorem dX11_speak_40 : decode bX11_speak 40 = .ok (.iaload, 1) := by decide +kernel
theorem dX11_speak_41 : decode bX11_speak 41 = .ok (.invokevirtual 210, 3) := by decide +kernel
theorem dX11_speak_44 : decode bX11_speak 44 = .ok (.istore_n 2, 1) := by decide +kernel
theorem dX11_speak_45 : decode bX11_speak 45 = .ok (.iload_n 2, 1) := by decide +kernel
theorem dX11_speak_46 : decode bX11_speak 46 = .ok (.ifCond .ne 6, 3) := by decide +kernel
theorem dX11_speak_49 : decode bX11_speak 49 = .ok (.bipush (-4), 2) := by decide +kernel
theorem dX11_speak_51 : decode bX11_speak 51 = .ok (.ireturn, 1) := by decide +kernel
theorem dX11_speak_52 : decode bX11_speak 52 = .ok (.aload_n 0, 1) := by decide +kernel
theorem dX11_speak_53 : decode bX11_speak 53 = .ok (.getfield 38, 3) := by decide +kernel
theorem dX11_speak_56 : decode bX11_speak 56 = .ok (.aload_n 0, 1) := by decide +kernel
theorem dX11_speak_57 : decode bX11_speak 57 = .ok (.getfield 29, 3) := by decide +kernel
theorem dX11_speak_60 : decode bX11_speak 60 = .ok (.invokevirtual 202, 3) := by decide +kernel
theorem dX11_speak_63 : decode bX11_speak 63 = .ok (.aload_n 0, 1) := by decide +kernel
theorem dX11_speak_64 : decode bX11_speak 64 = .ok (.getfield 29, 3) := by decide +kernel
theorem dX11_speak_67 : decode bX11_speak 67 = .ok (.iload_n 1, 1) := by decide +kernel
theorem dX11_speak_68 : decode bX11_speak 68 = .ok (.iload_n 2, 1) := by decide +kernel
theorem dX11_speak_69 : decode bX11_speak 69 = .ok (.invokevirtual 206, 3) := by decide +kernel
theorem dX11_speak_72 : decode bX11_speak 72 = .ok (.iload_n 2, 1) := by decide +kernel
theorem dX11_speak_73 : decode bX11_speak 73 = .ok (.invokestatic 213, 3) := by decide +kernel
theorem dX11_speak_76 : decode bX11_speak 76 = .ok (.ireturn, 1) := by decide +kernel
section
variable {p : Program} {l : Launch} {e : Env} {s : State} {m : MethodId} {args : Array Value} {below : List Frame} {meth : Method} {c : Code} {G : GG} {n : Nat} {h' : Hp} {rv : Int32}
set_option maxHeartbeats 4000000
set_option maxRecDepth 100000
theorem k_X11_speak (l : Launch) (G : GG) (n : Nat) (hN : NX ≤ n) {h h' : Hp} {x0 : Nat} {x1 : Int32} {rv : Int32} (hf : f_X11_speak h x0 x1 = some (rv, h')) : CT l G n n yX11_speak (.code yX11_speak bX11_speak 3 (some .int)) 5 0 0 [.ref (bs G + x0), .int x1] h h' (some (.int rv)) := by
  refine ct_of (maxL := 3) (ret := (some .int)) (bytes := bX11_speak) (by decide) (Nat.le_of_ble_eq_true rfl) (fun p e s m below meth c C0 X ls hl => ?_)
  have hl : lv_has ls 3 [(0, .ref (bs G + x0)), (1, .int x1)] := hl
  obtain ⟨hx, hb, hr, hml, hown, hts, hK, hlocks, hnm⟩ := id C0
  unfold f_X11_speak at hf
  obtain ⟨o0, hf⟩ := gd_e hf
  refine lv_aload_n hx hb dX11_speak_0 rfl (lv_at hl 0 rfl) ?_
  obtain ⟨g1, hf⟩ := gd_e hf
  refine g_R hx hb hts hown hK X o0 hN g1 fl_X11_19 (by decide) rfl (by decide) dX11_speak_1 ?_
  refine lv_iload_n hx hb dX11_speak_4 rfl (lv_at hl 1 rfl) ?_
  obtain ⟨r2, h3, q4, hf⟩ := bd_e hf
  refine c_V0 (As := [.int x1]) (rest := []) (st1 := [.int r2]) hx hb hml hown hts hK X (k_X4_isPerson l G n hN q4) g1 hN lc_X4_isPerson lv_X11_152 (ci := 4) rfl rfl (by decide) rfl hl.1 (Nat.le_of_ble_eq_true rfl) dX11_speak_5 rfl (fun H locs X => ?_)
  refine lv_if_ne (tgt := 13) hx hb dX11_speak_8 (by decide) (fun c8 => ?_) (fun c8 => ?_)
  · have hf := ite_f hf c8
    refine lv_aload_n hx hb dX11_speak_13 rfl (lv_at hl 0 rfl) ?_
    obtain ⟨g5, hf⟩ := gd_e hf
    refine g_R hx hb hts hown hK X o0 hN g5 fl_X11_29 (by decide) rfl (by decide) dX11_speak_14 ?_
    refine g_I hx hb hts hown hK X g5 hN fl_X11_158 (by decide) rfl dX11_speak_17 ?_
    refine lv_iload_n hx hb dX11_speak_20 rfl (lv_at hl 1 rfl) ?_
    obtain ⟨r6, h7, q8, hf⟩ := bd_e hf
    refine c_S0 (As := [.int (h3.1 (h3.2 x0 3) 2), .int x1]) (rest := []) (st1 := [.int r6]) hx hb hml hown hts hK X (k_X11_hasBit l G n hN q8) lc_X11_hasBit ls_X11_184 (by decide) rfl hl.1 (Nat.le_of_ble_eq_true rfl) dX11_speak_21 rfl (fun H locs X => ?_)
    refine lv_if_eq (tgt := 30) hx hb dX11_speak_24 (by decide) (fun c24 => ?_) (fun c24 => ?_)
    · have hf := ite_t hf c24
      refine lv_aload_n hx hb dX11_speak_30 rfl (lv_at hl 0 rfl) ?_
      refine lv_iload_n hx hb dX11_speak_31 rfl (lv_at hl 1 rfl) ?_
      refine lv_aload_n hx hb dX11_speak_32 rfl (lv_at hl 0 rfl) ?_
      obtain ⟨g9, hf⟩ := gd_e hf
      refine g_R hx hb hts hown hK X o0 hN g9 fl_X11_19 (by decide) rfl (by decide) dX11_speak_33 ?_
      obtain ⟨g10, hf⟩ := gd_e hf
      refine g_R hx hb hts hown hK X g9 hN g10 fl_X11_155 (by decide) rfl (by decide) dX11_speak_36 ?_
      refine lv_iload_n hx hb dX11_speak_39 rfl (lv_at hl 1 rfl) ?_
      obtain ⟨g11, hf⟩ := gd_e hf
      refine g_ia hx hb hK X g10 hN g11 (by decide) dX11_speak_40 ?_
      obtain ⟨r12, h13, q14, hf⟩ := bd_e hf
      refine c_V0 (As := [.int x1, .int (h7.1 (h7.2 (h7.2 x0 1) 7) x1.toNatClampNeg)]) (rest := []) (st1 := [.int r12]) hx hb hml hown hts hK X (k_X11_usedNow l G n hN q14) o0 hN lc_X11_usedNow lv_X11_210 (ci := 11) rfl rfl (by decide) rfl hl.1 (Nat.le_of_ble_eq_true rfl) dX11_speak_41 rfl (fun H locs X => ?_)
      refine lv_istore_n (lv' := [(2, .int r12), (0, .ref (bs G + x0)), (1, .int x1)]) hx hb dX11_speak_44 rfl hl (by decide) rfl (fun ls hl => ?_)
      refine lv_iload_n hx hb dX11_speak_45 rfl (lv_at hl 0 rfl) ?_
      refine lv_if_ne (tgt := 52) hx hb dX11_speak_46 (by decide) (fun c46 => ?_) (fun c46 => ?_)
      · have hf := ite_f hf c46
        refine lv_aload_n hx hb dX11_speak_52 rfl (lv_at hl 1 rfl) ?_
        obtain ⟨g15, hf⟩ := gd_e hf
        refine g_R hx hb hts hown hK X o0 hN g15 fl_X11_38 (by decide) rfl (by decide) dX11_speak_53 ?_
        refine lv_aload_n hx hb dX11_speak_56 rfl (lv_at hl 1 rfl) ?_
        obtain ⟨g16, hf⟩ := gd_e hf
        refine g_R hx hb hts hown hK X o0 hN g16 fl_X11_29 (by decide) rfl (by decide) dX11_speak_57 ?_
        obtain ⟨r17, h18, q19, hf⟩ := bd_e hf
        refine c_V0 (As := [.ref (bs G + (h13.2 x0 3))]) (rest := []) (st1 := []) hx hb hml hown hts hK X (k_X3_push l G n hN q19) g15 hN lc_X3_push lv_X11_202 (ci := 3) rfl rfl (by decide) rfl hl.1 (Nat.le_of_ble_eq_true rfl) dX11_speak_60 rfl (fun H locs X => ?_)
        refine lv_aload_n hx hb dX11_speak_63 rfl (lv_at hl 1 rfl) ?_
        obtain ⟨g20, hf⟩ := gd_e hf
        refine g_R hx hb hts hown hK X o0 hN g20 fl_X11_29 (by decide) rfl (by decide) dX11_speak_64 ?_
        refine lv_iload_n hx hb dX11_speak_67 rfl (lv_at hl 2 rfl) ?_
        refine lv_iload_n hx hb dX11_speak_68 rfl (lv_at hl 0 rfl) ?_
        obtain ⟨r21, h22, q23, hf⟩ := bd_e hf
        refine c_V0 (As := [.int x1, .int r12]) (rest := []) (st1 := []) hx hb hml hown hts hK X (k_X2_take l G n hN q23) g20 hN lc_X2_take lv_X11_206 (ci := 2) rfl rfl (by decide) rfl hl.1 (Nat.le_of_ble_eq_true rfl) dX11_speak_69 rfl (fun H locs X => ?_)
        refine lv_iload_n hx hb dX11_speak_72 rfl (lv_at hl 0 rfl) ?_
        obtain ⟨r24, h25, q26, hf⟩ := bd_e hf
        refine c_S0 (As := [.int r12]) (rest := []) (st1 := [.int r24]) hx hb hml hown hts hK X (k_J6_bitCount_0f7a4 l G n hN q26) lc_J6_bitCount_0f7a4 ls_X11_213 (by decide) rfl hl.1 (Nat.le_of_ble_eq_true rfl) dX11_speak_73 rfl (fun H locs X => ?_)
        exact r_I hx hb hr hlocks X hf dX11_speak_76
      · have hf := ite_t hf c46
        refine lv_bipush (v := (-4 : Int32)) hx hb dX11_speak_49 (by decide) ?_
        exact r_I hx hb hr hlocks X hf dX11_speak_51
    · have hf := ite_f hf c24
      refine lv_bipush (v := (-2 : Int32)) hx hb dX11_speak_27 (by decide) ?_
      exact r_I hx hb hr hlocks X hf dX11_speak_29
  · have hf := ite_t hf c8
    refine lv_iconst (v := (-1 : Int32)) hx hb dX11_speak_11 (by decide) ?_
    exact r_I hx hb hr hlocks X hf dX11_speak_12
end
theorem dX11_lend_0 : decode bX11_lend 0 = .ok (.aload_n 0, 1) := by decide +kernel
theorem dX11_lend_1 : decode bX11_lend 1 = .ok (.getfield 19, 3) := by decide +kernel
theorem dX11_lend_4 : decode bX11_lend 4 = .ok (.iload_n 1, 1) := by decide +kernel
theorem dX11_lend_5 : decode bX11_lend 5 = .ok (.invokevirtual 131, 3) := by decide +kernel
theorem dX11_lend_8 : decode bX11_lend 8 = .ok (.ifCond .eq 14, 3) := by decide +kernel
theorem dX11_lend_11 : decode bX11_lend 11 = .ok (.aload_n 0, 1) := by decide +kernel
theorem dX11_lend_12 : decode bX11_lend 12 = .ok (.getfield 19, 3) := by decide +kernel
theorem dX11_lend_15 : decode bX11_lend 15 = .ok (.iload_n 2, 1) := by decide +kernel
theorem dX11_lend_16 : decode bX11_lend 16 = .ok (.invokevirtual 152, 3) := by decide +kernel
theorem dX11_lend_19 : decode bX11_lend 19 = .ok (.ifCond .ne 5, 3) := by decide +kernel
theorem dX11_lend_22 : decode bX11_lend 22 = .ok (.iconst (-1), 1) := by decide +kernel
theorem dX11_lend_23 : decode bX11_lend 23 = .ok (.ireturn, 1) := by decide +kernel
theorem dX11_lend_24 : decode bX11_lend 24 = .ok (.iload_n 1, 1) := by decide +kernel
theorem dX11_lend_25 : decode bX11_lend 25 = .ok (.aload_n 0, 1) := by decide +kernel
theorem dX11_lend_26 : decode bX11_lend 26 = .ok (.getfield 19, 3) := by decide +kernel
theorem dX11_lend_29 : decode bX11_lend 29 = .ok (.getfield 139, 3) := by decide +kernel
theorem dX11_lend_32 : decode bX11_lend 32 = .ok (.invokestatic 142, 3) := by decide +kernel
theorem dX11_lend_35 : decode bX11_lend 35 = .ok (.istore_n 3, 1) := by decide +kernel
theorem dX11_lend_36 : decode bX11_lend 36 = .ok (.iload_n 3, 1) := by decide +kernel
theorem dX11_lend_37 : decode bX11_lend 37 = .ok (.bipush (-4), 2) := by decide +kernel
theorem dX11_lend_39 : decode bX11_lend 39 = .ok (.if_icmp .eq 32, 3) := by decide +kernel
theorem dX11_lend_42 : decode bX11_lend 42 = .ok (.iload_n 3, 1) := by decide +kernel
theorem dX11_lend_43 : decode bX11_lend 43 = .ok (.iload_n 2, 1) := by decide +kernel
theorem dX11_lend_44 : decode bX11_lend 44 = .ok (.if_icmp .eq 27, 3) := by decide +kernel
theorem dX11_lend_47 : decode bX11_lend 47 = .ok (.aload_n 0, 1) := by decide +kernel
theorem dX11_lend_48 : decode bX11_lend 48 = .ok (.getfield 29, 3) := by decide +kernel
theorem dX11_lend_51 : decode bX11_lend 51 = .ok (.invokevirtual 165, 3) := by decide +kernel
theorem dX11_lend_54 : decode bX11_lend 54 = .ok (.aload_n 0, 1) := by decide +kernel
theorem dX11_lend_55 : decode bX11_lend 55 = .ok (.getfield 29, 3) := by decide +kernel
theorem dX11_lend_58 : decode bX11_lend 58 = .ok (.invokevirtual 219, 3) := by decide +kernel
theorem dX11_lend_61 : decode bX11_lend 61 = .ok (.ior, 1) := by decide +kernel
theorem dX11_lend_62 : decode bX11_lend 62 = .ok (.iload_n 1, 1) := by decide +kernel
theorem dX11_lend_63 : decode bX11_lend 63 = .ok (.iconst 1, 1) := by decide +kernel
theorem dX11_lend_64 : decode bX11_lend 64 = .ok (.isub, 1) := by decide +kernel
theorem dX11_lend_65 : decode bX11_lend 65 = .ok (.invokestatic 184, 3) := by decide +kernel
theorem dX11_lend_68 : decode bX11_lend 68 = .ok (.ifCond .eq 6, 3) := by decide +kernel
theorem dX11_lend_71 : decode bX11_lend 71 = .ok (.bipush (-2), 2) := by decide +kernel
theorem dX11_lend_73 : decode bX11_lend 73 = .ok (.ireturn, 1) := by decide +kernel
theorem dX11_lend_74 : decode bX11_lend 74 = .ok (.aload_n 0, 1) := by decide +kernel
theorem dX11_lend_75 : decode bX11_lend 75 = .ok (.getfield 38, 3) := by decide +kernel
theorem dX11_lend_78 : decode bX11_lend 78 = .ok (.aload_n 0, 1) := by decide +kernel
theorem dX11_lend_79 : decode bX11_lend 79 = .ok (.getfield 29, 3) := by decide +kernel
theorem dX11_lend_82 : decode bX11_lend 82 = .ok (.invokevirtual 202, 3) := by decide +kernel
theorem dX11_lend_85 : decode bX11_lend 85 = .ok (.aload_n 0, 1) := by decide +kernel
theorem dX11_lend_86 : decode bX11_lend 86 = .ok (.getfield 29, 3) := by decide +kernel
theorem dX11_lend_89 : decode bX11_lend 89 = .ok (.getfield 149, 3) := by decide +kernel
theorem dX11_lend_92 : decode bX11_lend 92 = .ok (.iload_n 2, 1) := by decide +kernel
theorem dX11_lend_93 : decode bX11_lend 93 = .ok (.dup2, 1) := by decide +kernel
theorem dX11_lend_94 : decode bX11_lend 94 = .ok (.iaload, 1) := by decide +kernel
theorem dX11_lend_95 : decode bX11_lend 95 = .ok (.iconst 1, 1) := by decide +kernel
theorem dX11_lend_96 : decode bX11_lend 96 = .ok (.iload_n 1, 1) := by decide +kernel
theorem dX11_lend_97 : decode bX11_lend 97 = .ok (.iconst 1, 1) := by decide +kernel
theorem dX11_lend_98 : decode bX11_lend 98 = .ok (.isub, 1) := by decide +kernel
theorem dX11_lend_99 : decode bX11_lend 99 = .ok (.ishl, 1) := by decide +kernel
theorem dX11_lend_100 : decode bX11_lend 100 = .ok (.ior, 1) := by decide +kernel
theorem dX11_lend_101 : decode bX11_lend 101 = .ok (.iastore, 1) := by decide +kernel
theorem dX11_lend_102 : decode bX11_lend 102 = .ok (.aload_n 0, 1) := by decide +kernel
theorem dX11_lend_103 : decode bX11_lend 103 = .ok (.getfield 29, 3) := by decide +kernel
theorem dX11_lend_106 : decode bX11_lend 106 = .ok (.invokevirtual 219, 3) := by decide +kernel
theorem dX11_lend_109 : decode bX11_lend 109 = .ok (.invokestatic 213, 3) := by decide +kernel
theorem dX11_lend_112 : decode bX11_lend 112 = .ok (.ireturn, 1) := by decide +kernel
section
variable {p : Program} {l : Launch} {e : Env} {s : State} {m : MethodId} {args : Array Value} {below : List Frame} {meth : Method} {c : Code} {G : GG} {n : Nat} {h' : Hp} {rv : Int32}
set_option maxHeartbeats 4000000
set_option maxRecDepth 100000
theorem k_X11_lend (l : Launch) (G : GG) (n : Nat) (hN : NX ≤ n) {h h' : Hp} {x0 : Nat} {x1 : Int32} {x2 : Int32} {rv : Int32} (hf : f_X11_lend h x0 x1 x2 = some (rv, h')) : CT l G n n yX11_lend (.code yX11_lend bX11_lend 4 (some .int)) 3 0 0 [.ref (bs G + x0), .int x1, .int x2] h h' (some (.int rv)) := by
  refine ct_of (maxL := 4) (ret := (some .int)) (bytes := bX11_lend) (by decide) (Nat.le_of_ble_eq_true rfl) (fun p e s m below meth c C0 X ls hl => ?_)
  have hl : lv_has ls 4 [(0, .ref (bs G + x0)), (1, .int x1), (2, .int x2)] := hl
  obtain ⟨hx, hb, hr, hml, hown, hts, hK, hlocks, hnm⟩ := id C0
  unfold f_X11_lend at hf
  obtain ⟨o0, hf⟩ := gd_e hf
  refine lv_aload_n hx hb dX11_lend_0 rfl (lv_at hl 0 rfl) ?_
  obtain ⟨g1, hf⟩ := gd_e hf
  refine g_R hx hb hts hown hK X o0 hN g1 fl_X11_19 (by decide) rfl (by decide) dX11_lend_1 ?_
  refine lv_iload_n hx hb dX11_lend_4 rfl (lv_at hl 1 rfl) ?_
  obtain ⟨r2, h3, q4, hf⟩ := bd_e hf
  refine c_V0 (As := [.int x1]) (rest := []) (st1 := [.int r2]) hx hb hml hown hts hK X (k_X4_isNumber l G n hN q4) g1 hN lc_X4_isNumber lv_X11_131 (ci := 4) rfl rfl (by decide) rfl hl.1 (Nat.le_of_ble_eq_true rfl) dX11_lend_5 rfl (fun H locs X => ?_)
  refine lv_if_eq (tgt := 22) hx hb dX11_lend_8 (by decide) (fun c8 => ?_) (fun c8 => ?_)
  · have hf := ite_t hf c8
    refine lv_iconst (v := (-1 : Int32)) hx hb dX11_lend_22 (by decide) ?_
    exact r_I hx hb hr hlocks X hf dX11_lend_23
  · have hf := ite_f hf c8
    refine lv_aload_n hx hb dX11_lend_11 rfl (lv_at hl 0 rfl) ?_
    obtain ⟨g5, hf⟩ := gd_e hf
    refine g_R hx hb hts hown hK X o0 hN g5 fl_X11_19 (by decide) rfl (by decide) dX11_lend_12 ?_
    refine lv_iload_n hx hb dX11_lend_15 rfl (lv_at hl 2 rfl) ?_
    obtain ⟨r6, h7, q8, hf⟩ := bd_e hf
    refine c_V0 (As := [.int x2]) (rest := []) (st1 := [.int r6]) hx hb hml hown hts hK X (k_X4_isPerson l G n hN q8) g5 hN lc_X4_isPerson lv_X11_152 (ci := 4) rfl rfl (by decide) rfl hl.1 (Nat.le_of_ble_eq_true rfl) dX11_lend_16 rfl (fun H locs X => ?_)
    refine lv_if_ne (tgt := 24) hx hb dX11_lend_19 (by decide) (fun c19 => ?_) (fun c19 => ?_)
    · have hf := ite_f hf c19
      refine lv_iload_n hx hb dX11_lend_24 rfl (lv_at hl 1 rfl) ?_
      refine lv_aload_n hx hb dX11_lend_25 rfl (lv_at hl 0 rfl) ?_
      obtain ⟨g9, hf⟩ := gd_e hf
      refine g_R hx hb hts hown hK X o0 hN g9 fl_X11_19 (by decide) rfl (by decide) dX11_lend_26 ?_
      obtain ⟨g10, hf⟩ := gd_e hf
      refine g_R hx hb hts hown hK X g9 hN g10 fl_X11_139 (by decide) rfl (by decide) dX11_lend_29 ?_
      obtain ⟨r11, h12, q13, hf⟩ := bd_e hf
      refine c_S0 (As := [.int x1, .ref (bs G + (h7.2 (h7.2 x0 1) 6))]) (rest := []) (st1 := [.int r11]) hx hb hml hown hts hK X (k_X11_holderOf l G n hN q13) lc_X11_holderOf ls_X11_142 (by decide) rfl hl.1 (Nat.le_of_ble_eq_true rfl) dX11_lend_32 rfl (fun H locs X => ?_)
      refine lv_istore_n (lv' := [(3, .int r11), (0, .ref (bs G + x0)), (1, .int x1), (2, .int x2)]) hx hb dX11_lend_35 rfl hl (by decide) rfl (fun ls hl => ?_)
      refine lv_iload_n hx hb dX11_lend_36 rfl (lv_at hl 0 rfl) ?_
      refine lv_bipush (v := (-4 : Int32)) hx hb dX11_lend_37 (by decide) ?_
      refine lv_icmp_eq (tgt := 71) hx hb dX11_lend_39 (by decide) (fun c39 => ?_) (fun c39 => ?_)
      · have hf := ite_t hf c39
        refine lv_bipush (v := (-2 : Int32)) hx hb dX11_lend_71 (by decide) ?_
        exact r_I hx hb hr hlocks X hf dX11_lend_73
      · have hf := ite_f hf c39
        refine lv_iload_n hx hb dX11_lend_42 rfl (lv_at hl 0 rfl) ?_
        refine lv_iload_n hx hb dX11_lend_43 rfl (lv_at hl 3 rfl) ?_
        refine lv_icmp_eq (tgt := 71) hx hb dX11_lend_44 (by decide) (fun c44 => ?_) (fun c44 => ?_)
        · have hf := ite_t hf c44
          refine lv_bipush (v := (-2 : Int32)) hx hb dX11_lend_71 (by decide) ?_
          exact r_I hx hb hr hlocks X hf dX11_lend_73
        · have hf := ite_f hf c44
          refine lv_aload_n hx hb dX11_lend_47 rfl (lv_at hl 1 rfl) ?_
          obtain ⟨g14, hf⟩ := gd_e hf
          refine g_R hx hb hts hown hK X o0 hN g14 fl_X11_29 (by decide) rfl (by decide) dX11_lend_48 ?_
          obtain ⟨r15, h16, q17, hf⟩ := bd_e hf
          refine c_V0 (As := []) (rest := []) (st1 := [.int r15]) hx hb hml hown hts hK X (k_X2_taken l G n hN q17) g14 hN lc_X2_taken lv_X11_165 (ci := 2) rfl rfl (by decide) rfl hl.1 (Nat.le_of_ble_eq_true rfl) dX11_lend_51 rfl (fun H locs X => ?_)
          refine lv_aload_n hx hb dX11_lend_54 rfl (lv_at hl 1 rfl) ?_
          obtain ⟨g18, hf⟩ := gd_e hf
          refine g_R hx hb hts hown hK X o0 hN g18 fl_X11_29 (by decide) rfl (by decide) dX11_lend_55 ?_
          obtain ⟨r19, h20, q21, hf⟩ := bd_e hf
          refine c_V0 (As := []) (rest := [.int r15]) (st1 := [.int r19, .int r15]) hx hb hml hown hts hK X (k_X2_lent l G n hN q21) g18 hN lc_X2_lent lv_X11_219 (ci := 2) rfl rfl (by decide) rfl hl.1 (Nat.le_of_ble_eq_true rfl) dX11_lend_58 rfl (fun H locs X => ?_)
          refine lv_ior hx hb dX11_lend_61 ?_
          refine lv_iload_n hx hb dX11_lend_62 rfl (lv_at hl 2 rfl) ?_
          refine lv_iconst (v := (1 : Int32)) hx hb dX11_lend_63 (by decide) ?_
          refine lv_isub hx hb dX11_lend_64 ?_
          obtain ⟨r22, h23, q24, hf⟩ := bd_e hf
          refine c_S0 (As := [.int (r15 ||| r19), .int (x1 - (1 : Int32))]) (rest := []) (st1 := [.int r22]) hx hb hml hown hts hK X (k_X11_hasBit l G n hN q24) lc_X11_hasBit ls_X11_184 (by decide) rfl hl.1 (Nat.le_of_ble_eq_true rfl) dX11_lend_65 rfl (fun H locs X => ?_)
          refine lv_if_eq (tgt := 74) hx hb dX11_lend_68 (by decide) (fun c68 => ?_) (fun c68 => ?_)
          · have hf := ite_t hf c68
            refine lv_aload_n hx hb dX11_lend_74 rfl (lv_at hl 1 rfl) ?_
            obtain ⟨g25, hf⟩ := gd_e hf
            refine g_R hx hb hts hown hK X o0 hN g25 fl_X11_38 (by decide) rfl (by decide) dX11_lend_75 ?_
            refine lv_aload_n hx hb dX11_lend_78 rfl (lv_at hl 1 rfl) ?_
            obtain ⟨g26, hf⟩ := gd_e hf
            refine g_R hx hb hts hown hK X o0 hN g26 fl_X11_29 (by decide) rfl (by decide) dX11_lend_79 ?_
            obtain ⟨r27, h28, q29, hf⟩ := bd_e hf
            refine c_V0 (As := [.ref (bs G + (h23.2 x0 3))]) (rest := []) (st1 := []) hx hb hml hown hts hK X (k_X3_push l G n hN q29) g25 hN lc_X3_push lv_X11_202 (ci := 3) rfl rfl (by decide) rfl hl.1 (Nat.le_of_ble_eq_true rfl) dX11_lend_82 rfl (fun H locs X => ?_)
            refine lv_aload_n hx hb dX11_lend_85 rfl (lv_at hl 1 rfl) ?_
            obtain ⟨g30, hf⟩ := gd_e hf
            refine g_R hx hb hts hown hK X o0 hN g30 fl_X11_29 (by decide) rfl (by decide) dX11_lend_86 ?_
            obtain ⟨g31, hf⟩ := gd_e hf
            refine g_R hx hb hts hown hK X g30 hN g31 fl_X11_149 (by decide) rfl (by decide) dX11_lend_89 ?_
            refine lv_iload_n hx hb dX11_lend_92 rfl (lv_at hl 3 rfl) ?_
            refine lv_dup2_11 hx hb dX11_lend_93 rfl rfl ?_
            obtain ⟨g32, hf⟩ := gd_e hf
            refine g_ia hx hb hK X g31 hN g32 (by decide) dX11_lend_94 ?_
            refine lv_iconst (v := (1 : Int32)) hx hb dX11_lend_95 (by decide) ?_
            refine lv_iload_n hx hb dX11_lend_96 rfl (lv_at hl 2 rfl) ?_
            refine lv_iconst (v := (1 : Int32)) hx hb dX11_lend_97 (by decide) ?_
            refine lv_isub hx hb dX11_lend_98 ?_
            refine lv_ishl hx hb dX11_lend_99 ?_
            refine lv_ior hx hb dX11_lend_100 ?_
            obtain ⟨g33, hf⟩ := gd_e hf
            refine g_is hx hb hK X g31 hN g33 (by decide) dX11_lend_101 (fun H locs X => ?_)
            obtain ⟨h34, e35, hf⟩ := lt_e hf
            rw [← e35] at X
            refine lv_aload_n hx hb dX11_lend_102 rfl (lv_at hl 1 rfl) ?_
            obtain ⟨g36, hf⟩ := gd_e hf
            refine g_R hx hb hts hown hK X o0 hN g36 fl_X11_29 (by decide) rfl (by decide) dX11_lend_103 ?_
            obtain ⟨r37, h38, q39, hf⟩ := bd_e hf
            refine c_V0 (As := []) (rest := []) (st1 := [.int r37]) hx hb hml hown hts hK X (k_X2_lent l G n hN q39) g36 hN lc_X2_lent lv_X11_219 (ci := 2) rfl rfl (by decide) rfl hl.1 (Nat.le_of_ble_eq_true rfl) dX11_lend_106 rfl (fun H locs X => ?_)
            obtain ⟨r40, h41, q42, hf⟩ := bd_e hf
            refine c_S0 (As := [.int r37]) (rest := []) (st1 := [.int r40]) hx hb hml hown hts hK X (k_J6_bitCount_0f7a4 l G n hN q42) lc_J6_bitCount_0f7a4 ls_X11_213 (by decide) rfl hl.1 (Nat.le_of_ble_eq_true rfl) dX11_lend_109 rfl (fun H locs X => ?_)
            exact r_I hx hb hr hlocks X hf dX11_lend_112
          · have hf := ite_f hf c68
            refine lv_bipush (v := (-2 : Int32)) hx hb dX11_lend_71 (by decide) ?_
            exact r_I hx hb hr hlocks X hf dX11_lend_73
    · have hf := ite_t hf c19
      refine lv_iconst (v := (-1 : Int32)) hx hb dX11_lend_22 (by decide) ?_
      exact r_I hx hb hr hlocks X hf dX11_lend_23
end
theorem dX11_born_0 : decode bX11_born 0 = .ok (.aload_n 0, 1) := by decide +kernel
theorem dX11_born_1 : decode bX11_born 1 = .ok (.getfield 29, 3) := by decide +kernel
theorem dX11_born_4 : decode bX11_born 4 = .ok (.getfield 222, 3) := by decide +kernel
theorem dX11_born_7 : decode bX11_born 7 = .ok (.iconst 1, 1) := by decide +kernel
theorem dX11_born_8 : decode bX11_born 8 = .ok (.iadd, 1) := by decide +kernel
theorem dX11_born_9 : decode bX11_born 9 = .ok (.istore_n 1, 1) := by decide +kernel
theorem dX11_born_10 : decode bX11_born 10 = .ok (.aload_n 0, 1) := by decide +kernel
theorem dX11_born_11 : decode bX11_born 11 = .ok (.getfield 29, 3) := by decide +kernel
theorem dX11_born_14 : decode bX11_born 14 = .ok (.getfield 225, 3) := by decide +kernel
theorem dX11_born_17 : decode bX11_born 17 = .ok (.ifCond .ne 30, 3) := by decide +kernel
theorem dX11_born_20 : decode bX11_born 20 = .ok (.aload_n 0, 1) := by decide +kernel
theorem dX11_born_21 : decode bX11_born 21 = .ok (.getfield 19, 3) := by decide +kernel
theorem dX11_born_24 : decode bX11_born 24 = .ok (.iload_n 1, 1) := by decide +kernel
theorem dX11_born_25 : decode bX11_born 25 = .ok (.invokevirtual 131, 3) := by decide +kernel
theorem dX11_born_28 : decode bX11_born 28 = .ok (.ifCond .eq 19, 3) := by decide +kernel
theorem dX11_born_31 : decode bX11_born 31 = .ok (.aload_n 0, 1) := by decide +kernel
theorem dX11_born_32 : decode bX11_born 32 = .ok (.getfield 29, 3) := by decide +kernel
theorem dX11_born_35 : decode bX11_born 35 = .ok (.invokevirtual 165, 3) := by decide +kernel
theorem dX11_born_38 : decode bX11_born 38 = .ok (.iload_n 1, 1) := by decide +kernel
theorem dX11_born_39 : decode bX11_born 39 = .ok (.iconst 1, 1) := by decide +kernel
theorem dX11_born_40 : decode bX11_born 40 = .ok (.isub, 1) := by decide +kernel
theorem dX11_born_41 : decode bX11_born 41 = .ok (.invokestatic 184, 3) := by decide +kernel
theorem dX11_born_44 : decode bX11_born 44 = .ok (.ifCond .eq 6, 3) := by decide +kernel
theorem dX11_born_47 : decode bX11_born 47 = .ok (.bipush (-2), 2) := by decide +kernel
theorem dX11_born_49 : decode bX11_born 49 = .ok (.ireturn, 1) := by decide +kernel
theorem dX11_born_50 : decode bX11_born 50 = .ok (.aload_n 0, 1) := by decide +kernel
theorem dX11_born_51 : decode bX11_born 51 = .ok (.getfield 38, 3) := by decide +kernel
theorem dX11_born_54 : decode bX11_born 54 = .ok (.aload_n 0, 1) := by decide +kernel
theorem dX11_born_55 : decode bX11_born 55 = .ok (.getfield 29, 3) := by decide +kernel
theorem dX11_born_58 : decode bX11_born 58 = .ok (.invokevirtual 202, 3) := by decide +kernel
theorem dX11_born_61 : decode bX11_born 61 = .ok (.aload_n 0, 1) := by decide +kernel
theorem dX11_born_62 : decode bX11_born 62 = .ok (.getfield 29, 3) := by decide +kernel
theorem dX11_born_65 : decode bX11_born 65 = .ok (.iload_n 1, 1) := by decide +kernel
theorem dX11_born_66 : decode bX11_born 66 = .ok (.putfield 222, 3) := by decide +kernel
theorem dX11_born_69 : decode bX11_born 69 = .ok (.aload_n 0, 1) := by decide +kernel
theorem dX11_born_70 : decode bX11_born 70 = .ok (.getfield 29, 3) := by decide +kernel
theorem dX11_born_73 : decode bX11_born 73 = .ok (.getfield 146, 3) := by decide +kernel
theorem dX11_born_76 : decode bX11_born 76 = .ok (.bipush 7, 2) := by decide +kernel
theorem dX11_born_78 : decode bX11_born 78 = .ok (.dup2, 1) := by decide +kernel
theorem dX11_born_79 : decode bX11_born 79 = .ok (.iaload, 1) := by decide +kernel
theorem dX11_born_80 : decode bX11_born 80 = .ok (.iconst 1, 1) := by decide +kernel
theorem dX11_born_81 : decode bX11_born 81 = .ok (.iload_n 1, 1) := by decide +kernel
theorem dX11_born_82 : decode bX11_born 82 = .ok (.iconst 1, 1) := by decide +kernel
theorem dX11_born_83 : decode bX11_born 83 = .ok (.isub, 1) := by decide +kernel
theorem dX11_born_84 : decode bX11_born 84 = .ok (.ishl, 1) := by decide +kernel
theorem dX11_born_85 : decode bX11_born 85 = .ok (.ior, 1) := by decide +kernel
theorem dX11_born_86 : decode bX11_born 86 = .ok (.iastore, 1) := by decide +kernel
theorem dX11_born_87 : decode bX11_born 87 = .ok (.iload_n 1, 1) := by decide +kernel
theorem dX11_born_88 : decode bX11_born 88 = .ok (.ireturn, 1) := by decide +kernel
section
variable {p : Program} {l : Launch} {e : Env} {s : State} {m : MethodId} {args : Array Value} {below : List Frame} {meth : Method} {c : Code} {G : GG} {n : Nat} {h' : Hp} {rv : Int32}
set_option maxHeartbeats 4000000
set_option maxRecDepth 100000
theorem k_X11_born (l : Launch) (G : GG) (n : Nat) (hN : NX ≤ n) {h h' : Hp} {x0 : Nat} {rv : Int32} (hf : f_X11_born h x0 = some (rv, h')) : CT l G n n yX11_born (.code yX11_born bX11_born 2 (some .int)) 3 0 0 [.ref (bs G + x0)] h h' (some (.int rv)) := by
  refine ct_of (maxL := 2) (ret := (some .int)) (bytes := bX11_born) (by decide) (Nat.le_of_ble_eq_true rfl) (fun p e s m below meth c C0 X ls hl => ?_)
  have hl : lv_has ls 2 [(0, .ref (bs G + x0))] := hl
  obtain ⟨hx, hb, hr, hml, hown, hts, hK, hlocks, hnm⟩ := id C0
  unfold f_X11_born at hf
  obtain ⟨o0, hf⟩ := gd_e hf
  refine lv_aload_n hx hb dX11_born_0 rfl (lv_at hl 0 rfl) ?_
  obtain ⟨g1, hf⟩ := gd_e hf
  refine g_R hx hb hts hown hK X o0 hN g1 fl_X11_29 (by decide) rfl (by decide) dX11_born_1 ?_
  refine g_I hx hb hts hown hK X g1 hN fl_X11_222 (by decide) rfl dX11_born_4 ?_
  refine lv_iconst (v := (1 : Int32)) hx hb dX11_born_7 (by decide) ?_
  refine lv_iadd hx hb dX11_born_8 ?_
  refine lv_istore_n (lv' := [(1, .int ((h.1 (h.2 x0 3) 3) + (1 : Int32))), (0, .ref (bs G + x0))]) hx hb dX11_born_9 rfl hl (by decide) rfl (fun ls hl => ?_)
  refine lv_aload_n hx hb dX11_born_10 rfl (lv_at hl 1 rfl) ?_
  obtain ⟨g2, hf⟩ := gd_e hf
  refine g_R hx hb hts hown hK X o0 hN g2 fl_X11_29 (by decide) rfl (by decide) dX11_born_11 ?_
  refine g_I hx hb hts hown hK X g2 hN fl_X11_225 (by decide) rfl dX11_born_14 ?_
  refine lv_if_ne (tgt := 47) hx hb dX11_born_17 (by decide) (fun c17 => ?_) (fun c17 => ?_)
  · have hf := ite_f hf c17
    refine lv_bipush (v := (-2 : Int32)) hx hb dX11_born_47 (by decide) ?_
    exact r_I hx hb hr hlocks X hf dX11_born_49
  · have hf := ite_t hf c17
    refine lv_aload_n hx hb dX11_born_20 rfl (lv_at hl 1 rfl) ?_
    obtain ⟨g3, hf⟩ := gd_e hf
    refine g_R hx hb hts hown hK X o0 hN g3 fl_X11_19 (by decide) rfl (by decide) dX11_born_21 ?_
    refine lv_iload_n hx hb dX11_born_24 rfl (lv_at hl 0 rfl) ?_
    obtain ⟨r4, h5, q6, hf⟩ := bd_e hf
    refine c_V0 (As := [.int ((h.1 (h.2 x0 3) 3) + (1 : Int32))]) (rest := []) (st1 := [.int r4]) hx hb hml hown hts hK X (k_X4_isNumber l G n hN q6) g3 hN lc_X4_isNumber lv_X11_131 (ci := 4) rfl rfl (by decide) rfl hl.1 (Nat.le_of_ble_eq_true rfl) dX11_born_25 rfl (fun H locs X => ?_)
    refine lv_if_eq (tgt := 47) hx hb dX11_born_28 (by decide) (fun c28 => ?_) (fun c28 => ?_)
    · have hf := ite_t hf c28
      refine lv_bipush (v := (-2 : Int32)) hx hb dX11_born_47 (by decide) ?_
      exact r_I hx hb hr hlocks X hf dX11_born_49
    · have hf := ite_f hf c28
      refine lv_aload_n hx hb dX11_born_31 rfl (lv_at hl 1 rfl) ?_
      obtain ⟨g7, hf⟩ := gd_e hf
      refine g_R hx hb hts hown hK X o0 hN g7 fl_X11_29 (by decide) rfl (by decide) dX11_born_32 ?_
      obtain ⟨r8, h9, q10, hf⟩ := bd_e hf
      refine c_V0 (As := []) (rest := []) (st1 := [.int r8]) hx hb hml hown hts hK X (k_X2_taken l G n hN q10) g7 hN lc_X2_taken lv_X11_165 (ci := 2) rfl rfl (by decide) rfl hl.1 (Nat.le_of_ble_eq_true rfl) dX11_born_35 rfl (fun H locs X => ?_)
      refine lv_iload_n hx hb dX11_born_38 rfl (lv_at hl 0 rfl) ?_
      refine lv_iconst (v := (1 : Int32)) hx hb dX11_born_39 (by decide) ?_
      refine lv_isub hx hb dX11_born_40 ?_
      obtain ⟨r11, h12, q13, hf⟩ := bd_e hf
      refine c_S0 (As := [.int r8, .int (((h.1 (h.2 x0 3) 3) + (1 : Int32)) - (1 : Int32))]) (rest := []) (st1 := [.int r11]) hx hb hml hown hts hK X (k_X11_hasBit l G n hN q13) lc_X11_hasBit ls_X11_184 (by decide) rfl hl.1 (Nat.le_of_ble_eq_true rfl) dX11_born_41 rfl (fun H locs X => ?_)
      refine lv_if_eq (tgt := 50) hx hb dX11_born_44 (by decide) (fun c44 => ?_) (fun c44 => ?_)
      · have hf := ite_t hf c44
        refine lv_aload_n hx hb dX11_born_50 rfl (lv_at hl 1 rfl) ?_
        obtain ⟨g14, hf⟩ := gd_e hf
        refine g_R hx hb hts hown hK X o0 hN g14 fl_X11_38 (by decide) rfl (by decide) dX11_born_51 ?_
        refine lv_aload_n hx hb dX11_born_54 rfl (lv_at hl 1 rfl) ?_
        obtain ⟨g15, hf⟩ := gd_e hf
        refine g_R hx hb hts hown hK X o0 hN g15 fl_X11_29 (by decide) rfl (by decide) dX11_born_55 ?_
        obtain ⟨r16, h17, q18, hf⟩ := bd_e hf
        refine c_V0 (As := [.ref (bs G + (h12.2 x0 3))]) (rest := []) (st1 := []) hx hb hml hown hts hK X (k_X3_push l G n hN q18) g14 hN lc_X3_push lv_X11_202 (ci := 3) rfl rfl (by decide) rfl hl.1 (Nat.le_of_ble_eq_true rfl) dX11_born_58 rfl (fun H locs X => ?_)
        refine lv_aload_n hx hb dX11_born_61 rfl (lv_at hl 1 rfl) ?_
        obtain ⟨g19, hf⟩ := gd_e hf
        refine g_R hx hb hts hown hK X o0 hN g19 fl_X11_29 (by decide) rfl (by decide) dX11_born_62 ?_
        refine lv_iload_n hx hb dX11_born_65 rfl (lv_at hl 0 rfl) ?_
        refine g_PI hx hb hts hown hK X g19 hN fl_X11_222 ft_2_3 (by decide) rfl dX11_born_66 (fun H locs X => ?_)
        obtain ⟨h20, e21, hf⟩ := lt_e hf
        rw [← e21] at X
        refine lv_aload_n hx hb dX11_born_69 rfl (lv_at hl 1 rfl) ?_
        obtain ⟨g22, hf⟩ := gd_e hf
        refine g_R hx hb hts hown hK X o0 hN g22 fl_X11_29 (by decide) rfl (by decide) dX11_born_70 ?_
        obtain ⟨g23, hf⟩ := gd_e hf
        refine g_R hx hb hts hown hK X g22 hN g23 fl_X11_146 (by decide) rfl (by decide) dX11_born_73 ?_
        refine lv_bipush (v := (7 : Int32)) hx hb dX11_born_76 (by decide) ?_
        refine lv_dup2_11 hx hb dX11_born_78 rfl rfl ?_
        obtain ⟨g24, hf⟩ := gd_e hf
        refine g_ia hx hb hK X g23 hN g24 (by decide) dX11_born_79 ?_
        refine lv_iconst (v := (1 : Int32)) hx hb dX11_born_80 (by decide) ?_
        refine lv_iload_n hx hb dX11_born_81 rfl (lv_at hl 0 rfl) ?_
        refine lv_iconst (v := (1 : Int32)) hx hb dX11_born_82 (by decide) ?_
        refine lv_isub hx hb dX11_born_83 ?_
        refine lv_ishl hx hb dX11_born_84 ?_
        refine lv_ior hx hb dX11_born_85 ?_
        obtain ⟨g25, hf⟩ := gd_e hf
        refine g_is hx hb hK X g23 hN g25 (by decide) dX11_born_86 (fun H locs X => ?_)
        obtain ⟨h26, e27, hf⟩ := lt_e hf
        rw [← e27] at X
        refine lv_iload_n hx hb dX11_born_87 rfl (lv_at hl 0 rfl) ?_
        exact r_I hx hb hr hlocks X hf dX11_born_88
      · have hf := ite_f hf c44
        refine lv_bipush (v := (-2 : Int32)) hx hb dX11_born_47 (by decide) ?_
        exact r_I hx hb hr hlocks X hf dX11_born_49
end
