theorem dX0_append_0 : decode bX0_append 0 = .ok (.aload_n 0, 1) := by decide +kernel
theorem dX0_append_1 : decode bX0_append 1 = .ok (.getfield 24, 3) := by decide +kernel
theorem dX0_append_4 : decode bX0_append 4 = .ok (.bipush 6, 2) := by decide +kernel
theorem dX0_append_6 : decode bX0_append 6 = .ok (.if_icmp .lt 5, 3) := by decide +kernel
theorem dX0_append_9 : decode bX0_append 9 = .ok (.iconst 0, 1) := by decide +kernel
theorem dX0_append_10 : decode bX0_append 10 = .ok (.ireturn, 1) := by decide +kernel
theorem dX0_append_11 : decode bX0_append 11 = .ok (.aload_n 0, 1) := by decide +kernel
theorem dX0_append_12 : decode bX0_append 12 = .ok (.getfield 9, 3) := by decide +kernel
theorem dX0_append_15 : decode bX0_append 15 = .ok (.aload_n 0, 1) := by decide +kernel
theorem dX0_append_16 : decode bX0_append 16 = .ok (.getfield 24, 3) := by decide +kernel
theorem dX0_append_19 : decode bX0_append 19 = .ok (.iload_n 1, 1) := by decide +kernel
theorem dX0_append_20 : decode bX0_append 20 = .ok (.iastore, 1) := by decide +kernel
theorem dX0_append_21 : decode bX0_append 21 = .ok (.aload_n 0, 1) := by decide +kernel
theorem dX0_append_22 : decode bX0_append 22 = .ok (.dup, 1) := by decide +kernel
theorem dX0_append_23 : decode bX0_append 23 = .ok (.getfield 24, 3) := by decide +kernel
theorem dX0_append_26 : decode bX0_append 26 = .ok (.iconst 1, 1) := by decide +kernel
theorem dX0_append_27 : decode bX0_append 27 = .ok (.iadd, 1) := by decide +kernel
theorem dX0_append_28 : decode bX0_append 28 = .ok (.putfield 24, 3) := by decide +kernel
theorem dX0_append_31 : decode bX0_append 31 = .ok (.iconst 1, 1) := by decide +kernel
theorem dX0_append_32 : decode bX0_append 32 = .ok (.ireturn, 1) := by decide +kernel
section
variable {p : Program} {l : Launch} {e : Env} {s : State} {m : MethodId} {args : Array Value} {below : List Frame} {meth : Method} {c : Code} {G : GG} {n : Nat} {h' : Hp} {rv : Int32}
set_option maxHeartbeats 4000000
set_option maxRecDepth 100000
theorem k_X0_append (l : Launch) (G : GG) (n : Nat) (hN : NX ≤ n) {h h' : Hp} {x0 : Nat} {x1 : Int32} {rv : Int32} (hf : f_X0_append h x0 x1 = some (rv, h')) : CT l G n n yX0_append (.code yX0_append bX0_append 2 (some .boolean)) 0 0 0 [.ref (bs G + x0), .int x1] h h' (some (.int rv)) := by
  refine ct_of (maxL := 2) (ret := (some .boolean)) (bytes := bX0_append) (by decide) (Nat.le_of_ble_eq_true rfl) (fun p e s m below meth c C0 X ls hl => ?_)
  have hl : lv_has ls 2 [(0, .ref (bs G + x0)), (1, .int x1)] := hl
  obtain ⟨hx, hb, hr, hml, hown, hts, hK, hlocks, hnm⟩ := id C0
  unfold f_X0_append at hf
  obtain ⟨o0, hf⟩ := gd_e hf
  refine lv_aload_n hx hb dX0_append_0 rfl (lv_at hl 0 rfl) ?_
  refine g_I hx hb hts hown hK X o0 hN fl_X0_24 (by decide) rfl dX0_append_1 ?_
  refine lv_bipush (v := (6 : Int32)) hx hb dX0_append_4 (by decide) ?_
  refine lv_icmp_lt (tgt := 11) hx hb dX0_append_6 (by decide) (fun c6 => ?_) (fun c6 => ?_)
  · have hf := ite_t hf c6
    refine lv_aload_n hx hb dX0_append_11 rfl (lv_at hl 0 rfl) ?_
    obtain ⟨g1, hf⟩ := gd_e hf
    refine g_R hx hb hts hown hK X o0 hN g1 fl_X0_9 (by decide) rfl (by decide) dX0_append_12 ?_
    refine lv_aload_n hx hb dX0_append_15 rfl (lv_at hl 0 rfl) ?_
    refine g_I hx hb hts hown hK X o0 hN fl_X0_24 (by decide) rfl dX0_append_16 ?_
    refine lv_iload_n hx hb dX0_append_19 rfl (lv_at hl 1 rfl) ?_
    obtain ⟨g2, hf⟩ := gd_e hf
    refine g_is hx hb hK X g1 hN g2 (by decide) dX0_append_20 (fun H locs X => ?_)
    obtain ⟨h3, e4, hf⟩ := lt_e hf
    rw [← e4] at X
    refine lv_aload_n hx hb dX0_append_21 rfl (lv_at hl 0 rfl) ?_
    refine lv_dup hx hb dX0_append_22 rfl ?_
    refine g_I hx hb hts hown hK X o0 hN fl_X0_24 (by decide) rfl dX0_append_23 ?_
    refine lv_iconst (v := (1 : Int32)) hx hb dX0_append_26 (by decide) ?_
    refine lv_iadd hx hb dX0_append_27 ?_
    refine g_PI hx hb hts hown hK X o0 hN fl_X0_24 ft_0_0 (by decide) rfl dX0_append_28 (fun H locs X => ?_)
    obtain ⟨h5, e6, hf⟩ := lt_e hf
    rw [← e6] at X
    refine lv_iconst (v := (1 : Int32)) hx hb dX0_append_31 (by decide) ?_
    exact r_Z hx hb hr hlocks X rfl hf dX0_append_32
  · have hf := ite_f hf c6
    refine lv_iconst (v := (0 : Int32)) hx hb dX0_append_9 (by decide) ?_
    exact r_Z hx hb hr hlocks X rfl hf dX0_append_10
end
theorem dX0_inTwoRows_0 : decode bX0_inTwoRows 0 = .ok (.iconst 0, 1) := by decide +kernel
theorem dX0_inTwoRows_1 : decode bX0_inTwoRows 1 = .ok (.istore_n 1, 1) := by decide +kernel
theorem dX0_inTwoRows_2 : decode bX0_inTwoRows 2 = .ok (.iconst 0, 1) := by decide +kernel
theorem dX0_inTwoRows_3 : decode bX0_inTwoRows 3 = .ok (.istore_n 2, 1) := by decide +kernel
theorem dX0_inTwoRows_4 : decode bX0_inTwoRows 4 = .ok (.iconst 0, 1) := by decide +kernel
theorem dX0_inTwoRows_5 : decode bX0_inTwoRows 5 = .ok (.istore_n 3, 1) := by decide +kernel
theorem dX0_inTwoRows_6 : decode bX0_inTwoRows 6 = .ok (.iload_n 3, 1) := by decide +kernel
theorem dX0_inTwoRows_7 : decode bX0_inTwoRows 7 = .ok (.aload_n 0, 1) := by decide +kernel
theorem dX0_inTwoRows_8 : decode bX0_inTwoRows 8 = .ok (.getfield 24, 3) := by decide +kernel
theorem dX0_inTwoRows_11 : decode bX0_inTwoRows 11 = .ok (.if_icmp .ge 29, 3) := by decide +kernel
theorem dX0_inTwoRows_14 : decode bX0_inTwoRows 14 = .ok (.iload_n 2, 1) := by decide +kernel
theorem dX0_inTwoRows_15 : decode bX0_inTwoRows 15 = .ok (.iload_n 1, 1) := by decide +kernel
theorem dX0_inTwoRows_16 : decode bX0_inTwoRows 16 = .ok (.aload_n 0, 1) := by decide +kernel
theorem dX0_inTwoRows_17 : decode bX0_inTwoRows 17 = .ok (.getfield 9, 3) := by decide +kernel
theorem dX0_inTwoRows_20 : decode bX0_inTwoRows 20 = .ok (.iload_n 3, 1) := by decide +kernel
theorem dX0_inTwoRows_21 : decode bX0_inTwoRows 21 = .ok (.iaload, 1) := by decide +kernel
theorem dX0_inTwoRows_22 : decode bX0_inTwoRows 22 = .ok (.iand, 1) := by decide +kernel
theorem dX0_inTwoRows_23 : decode bX0_inTwoRows 23 = .ok (.ior, 1) := by decide +kernel
theorem dX0_inTwoRows_24 : decode bX0_inTwoRows 24 = .ok (.istore_n 2, 1) := by decide +kernel
theorem dX0_inTwoRows_25 : decode bX0_inTwoRows 25 = .ok (.iload_n 1, 1) := by decide +kernel
theorem dX0_inTwoRows_26 : decode bX0_inTwoRows 26 = .ok (.aload_n 0, 1) := by decide +kernel
theorem dX0_inTwoRows_27 : decode bX0_inTwoRows 27 = .ok (.getfield 9, 3) := by decide +kernel
theorem dX0_inTwoRows_30 : decode bX0_inTwoRows 30 = .ok (.iload_n 3, 1) := by decide +kernel
theorem dX0_inTwoRows_31 : decode bX0_inTwoRows 31 = .ok (.iaload, 1) := by decide +kernel
theorem dX0_inTwoRows_32 : decode bX0_inTwoRows 32 = .ok (.ior, 1) := by decide +kernel
theorem dX0_inTwoRows_33 : decode bX0_inTwoRows 33 = .ok (.istore_n 1, 1) := by decide +kernel
theorem dX0_inTwoRows_34 : decode bX0_inTwoRows 34 = .ok (.iinc 3 1, 3) := by decide +kernel
theorem dX0_inTwoRows_37 : decode bX0_inTwoRows 37 = .ok (.goto (-31), 3) := by decide +kernel
theorem dX0_inTwoRows_40 : decode bX0_inTwoRows 40 = .ok (.iload_n 2, 1) := by decide +kernel
theorem dX0_inTwoRows_41 : decode bX0_inTwoRows 41 = .ok (.ireturn, 1) := by decide +kernel
section
variable {p : Program} {l : Launch} {e : Env} {s : State} {m : MethodId} {args : Array Value} {below : List Frame} {meth : Method} {c : Code} {G : GG} {n : Nat} {h' : Hp} {rv : Int32}
set_option maxHeartbeats 4000000
set_option maxRecDepth 100000
theorem j_X0_inTwoRows_6 (C0 : Cx p s m args meth c G bX0_inTwoRows RX0 4 (some .int) "inTwoRows") (hN : NX ≤ n) : ∀ (fu : Nat), ∀ {H : Heap} {locs : List Loc} {ls : Array Slot} {h : Hp} {x0 : Nat} {x1 : Int32} {x2 : Int32} {x3 : Int32}, XW G n h s 0 H locs → lv_has ls 4 [(0, .ref (bs G + x0)), (1, .int x1), (2, .int x2), (3, .int x3)] → kd x0 = 0 → f_X0_inTwoRows_6 fu h x0 x1 x2 x3 = some (rv, h') → W p l e (rmC 0 0 0) s m args below meth c H locs 0 0 (MQ below (QP G n h' (some (.int rv))) args s 0 0 (Ab G)) (F0 m 6 ls []) := by
  obtain ⟨hx, hb, hr, hml, hown, hts, hK, hlocks, hnm⟩ := id C0
  intro fu
  induction fu with
  | zero => intro H locs ls h x0 x1 x2 x3 X hl o0 hf; cases hf
  | succ fu ih =>
    intro H locs ls h x0 x1 x2 x3 X hl o0 hf
    rw [f_X0_inTwoRows_6] at hf
    refine lv_iload_n hx hb dX0_inTwoRows_6 rfl (lv_at hl 3 rfl) ?_
    refine lv_aload_n hx hb dX0_inTwoRows_7 rfl (lv_at hl 0 rfl) ?_
    refine g_I hx hb hts hown hK X o0 hN fl_X0_24 (by decide) rfl dX0_inTwoRows_8 ?_
    refine lv_icmp_ge (tgt := 40) hx hb dX0_inTwoRows_11 (by decide) (fun c11 => ?_) (fun c11 => ?_)
    · have hf := ite_t hf c11
      refine lv_iload_n hx hb dX0_inTwoRows_40 rfl (lv_at hl 2 rfl) ?_
      exact r_I hx hb hr hlocks X hf dX0_inTwoRows_41
    · have hf := ite_f hf c11
      refine lv_iload_n hx hb dX0_inTwoRows_14 rfl (lv_at hl 2 rfl) ?_
      refine lv_iload_n hx hb dX0_inTwoRows_15 rfl (lv_at hl 1 rfl) ?_
      refine lv_aload_n hx hb dX0_inTwoRows_16 rfl (lv_at hl 0 rfl) ?_
      obtain ⟨g1, hf⟩ := gd_e hf
      refine g_R hx hb hts hown hK X o0 hN g1 fl_X0_9 (by decide) rfl (by decide) dX0_inTwoRows_17 ?_
      refine lv_iload_n hx hb dX0_inTwoRows_20 rfl (lv_at hl 3 rfl) ?_
      obtain ⟨g2, hf⟩ := gd_e hf
      refine g_ia hx hb hK X g1 hN g2 (by decide) dX0_inTwoRows_21 ?_
      refine lv_iand hx hb dX0_inTwoRows_22 ?_
      refine lv_ior hx hb dX0_inTwoRows_23 ?_
      refine lv_istore_n (lv' := [(2, .int (x2 ||| (x1 &&& (h.1 (h.2 x0 2) x3.toNatClampNeg)))), (0, .ref (bs G + x0)), (1, .int x1), (3, .int x3)]) hx hb dX0_inTwoRows_24 rfl hl (by decide) rfl (fun ls hl => ?_)
      refine lv_iload_n hx hb dX0_inTwoRows_25 rfl (lv_at hl 2 rfl) ?_
      refine lv_aload_n hx hb dX0_inTwoRows_26 rfl (lv_at hl 1 rfl) ?_
      obtain ⟨g3, hf⟩ := gd_e hf
      refine g_R hx hb hts hown hK X o0 hN g3 fl_X0_9 (by decide) rfl (by decide) dX0_inTwoRows_27 ?_
      refine lv_iload_n hx hb dX0_inTwoRows_30 rfl (lv_at hl 3 rfl) ?_
      obtain ⟨g4, hf⟩ := gd_e hf
      refine g_ia hx hb hK X g3 hN g4 (by decide) dX0_inTwoRows_31 ?_
      refine lv_ior hx hb dX0_inTwoRows_32 ?_
      refine lv_istore_n (lv' := [(1, .int (x1 ||| (h.1 (h.2 x0 2) x3.toNatClampNeg))), (2, .int (x2 ||| (x1 &&& (h.1 (h.2 x0 2) x3.toNatClampNeg)))), (0, .ref (bs G + x0)), (3, .int x3)]) hx hb dX0_inTwoRows_33 rfl hl (by decide) rfl (fun ls hl => ?_)
      refine lv_iinc (v := (x3 + (1 : Int32))) (lv' := [(3, .int (x3 + (1 : Int32))), (1, .int (x1 ||| (h.1 (h.2 x0 2) x3.toNatClampNeg))), (2, .int (x2 ||| (x1 &&& (h.1 (h.2 x0 2) x3.toNatClampNeg)))), (0, .ref (bs G + x0))]) hx hb dX0_inTwoRows_34 hl (k := 3) rfl rfl (by decide) rfl (fun ls hl => ?_)
      refine lv_goto (tgt := 6) hx hb dX0_inTwoRows_37 (by decide) ?_
      exact ih X (lv_sub hl [3, 1, 2, 0] rfl) o0 hf
theorem k_X0_inTwoRows (l : Launch) (G : GG) (n : Nat) (hN : NX ≤ n) {h h' : Hp} {x0 : Nat} {rv : Int32} (hf : f_X0_inTwoRows h x0 = some (rv, h')) : CT l G n n yX0_inTwoRows (.code yX0_inTwoRows bX0_inTwoRows 4 (some .int)) 0 0 0 [.ref (bs G + x0)] h h' (some (.int rv)) := by
  refine ct_of (maxL := 4) (ret := (some .int)) (bytes := bX0_inTwoRows) (by decide) (Nat.le_of_ble_eq_true rfl) (fun p e s m below meth c C0 X ls hl => ?_)
  have hl : lv_has ls 4 [(0, .ref (bs G + x0))] := hl
  obtain ⟨hx, hb, hr, hml, hown, hts, hK, hlocks, hnm⟩ := id C0
  unfold f_X0_inTwoRows at hf
  obtain ⟨o0, hf⟩ := gd_e hf
  refine lv_iconst (v := (0 : Int32)) hx hb dX0_inTwoRows_0 (by decide) ?_
  refine lv_istore_n (lv' := [(1, .int (0 : Int32)), (0, .ref (bs G + x0))]) hx hb dX0_inTwoRows_1 rfl hl (by decide) rfl (fun ls hl => ?_)
  refine lv_iconst (v := (0 : Int32)) hx hb dX0_inTwoRows_2 (by decide) ?_
  refine lv_istore_n (lv' := [(2, .int (0 : Int32)), (1, .int (0 : Int32)), (0, .ref (bs G + x0))]) hx hb dX0_inTwoRows_3 rfl hl (by decide) rfl (fun ls hl => ?_)
  refine lv_iconst (v := (0 : Int32)) hx hb dX0_inTwoRows_4 (by decide) ?_
  refine lv_istore_n (lv' := [(3, .int (0 : Int32)), (2, .int (0 : Int32)), (1, .int (0 : Int32)), (0, .ref (bs G + x0))]) hx hb dX0_inTwoRows_5 rfl hl (by decide) rfl (fun ls hl => ?_)
  exact j_X0_inTwoRows_6 C0 hN FU X (lv_sub hl [3, 2, 1, 0] rfl) o0 hf
end
theorem dX11_hasBit_0 : decode bX11_hasBit 0 = .ok (.iload_n 0, 1) := by decide +kernel
theorem dX11_hasBit_1 : decode bX11_hasBit 1 = .ok (.iload_n 1, 1) := by decide +kernel
theorem dX11_hasBit_2 : decode bX11_hasBit 2 = .ok (.ishr, 1) := by decide +kernel
theorem dX11_hasBit_3 : decode bX11_hasBit 3 = .ok (.iconst 1, 1) := by decide +kernel
theorem dX11_hasBit_4 : decode bX11_hasBit 4 = .ok (.iand, 1) := by decide +kernel
theorem dX11_hasBit_5 : decode bX11_hasBit 5 = .ok (.ifCond .eq 7, 3) := by decide +kernel
theorem dX11_hasBit_8 : decode bX11_hasBit 8 = .ok (.iconst 1, 1) := by decide +kernel
theorem dX11_hasBit_9 : decode bX11_hasBit 9 = .ok (.goto 4, 3) := by decide +kernel
theorem dX11_hasBit_12 : decode bX11_hasBit 12 = .ok (.iconst 0, 1) := by decide +kernel
theorem dX11_hasBit_13 : decode bX11_hasBit 13 = .ok (.ireturn, 1) := by decide +kernel
section
variable {p : Program} {l : Launch} {e : Env} {s : State} {m : MethodId} {args : Array Value} {below : List Frame} {meth : Method} {c : Code} {G : GG} {n : Nat} {h' : Hp} {rv : Int32}
set_option maxHeartbeats 4000000
set_option maxRecDepth 100000
theorem k_X11_hasBit (l : Launch) (G : GG) (n : Nat) (hN : NX ≤ n) {h h' : Hp} {x0 : Int32} {x1 : Int32} {rv : Int32} (hf : f_X11_hasBit h x0 x1 = some (rv, h')) : CT l G n n yX11_hasBit (.code yX11_hasBit bX11_hasBit 2 (some .boolean)) 0 0 0 [.int x0, .int x1] h h' (some (.int rv)) := by
  refine ct_of (maxL := 2) (ret := (some .boolean)) (bytes := bX11_hasBit) (by decide) (Nat.le_of_ble_eq_true rfl) (fun p e s m below meth c C0 X ls hl => ?_)
  have hl : lv_has ls 2 [(0, .int x0), (1, .int x1)] := hl
  obtain ⟨hx, hb, hr, hml, hown, hts, hK, hlocks, hnm⟩ := id C0
  unfold f_X11_hasBit at hf
  refine lv_iload_n hx hb dX11_hasBit_0 rfl (lv_at hl 0 rfl) ?_
  refine lv_iload_n hx hb dX11_hasBit_1 rfl (lv_at hl 1 rfl) ?_
  refine lv_ishr hx hb dX11_hasBit_2 ?_
  refine lv_iconst (v := (1 : Int32)) hx hb dX11_hasBit_3 (by decide) ?_
  refine lv_iand hx hb dX11_hasBit_4 ?_
  refine lv_if_eq (tgt := 12) hx hb dX11_hasBit_5 (by decide) (fun c5 => ?_) (fun c5 => ?_)
  · have hf := ite_t hf c5
    refine lv_iconst (v := (0 : Int32)) hx hb dX11_hasBit_12 (by decide) ?_
    exact r_Z hx hb hr hlocks X rfl hf dX11_hasBit_13
  · have hf := ite_f hf c5
    refine lv_iconst (v := (1 : Int32)) hx hb dX11_hasBit_8 (by decide) ?_
    refine lv_goto (tgt := 13) hx hb dX11_hasBit_9 (by decide) ?_
    exact r_Z hx hb hr hlocks X rfl hf dX11_hasBit_13
end
theorem dX0_readFrom_0 : decode bX0_readFrom 0 = .ok (.iload_n 1, 1) := by decide +kernel
theorem dX0_readFrom_1 : decode bX0_readFrom 1 = .ok (.aload_n 0, 1) := by decide +kernel
theorem dX0_readFrom_2 : decode bX0_readFrom 2 = .ok (.getfield 24, 3) := by decide +kernel
theorem dX0_readFrom_5 : decode bX0_readFrom 5 = .ok (.if_icmp .ge 9, 3) := by decide +kernel
theorem dX0_readFrom_8 : decode bX0_readFrom 8 = .ok (.iload_n 1, 1) := by decide +kernel
theorem dX0_readFrom_9 : decode bX0_readFrom 9 = .ok (.bipush 6, 2) := by decide +kernel
theorem dX0_readFrom_11 : decode bX0_readFrom 11 = .ok (.if_icmp .lt 45, 3) := by decide +kernel
theorem dX0_readFrom_14 : decode bX0_readFrom 14 = .ok (.aload_n 0, 1) := by decide +kernel
theorem dX0_readFrom_15 : decode bX0_readFrom 15 = .ok (.dup, 1) := by decide +kernel
theorem dX0_readFrom_16 : decode bX0_readFrom 16 = .ok (.getfield 49, 3) := by decide +kernel
theorem dX0_readFrom_19 : decode bX0_readFrom 19 = .ok (.iconst 1, 1) := by decide +kernel
theorem dX0_readFrom_20 : decode bX0_readFrom 20 = .ok (.iadd, 1) := by decide +kernel
theorem dX0_readFrom_21 : decode bX0_readFrom 21 = .ok (.putfield 49, 3) := by decide +kernel
theorem dX0_readFrom_24 : decode bX0_readFrom 24 = .ok (.iconst 0, 1) := by decide +kernel
theorem dX0_readFrom_25 : decode bX0_readFrom 25 = .ok (.istore_n 3, 1) := by decide +kernel
theorem dX0_readFrom_26 : decode bX0_readFrom 26 = .ok (.iload_n 3, 1) := by decide +kernel
theorem dX0_readFrom_27 : decode bX0_readFrom 27 = .ok (.aload_n 0, 1) := by decide +kernel
theorem dX0_readFrom_28 : decode bX0_readFrom 28 = .ok (.getfield 24, 3) := by decide +kernel
theorem dX0_readFrom_31 : decode bX0_readFrom 31 = .ok (.if_icmp .ge 24, 3) := by decide +kernel
theorem dX0_readFrom_34 : decode bX0_readFrom 34 = .ok (.aload_n 0, 1) := by decide +kernel
theorem dX0_readFrom_35 : decode bX0_readFrom 35 = .ok (.getfield 18, 3) := by decide +kernel
theorem dX0_readFrom_38 : decode bX0_readFrom 38 = .ok (.iload_n 3, 1) := by decide +kernel
theorem dX0_readFrom_39 : decode bX0_readFrom 39 = .ok (.dup2, 1) := by decide +kernel
theorem dX0_readFrom_40 : decode bX0_readFrom 40 = .ok (.iaload, 1) := by decide +kernel
theorem dX0_readFrom_41 : decode bX0_readFrom 41 = .ok (.aload_n 0, 1) := by decide +kernel
theorem dX0_readFrom_42 : decode bX0_readFrom 42 = .ok (.getfield 21, 3) := by decide +kernel
theorem dX0_readFrom_45 : decode bX0_readFrom 45 = .ok (.iload_n 3, 1) := by decide +kernel
theorem dX0_readFrom_46 : decode bX0_readFrom 46 = .ok (.iaload, 1) := by decide +kernel
theorem dX0_readFrom_47 : decode bX0_readFrom 47 = .ok (.ior, 1) := by decide +kernel
theorem dX0_readFrom_48 : decode bX0_readFrom 48 = .ok (.iastore, 1) := by decide +kernel
theorem dX0_readFrom_49 : decode bX0_readFrom 49 = .ok (.iinc 3 1, 3) := by decide +kernel
theorem dX0_readFrom_52 : decode bX0_readFrom 52 = .ok (.goto (-26), 3) := by decide +kernel
theorem dX0_readFrom_55 : decode bX0_readFrom 55 = .ok (.return_, 1) := by decide +kernel
theorem dX0_readFrom_56 : decode bX0_readFrom 56 = .ok (.iconst 0, 1) := by decide +kernel
theorem dX0_readFrom_57 : decode bX0_readFrom 57 = .ok (.istore_n 3, 1) := by decide +kernel
theorem dX0_readFrom_58 : decode bX0_readFrom 58 = .ok (.iload_n 3, 1) := by decide +kernel
theorem dX0_readFrom_59 : decode bX0_readFrom 59 = .ok (.bipush 6, 2) := by decide +kernel
theorem dX0_readFrom_61 : decode bX0_readFrom 61 = .ok (.if_icmp .ge 47, 3) := by decide +kernel
theorem dX0_readFrom_64 : decode bX0_readFrom 64 = .ok (.aload_n 0, 1) := by decide +kernel
theorem dX0_readFrom_65 : decode bX0_readFrom 65 = .ok (.getfield 15, 3) := by decide +kernel
theorem dX0_readFrom_68 : decode bX0_readFrom 68 = .ok (.iload_n 1, 1) := by decide +kernel
theorem dX0_readFrom_69 : decode bX0_readFrom 69 = .ok (.iaload, 1) := by decide +kernel
theorem dX0_readFrom_70 : decode bX0_readFrom 70 = .ok (.iload_n 2, 1) := by decide +kernel
theorem dX0_readFrom_71 : decode bX0_readFrom 71 = .ok (.iconst (-1), 1) := by decide +kernel
theorem dX0_readFrom_72 : decode bX0_readFrom 72 = .ok (.ixor, 1) := by decide +kernel
theorem dX0_readFrom_73 : decode bX0_readFrom 73 = .ok (.iand, 1) := by decide +kernel
theorem dX0_readFrom_74 : decode bX0_readFrom 74 = .ok (.iload_n 3, 1) := by decide +kernel
theorem dX0_readFrom_75 : decode bX0_readFrom 75 = .ok (.invokestatic 63, 3) := by decide +kernel
theorem dX0_readFrom_78 : decode bX0_readFrom 78 = .ok (.ifCond .eq 24, 3) := by decide +kernel
theorem dX0_readFrom_81 : decode bX0_readFrom 81 = .ok (.aload_n 0, 1) := by decide +kernel
theorem dX0_readFrom_82 : decode bX0_readFrom 82 = .ok (.getfield 21, 3) := by decide +kernel
theorem dX0_readFrom_85 : decode bX0_readFrom 85 = .ok (.iload_n 1, 1) := by decide +kernel
theorem dX0_readFrom_86 : decode bX0_readFrom 86 = .ok (.iconst 1, 1) := by decide +kernel
theorem dX0_readFrom_87 : decode bX0_readFrom 87 = .ok (.iload_n 3, 1) := by decide +kernel
theorem dX0_readFrom_88 : decode bX0_readFrom 88 = .ok (.ishl, 1) := by decide +kernel
theorem dX0_readFrom_89 : decode bX0_readFrom 89 = .ok (.iastore, 1) := by decide +kernel
theorem dX0_readFrom_90 : decode bX0_readFrom 90 = .ok (.aload_n 0, 1) := by decide +kernel
theorem dX0_readFrom_91 : decode bX0_readFrom 91 = .ok (.iload_n 1, 1) := by decide +kernel
theorem dX0_readFrom_92 : decode bX0_readFrom 92 = .ok (.iconst 1, 1) := by decide +kernel
theorem dX0_readFrom_93 : decode bX0_readFrom 93 = .ok (.iadd, 1) := by decide +kernel
theorem dX0_readFrom_94 : decode bX0_readFrom 94 = .ok (.iload_n 2, 1) := by decide +kernel
theorem dX0_readFrom_95 : decode bX0_readFrom 95 = .ok (.iconst 1, 1) := by decide +kernel
theorem dX0_readFrom_96 : decode bX0_readFrom 96 = .ok (.iload_n 3, 1) := by decide +kernel
theorem dX0_readFrom_97 : decode bX0_readFrom 97 = .ok (.ishl, 1) := by decide +kernel
theorem dX0_readFrom_98 : decode bX0_readFrom 98 = .ok (.ior, 1) := by decide +kernel
theorem dX0_readFrom_99 : decode bX0_readFrom 99 = .ok (.invokevirtual 52, 3) := by decide +kernel
theorem dX0_readFrom_102 : decode bX0_readFrom 102 = .ok (.iinc 3 1, 3) := by decide +kernel
theorem dX0_readFrom_105 : decode bX0_readFrom 105 = .ok (.goto (-47), 3) := by decide +kernel
theorem dX0_readFrom_108 : decode bX0_readFrom 108 = .ok (.return_, 1) := by decide +kernel
section
variable {p : Program} {l : Launch} {e : Env} {s : State} {m : MethodId} {args : Array Value} {below : List Frame} {meth : Method} {c : Code} {G : GG} {n : Nat} {h' : Hp} {rv : Unit}
set_option maxHeartbeats 4000000
set_option maxRecDepth 100000
theorem j_X0_readFrom_58 (C0 : Cx p s m args meth c G bX0_readFrom RX0 4 none "readFrom") (hN : NX ≤ n) {dd : Nat} {rec : Hp → Nat → Int32 → Int32 → Option (Unit × Hp)} (hrec : ∀ {h h' : Hp} {x0 : Nat} {x1 : Int32} {x2 : Int32} {rv : Unit}, rec h x0 x1 x2 = some (rv, h') → CT l G n n yX0_readFrom (.code yX0_readFrom bX0_readFrom 4 none) (1 + dd) 0 0 [.ref (bs G + x0), .int x1, .int x2] h h' none) : ∀ (fu : Nat), ∀ {H : Heap} {locs : List Loc} {ls : Array Slot} {h : Hp} {x0 : Nat} {x1 : Int32} {x2 : Int32} {x3 : Int32}, XW G n h s 0 H locs → lv_has ls 4 [(0, .ref (bs G + x0)), (1, .int x1), (2, .int x2), (3, .int x3)] → kd x0 = 0 → f_X0_readFrom_58 rec fu h x0 x1 x2 x3 = some (rv, h') → W p l e (rmC (1 + (dd + 1)) 0 0) s m args below meth c H locs 0 0 (MQ below (QP G n h' none) args s 0 0 (Ab G)) (F0 m 58 ls []) := by
  obtain ⟨hx, hb, hr, hml, hown, hts, hK, hlocks, hnm⟩ := id C0
  intro fu
  induction fu with
  | zero => intro H locs ls h x0 x1 x2 x3 X hl o0 hf; cases hf
  | succ fu ih =>
    intro H locs ls h x0 x1 x2 x3 X hl o0 hf
    rw [f_X0_readFrom_58] at hf
    refine lv_iload_n hx hb dX0_readFrom_58 rfl (lv_at hl 3 rfl) ?_
    refine lv_bipush (v := (6 : Int32)) hx hb dX0_readFrom_59 (by decide) ?_
    refine lv_icmp_ge (tgt := 108) hx hb dX0_readFrom_61 (by decide) (fun c61 => ?_) (fun c61 => ?_)
    · have hf := ite_t hf c61
      exact r_V hx hb hr hlocks X hf dX0_readFrom_108
    · have hf := ite_f hf c61
      refine lv_aload_n hx hb dX0_readFrom_64 rfl (lv_at hl 0 rfl) ?_
      obtain ⟨g1, hf⟩ := gd_e hf
      refine g_R hx hb hts hown hK X o0 hN g1 fl_X0_15 (by decide) rfl (by decide) dX0_readFrom_65 ?_
      refine lv_iload_n hx hb dX0_readFrom_68 rfl (lv_at hl 1 rfl) ?_
      obtain ⟨g2, hf⟩ := gd_e hf
      refine g_ia hx hb hK X g1 hN g2 (by decide) dX0_readFrom_69 ?_
      refine lv_iload_n hx hb dX0_readFrom_70 rfl (lv_at hl 2 rfl) ?_
      refine lv_iconst (v := (-1 : Int32)) hx hb dX0_readFrom_71 (by decide) ?_
      refine lv_ixor hx hb dX0_readFrom_72 ?_
      refine lv_iand hx hb dX0_readFrom_73 ?_
      refine lv_iload_n hx hb dX0_readFrom_74 rfl (lv_at hl 3 rfl) ?_
      obtain ⟨r3, h4, q5, hf⟩ := bd_e hf
      refine c_SN0 (As := [.int ((h.1 (h.2 x0 3) x1.toNatClampNeg) &&& (x2 ^^^ (-1 : Int32))), .int x3]) (rest := []) (st1 := [.int r3]) hx hb hml hown hts hK X (k_X11_hasBit l G n hN q5) lc_X11_hasBit ls_X0_63 (by omega) rfl hl.1 (Nat.le_of_ble_eq_true rfl) dX0_readFrom_75 rfl (fun H locs X => ?_)
      refine lv_if_eq (tgt := 102) hx hb dX0_readFrom_78 (by decide) (fun c78 => ?_) (fun c78 => ?_)
      · have hf := ite_t hf c78
        refine lv_iinc (v := (x3 + (1 : Int32))) (lv' := [(3, .int (x3 + (1 : Int32))), (0, .ref (bs G + x0)), (1, .int x1), (2, .int x2)]) hx hb dX0_readFrom_102 hl (k := 3) rfl rfl (by decide) rfl (fun ls hl => ?_)
        refine lv_goto (tgt := 58) hx hb dX0_readFrom_105 (by decide) ?_
        exact ih X (lv_sub hl [1, 2, 3, 0] rfl) o0 hf
      · have hf := ite_f hf c78
        refine lv_aload_n hx hb dX0_readFrom_81 rfl (lv_at hl 0 rfl) ?_
        obtain ⟨g6, hf⟩ := gd_e hf
        refine g_R hx hb hts hown hK X o0 hN g6 fl_X0_21 (by decide) rfl (by decide) dX0_readFrom_82 ?_
        refine lv_iload_n hx hb dX0_readFrom_85 rfl (lv_at hl 1 rfl) ?_
        refine lv_iconst (v := (1 : Int32)) hx hb dX0_readFrom_86 (by decide) ?_
        refine lv_iload_n hx hb dX0_readFrom_87 rfl (lv_at hl 3 rfl) ?_
        refine lv_ishl hx hb dX0_readFrom_88 ?_
        obtain ⟨g7, hf⟩ := gd_e hf
        refine g_is hx hb hK X g6 hN g7 (by decide) dX0_readFrom_89 (fun H locs X => ?_)
        obtain ⟨h8, e9, hf⟩ := lt_e hf
        rw [← e9] at X
        refine lv_aload_n hx hb dX0_readFrom_90 rfl (lv_at hl 0 rfl) ?_
        refine lv_iload_n hx hb dX0_readFrom_91 rfl (lv_at hl 1 rfl) ?_
        refine lv_iconst (v := (1 : Int32)) hx hb dX0_readFrom_92 (by decide) ?_
        refine lv_iadd hx hb dX0_readFrom_93 ?_
        refine lv_iload_n hx hb dX0_readFrom_94 rfl (lv_at hl 2 rfl) ?_
        refine lv_iconst (v := (1 : Int32)) hx hb dX0_readFrom_95 (by decide) ?_
        refine lv_iload_n hx hb dX0_readFrom_96 rfl (lv_at hl 3 rfl) ?_
        refine lv_ishl hx hb dX0_readFrom_97 ?_
        refine lv_ior hx hb dX0_readFrom_98 ?_
        obtain ⟨r10, h11, q12, hf⟩ := bd_e hf
        refine c_V0 (As := [.int (x1 + (1 : Int32)), .int (x2 ||| ((1 : Int32) <<< (x3 &&& 31)))]) (rest := []) (st1 := []) hx hb hml hown hts hK X (hrec q12) o0 hN lc_X0_readFrom lv_X0_52 (ci := 0) rfl rfl (by omega) rfl hl.1 (Nat.le_of_ble_eq_true rfl) dX0_readFrom_99 rfl (fun H locs X => ?_)
        refine lv_iinc (v := (x3 + (1 : Int32))) (lv' := [(3, .int (x3 + (1 : Int32))), (0, .ref (bs G + x0)), (1, .int x1), (2, .int x2)]) hx hb dX0_readFrom_102 hl (k := 3) rfl rfl (by decide) rfl (fun ls hl => ?_)
        refine lv_goto (tgt := 58) hx hb dX0_readFrom_105 (by decide) ?_
        exact ih X (lv_sub hl [1, 2, 3, 0] rfl) o0 hf
theorem j_X0_readFrom_26 (C0 : Cx p s m args meth c G bX0_readFrom RX0 4 none "readFrom") (hN : NX ≤ n) {dd : Nat} {rec : Hp → Nat → Int32 → Int32 → Option (Unit × Hp)} (hrec : ∀ {h h' : Hp} {x0 : Nat} {x1 : Int32} {x2 : Int32} {rv : Unit}, rec h x0 x1 x2 = some (rv, h') → CT l G n n yX0_readFrom (.code yX0_readFrom bX0_readFrom 4 none) (1 + dd) 0 0 [.ref (bs G + x0), .int x1, .int x2] h h' none) : ∀ (fu : Nat), ∀ {H : Heap} {locs : List Loc} {ls : Array Slot} {h : Hp} {x0 : Nat} {x3 : Int32}, XW G n h s 0 H locs → lv_has ls 4 [(0, .ref (bs G + x0)), (3, .int x3)] → kd x0 = 0 → f_X0_readFrom_26 rec fu h x0 x3 = some (rv, h') → W p l e (rmC (1 + (dd + 1)) 0 0) s m args below meth c H locs 0 0 (MQ below (QP G n h' none) args s 0 0 (Ab G)) (F0 m 26 ls []) := by
  obtain ⟨hx, hb, hr, hml, hown, hts, hK, hlocks, hnm⟩ := id C0
  intro fu
  induction fu with
  | zero => intro H locs ls h x0 x3 X hl o0 hf; cases hf
  | succ fu ih =>
    intro H locs ls h x0 x3 X hl o0 hf
    rw [f_X0_readFrom_26] at hf
    refine lv_iload_n hx hb dX0_readFrom_26 rfl (lv_at hl 1 rfl) ?_
    refine lv_aload_n hx hb dX0_readFrom_27 rfl (lv_at hl 0 rfl) ?_
    refine g_I hx hb hts hown hK X o0 hN fl_X0_24 (by decide) rfl dX0_readFrom_28 ?_
    refine lv_icmp_ge (tgt := 55) hx hb dX0_readFrom_31 (by decide) (fun c31 => ?_) (fun c31 => ?_)
    · have hf := ite_t hf c31
      exact r_V hx hb hr hlocks X hf dX0_readFrom_55
    · have hf := ite_f hf c31
      refine lv_aload_n hx hb dX0_readFrom_34 rfl (lv_at hl 0 rfl) ?_
      obtain ⟨g1, hf⟩ := gd_e hf
      refine g_R hx hb hts hown hK X o0 hN g1 fl_X0_18 (by decide) rfl (by decide) dX0_readFrom_35 ?_
      refine lv_iload_n hx hb dX0_readFrom_38 rfl (lv_at hl 1 rfl) ?_
      refine lv_dup2_11 hx hb dX0_readFrom_39 rfl rfl ?_
      obtain ⟨g2, hf⟩ := gd_e hf
      refine g_ia hx hb hK X g1 hN g2 (by decide) dX0_readFrom_40 ?_
      refine lv_aload_n hx hb dX0_readFrom_41 rfl (lv_at hl 0 rfl) ?_
      obtain ⟨g3, hf⟩ := gd_e hf
      refine g_R hx hb hts hown hK X o0 hN g3 fl_X0_21 (by decide) rfl (by decide) dX0_readFrom_42 ?_
      refine lv_iload_n hx hb dX0_readFrom_45 rfl (lv_at hl 1 rfl) ?_
      obtain ⟨g4, hf⟩ := gd_e hf
      refine g_ia hx hb hK X g3 hN g4 (by decide) dX0_readFrom_46 ?_
      refine lv_ior hx hb dX0_readFrom_47 ?_
      obtain ⟨g5, hf⟩ := gd_e hf
      refine g_is hx hb hK X g1 hN g5 (by decide) dX0_readFrom_48 (fun H locs X => ?_)
      obtain ⟨h6, e7, hf⟩ := lt_e hf
      rw [← e7] at X
      refine lv_iinc (v := (x3 + (1 : Int32))) (lv' := [(3, .int (x3 + (1 : Int32))), (0, .ref (bs G + x0))]) hx hb dX0_readFrom_49 hl (k := 1) rfl rfl (by decide) rfl (fun ls hl => ?_)
      refine lv_goto (tgt := 26) hx hb dX0_readFrom_52 (by decide) ?_
      exact ih X (lv_sub hl [1, 0] rfl) o0 hf
theorem j_X0_readFrom_14 (C0 : Cx p s m args meth c G bX0_readFrom RX0 4 none "readFrom") (hN : NX ≤ n) {dd : Nat} {rec : Hp → Nat → Int32 → Int32 → Option (Unit × Hp)} (hrec : ∀ {h h' : Hp} {x0 : Nat} {x1 : Int32} {x2 : Int32} {rv : Unit}, rec h x0 x1 x2 = some (rv, h') → CT l G n n yX0_readFrom (.code yX0_readFrom bX0_readFrom 4 none) (1 + dd) 0 0 [.ref (bs G + x0), .int x1, .int x2] h h' none) {H : Heap} {locs : List Loc} {ls : Array Slot} {h : Hp} {x0 : Nat} (X : XW G n h s 0 H locs) (hl : lv_has ls 4 [(0, .ref (bs G + x0))]) (o0 : kd x0 = 0) (hf : f_X0_readFrom_14 rec h x0 = some (rv, h')) : W p l e (rmC (1 + (dd + 1)) 0 0) s m args below meth c H locs 0 0 (MQ below (QP G n h' none) args s 0 0 (Ab G)) (F0 m 14 ls []) := by
  obtain ⟨hx, hb, hr, hml, hown, hts, hK, hlocks, hnm⟩ := id C0
  unfold f_X0_readFrom_14 at hf
  refine lv_aload_n hx hb dX0_readFrom_14 rfl (lv_at hl 0 rfl) ?_
  refine lv_dup hx hb dX0_readFrom_15 rfl ?_
  refine g_I hx hb hts hown hK X o0 hN fl_X0_49 (by decide) rfl dX0_readFrom_16 ?_
  refine lv_iconst (v := (1 : Int32)) hx hb dX0_readFrom_19 (by decide) ?_
  refine lv_iadd hx hb dX0_readFrom_20 ?_
  refine g_PI hx hb hts hown hK X o0 hN fl_X0_49 ft_0_1 (by decide) rfl dX0_readFrom_21 (fun H locs X => ?_)
  obtain ⟨h1, e2, hf⟩ := lt_e hf
  rw [← e2] at X
  refine lv_iconst (v := (0 : Int32)) hx hb dX0_readFrom_24 (by decide) ?_
  refine lv_istore_n (lv' := [(3, .int (0 : Int32)), (0, .ref (bs G + x0))]) hx hb dX0_readFrom_25 rfl hl (by decide) rfl (fun ls hl => ?_)
  exact j_X0_readFrom_26 C0 hN hrec FU X (lv_sub hl [1, 0] rfl) o0 hf
theorem k_X0_readFrom (l : Launch) (G : GG) (n : Nat) (hN : NX ≤ n) : ∀ (dd : Nat) {h h' : Hp} {x0 : Nat} {x1 : Int32} {x2 : Int32} {rv : Unit}, f_X0_readFrom dd h x0 x1 x2 = some (rv, h') → CT l G n n yX0_readFrom (.code yX0_readFrom bX0_readFrom 4 none) (1 + dd) 0 0 [.ref (bs G + x0), .int x1, .int x2] h h' none := by
  intro dd
  induction dd with
  | zero => intro h h' x0 x1 x2 rv hf; cases hf
  | succ dd ih =>
    intro h h' x0 x1 x2 rv hf
    have hrec : ∀ {h h' : Hp} {x0 : Nat} {x1 : Int32} {x2 : Int32} {rv : Unit}, f_X0_readFrom dd h x0 x1 x2 = some (rv, h') → CT l G n n yX0_readFrom (.code yX0_readFrom bX0_readFrom 4 none) (1 + dd) 0 0 [.ref (bs G + x0), .int x1, .int x2] h h' none := @ih
    replace hf : f_X0_readFrom_body (f_X0_readFrom dd) h x0 x1 x2 = some (rv, h') := hf
    unfold f_X0_readFrom_body at hf
    refine ct_of (maxL := 4) (ret := none) (bytes := bX0_readFrom) (by decide) (Nat.le_of_ble_eq_true rfl) (fun p e s m below meth c C0 X ls hl => ?_)
    have hl : lv_has ls 4 [(0, .ref (bs G + x0)), (1, .int x1), (2, .int x2)] := hl
    obtain ⟨hx, hb, hr, hml, hown, hts, hK, hlocks, hnm⟩ := id C0
    obtain ⟨o0, hf⟩ := gd_e hf
    refine lv_iload_n hx hb dX0_readFrom_0 rfl (lv_at hl 1 rfl) ?_
    refine lv_aload_n hx hb dX0_readFrom_1 rfl (lv_at hl 0 rfl) ?_
    refine g_I hx hb hts hown hK X o0 hN fl_X0_24 (by decide) rfl dX0_readFrom_2 ?_
    refine lv_icmp_ge (tgt := 14) hx hb dX0_readFrom_5 (by decide) (fun c5 => ?_) (fun c5 => ?_)
    · have hf := ite_t hf c5
      exact j_X0_readFrom_14 C0 hN hrec X (lv_sub hl [0] rfl) o0 hf
    · have hf := ite_f hf c5
      refine lv_iload_n hx hb dX0_readFrom_8 rfl (lv_at hl 1 rfl) ?_
      refine lv_bipush (v := (6 : Int32)) hx hb dX0_readFrom_9 (by decide) ?_
      refine lv_icmp_lt (tgt := 56) hx hb dX0_readFrom_11 (by decide) (fun c11 => ?_) (fun c11 => ?_)
      · have hf := ite_t hf c11
        refine lv_iconst (v := (0 : Int32)) hx hb dX0_readFrom_56 (by decide) ?_
        refine lv_istore_n (lv' := [(3, .int (0 : Int32)), (0, .ref (bs G + x0)), (1, .int x1), (2, .int x2)]) hx hb dX0_readFrom_57 rfl hl (by decide) rfl (fun ls hl => ?_)
        exact j_X0_readFrom_58 C0 hN hrec FU X (lv_sub hl [1, 2, 3, 0] rfl) o0 hf
      · have hf := ite_f hf c11
        exact j_X0_readFrom_14 C0 hN hrec X (lv_sub hl [0] rfl) o0 hf
end
theorem dX9_comingTo_0 : decode bX9_comingTo 0 = .ok (.iload_n 1, 1) := by decide +kernel
theorem dX9_comingTo_1 : decode bX9_comingTo 1 = .ok (.ifCond .lt 11, 3) := by decide +kernel
theorem dX9_comingTo_4 : decode bX9_comingTo 4 = .ok (.iload_n 1, 1) := by decide +kernel
theorem dX9_comingTo_5 : decode bX9_comingTo 5 = .ok (.aload_n 0, 1) := by decide +kernel
theorem dX9_comingTo_6 : decode bX9_comingTo 6 = .ok (.getfield 18, 3) := by decide +kernel
theorem dX9_comingTo_9 : decode bX9_comingTo 9 = .ok (.if_icmp .le 7, 3) := by decide +kernel
theorem dX9_comingTo_12 : decode bX9_comingTo 12 = .ok (.iconst 0, 1) := by decide +kernel
theorem dX9_comingTo_13 : decode bX9_comingTo 13 = .ok (.goto 13, 3) := by decide +kernel
theorem dX9_comingTo_16 : decode bX9_comingTo 16 = .ok (.aload_n 0, 1) := by decide +kernel
theorem dX9_comingTo_17 : decode bX9_comingTo 17 = .ok (.getfield 9, 3) := by decide +kernel
theorem dX9_comingTo_20 : decode bX9_comingTo 20 = .ok (.sipush 300, 3) := by decide +kernel
theorem dX9_comingTo_23 : decode bX9_comingTo 23 = .ok (.iload_n 1, 1) := by decide +kernel
theorem dX9_comingTo_24 : decode bX9_comingTo 24 = .ok (.iadd, 1) := by decide +kernel
theorem dX9_comingTo_25 : decode bX9_comingTo 25 = .ok (.iaload, 1) := by decide +kernel
theorem dX9_comingTo_26 : decode bX9_comingTo 26 = .ok (.ireturn, 1) := by decide +kernel
section
variable {p : Program} {l : Launch} {e : Env} {s : State} {m : MethodId} {args : Array Value} {below : List Frame} {meth : Method} {c : Code} {G : GG} {n : Nat} {h' : Hp} {rv : Int32}
set_option maxHeartbeats 4000000
set_option maxRecDepth 100000
theorem k_X9_comingTo (l : Launch) (G : GG) (n : Nat) (hN : NX ≤ n) {h h' : Hp} {x0 : Nat} {x1 : Int32} {rv : Int32} (hf : f_X9_comingTo h x0 x1 = some (rv, h')) : CT l G n n yX9_comingTo (.code yX9_comingTo bX9_comingTo 2 (some .int)) 0 0 0 [.ref (bs G + x0), .int x1] h h' (some (.int rv)) := by
  refine ct_of (maxL := 2) (ret := (some .int)) (bytes := bX9_comingTo) (by decide) (Nat.le_of_ble_eq_true rfl) (fun p e s m below meth c C0 X ls hl => ?_)
  have hl : lv_has ls 2 [(0, .ref (bs G + x0)), (1, .int x1)] := hl
  obtain ⟨hx, hb, hr, hml, hown, hts, hK, hlocks, hnm⟩ := id C0
  unfold f_X9_comingTo at hf
  obtain ⟨o0, hf⟩ := gd_e hf
  refine lv_iload_n hx hb dX9_comingTo_0 rfl (lv_at hl 1 rfl) ?_
  refine lv_if_lt (tgt := 12) hx hb dX9_comingTo_1 (by decide) (fun c1 => ?_) (fun c1 => ?_)
  · have hf := ite_t hf c1
    refine lv_iconst (v := (0 : Int32)) hx hb dX9_comingTo_12 (by decide) ?_
    refine lv_goto (tgt := 26) hx hb dX9_comingTo_13 (by decide) ?_
    exact r_I hx hb hr hlocks X hf dX9_comingTo_26
  · have hf := ite_f hf c1
    refine lv_iload_n hx hb dX9_comingTo_4 rfl (lv_at hl 1 rfl) ?_
    refine lv_aload_n hx hb dX9_comingTo_5 rfl (lv_at hl 0 rfl) ?_
    refine g_I hx hb hts hown hK X o0 hN fl_X9_18 (by decide) rfl dX9_comingTo_6 ?_
    refine lv_icmp_le (tgt := 16) hx hb dX9_comingTo_9 (by decide) (fun c9 => ?_) (fun c9 => ?_)
    · have hf := ite_t hf c9
      refine lv_aload_n hx hb dX9_comingTo_16 rfl (lv_at hl 0 rfl) ?_
      obtain ⟨g1, hf⟩ := gd_e hf
      refine g_R hx hb hts hown hK X o0 hN g1 fl_X9_9 (by decide) rfl (by decide) dX9_comingTo_17 ?_
      refine lv_sipush (v := (300 : Int32)) hx hb dX9_comingTo_20 (by decide) ?_
      refine lv_iload_n hx hb dX9_comingTo_23 rfl (lv_at hl 1 rfl) ?_
      refine lv_iadd hx hb dX9_comingTo_24 ?_
      obtain ⟨g2, hf⟩ := gd_e hf
      refine g_ia hx hb hK X g1 hN g2 (by decide) dX9_comingTo_25 ?_
      exact r_I hx hb hr hlocks X hf dX9_comingTo_26
    · have hf := ite_f hf c9
      refine lv_iconst (v := (0 : Int32)) hx hb dX9_comingTo_12 (by decide) ?_
      refine lv_goto (tgt := 26) hx hb dX9_comingTo_13 (by decide) ?_
      exact r_I hx hb hr hlocks X hf dX9_comingTo_26
end
theorem dJ6_bitCount_0f7a4_0 : decode bJ6_bitCount_0f7a4 0 = .ok (.iload_n 0, 1) := by decide +kernel
theorem dJ6_bitCount_0f7a4_1 : decode bJ6_bitCount_0f7a4 1 = .ok (.iload_n 0, 1) := by decide +kernel
theorem dJ6_bitCount_0f7a4_2 : decode bJ6_bitCount_0f7a4 2 = .ok (.iconst 1, 1) := by decide +kernel
theorem dJ6_bitCount_0f7a4_3 : decode bJ6_bitCount_0f7a4 3 = .ok (.iushr, 1) := by decide +kernel
theorem dJ6_bitCount_0f7a4_4 : decode bJ6_bitCount_0f7a4 4 = .ok (.ldc_w 265, 3) := by decide +kernel
theorem dJ6_bitCount_0f7a4_7 : decode bJ6_bitCount_0f7a4 7 = .ok (.iand, 1) := by decide +kernel
theorem dJ6_bitCount_0f7a4_8 : decode bJ6_bitCount_0f7a4 8 = .ok (.isub, 1) := by decide +kernel
theorem dJ6_bitCount_0f7a4_9 : decode bJ6_bitCount_0f7a4 9 = .ok (.istore_n 0, 1) := by decide +kernel
theorem dJ6_bitCount_0f7a4_10 : decode bJ6_bitCount_0f7a4 10 = .ok (.iload_n 0, 1) := by decide +kernel
theorem dJ6_bitCount_0f7a4_11 : decode bJ6_bitCount_0f7a4 11 = .ok (.ldc_w 266, 3) := by decide +kernel
theorem dJ6_bitCount_0f7a4_14 : decode bJ6_bitCount_0f7a4 14 = .ok (.iand, 1) := by decide +kernel
theorem dJ6_bitCount_0f7a4_15 : decode bJ6_bitCount_0f7a4 15 = .ok (.iload_n 0, 1) := by decide +kernel
theorem dJ6_bitCount_0f7a4_16 : decode bJ6_bitCount_0f7a4 16 = .ok (.iconst 2, 1) := by decide +kernel
theorem dJ6_bitCount_0f7a4_17 : decode bJ6_bitCount_0f7a4 17 = .ok (.iushr, 1) := by decide +kernel
theorem dJ6_bitCount_0f7a4_18 : decode bJ6_bitCount_0f7a4 18 = .ok (.ldc_w 266, 3) := by decide +kernel
theorem dJ6_bitCount_0f7a4_21 : decode bJ6_bitCount_0f7a4 21 = .ok (.iand, 1) := by decide +kernel
theorem dJ6_bitCount_0f7a4_22 : decode bJ6_bitCount_0f7a4 22 = .ok (.iadd, 1) := by decide +kernel
theorem dJ6_bitCount_0f7a4_23 : decode bJ6_bitCount_0f7a4 23 = .ok (.istore_n 0, 1) := by decide +kernel
theorem dJ6_bitCount_0f7a4_24 : decode bJ6_bitCount_0f7a4 24 = .ok (.iload_n 0, 1) := by decide +kernel
theorem dJ6_bitCount_0f7a4_25 : decode bJ6_bitCount_0f7a4 25 = .ok (.iload_n 0, 1) := by decide +kernel
theorem dJ6_bitCount_0f7a4_26 : decode bJ6_bitCount_0f7a4 26 = .ok (.iconst 4, 1) := by decide +kernel
theorem dJ6_bitCount_0f7a4_27 : decode bJ6_bitCount_0f7a4 27 = .ok (.iushr, 1) := by decide +kernel
theorem dJ6_bitCount_0f7a4_28 : decode bJ6_bitCount_0f7a4 28 = .ok (.iadd, 1) := by decide +kernel
theorem dJ6_bitCount_0f7a4_29 : decode bJ6_bitCount_0f7a4 29 = .ok (.ldc_w 267, 3) := by decide +kernel
theorem dJ6_bitCount_0f7a4_32 : decode bJ6_bitCount_0f7a4 32 = .ok (.iand, 1) := by decide +kernel
theorem dJ6_bitCount_0f7a4_33 : decode bJ6_bitCount_0f7a4 33 = .ok (.istore_n 0, 1) := by decide +kernel
theorem dJ6_bitCount_0f7a4_34 : decode bJ6_bitCount_0f7a4 34 = .ok (.iload_n 0, 1) := by decide +kernel
theorem dJ6_bitCount_0f7a4_35 : decode bJ6_bitCount_0f7a4 35 = .ok (.iload_n 0, 1) := by decide +kernel
theorem dJ6_bitCount_0f7a4_36 : decode bJ6_bitCount_0f7a4 36 = .ok (.bipush 8, 2) := by decide +kernel
theorem dJ6_bitCount_0f7a4_38 : decode bJ6_bitCount_0f7a4 38 = .ok (.iushr, 1) := by decide +kernel
theorem dJ6_bitCount_0f7a4_39 : decode bJ6_bitCount_0f7a4 39 = .ok (.iadd, 1) := by decide +kernel
theorem dJ6_bitCount_0f7a4_40 : decode bJ6_bitCount_0f7a4 40 = .ok (.istore_n 0, 1) := by decide +kernel
theorem dJ6_bitCount_0f7a4_41 : decode bJ6_bitCount_0f7a4 41 = .ok (.iload_n 0, 1) := by decide +kernel
theorem dJ6_bitCount_0f7a4_42 : decode bJ6_bitCount_0f7a4 42 = .ok (.iload_n 0, 1) := by decide +kernel
theorem dJ6_bitCount_0f7a4_43 : decode bJ6_bitCount_0f7a4 43 = .ok (.bipush 16, 2) := by decide +kernel
theorem dJ6_bitCount_0f7a4_45 : decode bJ6_bitCount_0f7a4 45 = .ok (.iushr, 1) := by decide +kernel
theorem dJ6_bitCount_0f7a4_46 : decode bJ6_bitCount_0f7a4 46 = .ok (.iadd, 1) := by decide +kernel
theorem dJ6_bitCount_0f7a4_47 : decode bJ6_bitCount_0f7a4 47 = .ok (.istore_n 0, 1) := by decide +kernel
theorem dJ6_bitCount_0f7a4_48 : decode bJ6_bitCount_0f7a4 48 = .ok (.iload_n 0, 1) := by decide +kernel
theorem dJ6_bitCount_0f7a4_49 : decode bJ6_bitCount_0f7a4 49 = .ok (.bipush 63, 2) := by decide +kernel
theorem dJ6_bitCount_0f7a4_51 : decode bJ6_bitCount_0f7a4 51 = .ok (.iand, 1) := by decide +kernel
theorem dJ6_bitCount_0f7a4_52 : decode bJ6_bitCount_0f7a4 52 = .ok (.ireturn, 1) := by decide +kernel
section
variable {p : Program} {l : Launch} {e : Env} {s : State} {m : MethodId} {args : Array Value} {below : List Frame} {meth : Method} {c : Code} {G : GG} {n : Nat} {h' : Hp} {rv : Int32}
set_option maxHeartbeats 4000000
set_option maxRecDepth 100000
theorem k_J6_bitCount_0f7a4 (l : Launch) (G : GG) (n : Nat) (hN : NX ≤ n) {h h' : Hp} {x0 : Int32} {rv : Int32} (hf : f_J6_bitCount_0f7a4 h x0 = some (rv, h')) : CT l G n n yJ6_bitCount_0f7a4 (.code yJ6_bitCount_0f7a4 bJ6_bitCount_0f7a4 1 (some .int)) 0 0 0 [.int x0] h h' (some (.int rv)) := by
  refine ct_of (maxL := 1) (ret := (some .int)) (bytes := bJ6_bitCount_0f7a4) (by decide) (Nat.le_of_ble_eq_true rfl) (fun p e s m below meth c C0 X ls hl => ?_)
  have hl : lv_has ls 1 [(0, .int x0)] := hl
  obtain ⟨hx, hb, hr, hml, hown, hts, hK, hlocks, hnm⟩ := id C0
  unfold f_J6_bitCount_0f7a4 at hf
  refine lv_iload_n hx hb dJ6_bitCount_0f7a4_0 rfl (lv_at hl 0 rfl) ?_
  refine lv_iload_n hx hb dJ6_bitCount_0f7a4_1 rfl (lv_at hl 0 rfl) ?_
  refine lv_iconst (v := (1 : Int32)) hx hb dJ6_bitCount_0f7a4_2 (by decide) ?_
  refine lv_iushr hx hb dJ6_bitCount_0f7a4_3 rfl ?_
  refine lv_ldcw hx hb hown (hts _ cn_J6_265) dJ6_bitCount_0f7a4_4 ?_
  refine lv_iand hx hb dJ6_bitCount_0f7a4_7 ?_
  refine lv_isub hx hb dJ6_bitCount_0f7a4_8 ?_
  refine lv_istore_n (lv' := [(0, .int (x0 - ((x0.toUInt32 >>> ((1 : Int32).toUInt32 &&& Int32.toUInt32 31)).toInt32 &&& (1431655765 : Int32))))]) hx hb dJ6_bitCount_0f7a4_9 rfl hl (by decide) rfl (fun ls hl => ?_)
  refine lv_iload_n hx hb dJ6_bitCount_0f7a4_10 rfl (lv_at hl 0 rfl) ?_
  refine lv_ldcw hx hb hown (hts _ cn_J6_266) dJ6_bitCount_0f7a4_11 ?_
  refine lv_iand hx hb dJ6_bitCount_0f7a4_14 ?_
  refine lv_iload_n hx hb dJ6_bitCount_0f7a4_15 rfl (lv_at hl 0 rfl) ?_
  refine lv_iconst (v := (2 : Int32)) hx hb dJ6_bitCount_0f7a4_16 (by decide) ?_
  refine lv_iushr hx hb dJ6_bitCount_0f7a4_17 rfl ?_
  refine lv_ldcw hx hb hown (hts _ cn_J6_266) dJ6_bitCount_0f7a4_18 ?_
  refine lv_iand hx hb dJ6_bitCount_0f7a4_21 ?_
  refine lv_iadd hx hb dJ6_bitCount_0f7a4_22 ?_
  refine lv_istore_n (lv' := [(0, .int (((x0 - ((x0.toUInt32 >>> ((1 : Int32).toUInt32 &&& Int32.toUInt32 31)).toInt32 &&& (1431655765 : Int32))) &&& (858993459 : Int32)) + (((x0 - ((x0.toUInt32 >>> ((1 : Int32).toUInt32 &&& Int32.toUInt32 31)).toInt32 &&& (1431655765 : Int32))).toUInt32 >>> ((2 : Int32).toUInt32 &&& Int32.toUInt32 31)).toInt32 &&& (858993459 : Int32))))]) hx hb dJ6_bitCount_0f7a4_23 rfl hl (by decide) rfl (fun ls hl => ?_)
  refine lv_iload_n hx hb dJ6_bitCount_0f7a4_24 rfl (lv_at hl 0 rfl) ?_
  refine lv_iload_n hx hb dJ6_bitCount_0f7a4_25 rfl (lv_at hl 0 rfl) ?_
  refine lv_iconst (v := (4 : Int32)) hx hb dJ6_bitCount_0f7a4_26 (by decide) ?_
  refine lv_iushr hx hb dJ6_bitCount_0f7a4_27 rfl ?_
  refine lv_iadd hx hb dJ6_bitCount_0f7a4_28 ?_
  refine lv_ldcw hx hb hown (hts _ cn_J6_267) dJ6_bitCount_0f7a4_29 ?_
  refine lv_iand hx hb dJ6_bitCount_0f7a4_32 ?_
  refine lv_istore_n (lv' := [(0, .int (((((x0 - ((x0.toUInt32 >>> ((1 : Int32).toUInt32 &&& Int32.toUInt32 31)).toInt32 &&& (1431655765 : Int32))) &&& (858993459 : Int32)) + (((x0 - ((x0.toUInt32 >>> ((1 : Int32).toUInt32 &&& Int32.toUInt32 31)).toInt32 &&& (1431655765 : Int32))).toUInt32 >>> ((2 : Int32).toUInt32 &&& Int32.toUInt32 31)).toInt32 &&& (858993459 : Int32))) + ((((x0 - ((x0.toUInt32 >>> ((1 : Int32).toUInt32 &&& Int32.toUInt32 31)).toInt32 &&& (1431655765 : Int32))) &&& (858993459 : Int32)) + (((x0 - ((x0.toUInt32 >>> ((1 : Int32).toUInt32 &&& Int32.toUInt32 31)).toInt32 &&& (1431655765 : Int32))).toUInt32 >>> ((2 : Int32).toUInt32 &&& Int32.toUInt32 31)).toInt32 &&& (858993459 : Int32))).toUInt32 >>> ((4 : Int32).toUInt32 &&& Int32.toUInt32 31)).toInt32) &&& (252645135 : Int32)))]) hx hb dJ6_bitCount_0f7a4_33 rfl hl (by decide) rfl (fun ls hl => ?_)
  refine lv_iload_n hx hb dJ6_bitCount_0f7a4_34 rfl (lv_at hl 0 rfl) ?_
  refine lv_iload_n hx hb dJ6_bitCount_0f7a4_35 rfl (lv_at hl 0 rfl) ?_
  refine lv_bipush (v := (8 : Int32)) hx hb dJ6_bitCount_0f7a4_36 (by decide) ?_
  refine lv_iushr hx hb dJ6_bitCount_0f7a4_38 rfl ?_
  refine lv_iadd hx hb dJ6_bitCount_0f7a4_39 ?_
  refine lv_istore_n (lv' := [(0, .int ((((((x0 - ((x0.toUInt32 >>> ((1 : Int32).toUInt32 &&& Int32.toUInt32 31)).toInt32 &&& (1431655765 : Int32))) &&& (858993459 : Int32)) + (((x0 - ((x0.toUInt32 >>> ((1 : Int32).toUInt32 &&& Int32.toUInt32 31)).toInt32 &&& (1431655765 : Int32))).toUInt32 >>> ((2 : Int32).toUInt32 &&& Int32.toUInt32 31)).toInt32 &&& (858993459 : Int32))) + ((((x0 - ((x0.toUInt32 >>> ((1 : Int32).toUInt32 &&& Int32.toUInt32 31)).toInt32 &&& (1431655765 : Int32))) &&& (858993459 : Int32)) + (((x0 - ((x0.toUInt32 >>> ((1 : Int32).toUInt32 &&& Int32.toUInt32 31)).toInt32 &&& (1431655765 : Int32))).toUInt32 >>> ((2 : Int32).toUInt32 &&& Int32.toUInt32 31)).toInt32 &&& (858993459 : Int32))).toUInt32 >>> ((4 : Int32).toUInt32 &&& Int32.toUInt32 31)).toInt32) &&& (252645135 : Int32)) + ((((((x0 - ((x0.toUInt32 >>> ((1 : Int32).toUInt32 &&& Int32.toUInt32 31)).toInt32 &&& (1431655765 : Int32))) &&& (858993459 : Int32)) + (((x0 - ((x0.toUInt32 >>> ((1 : Int32).toUInt32 &&& Int32.toUInt32 31)).toInt32 &&& (1431655765 : Int32))).toUInt32 >>> ((2 : Int32).toUInt32 &&& Int32.toUInt32 31)).toInt32 &&& (858993459 : Int32))) + ((((x0 - ((x0.toUInt32 >>> ((1 : Int32).toUInt32 &&& Int32.toUInt32 31)).toInt32 &&& (1431655765 : Int32))) &&& (858993459 : Int32)) + (((x0 - ((x0.toUInt32 >>> ((1 : Int32).toUInt32 &&& Int32.toUInt32 31)).toInt32 &&& (1431655765 : Int32))).toUInt32 >>> ((2 : Int32).toUInt32 &&& Int32.toUInt32 31)).toInt32 &&& (858993459 : Int32))).toUInt32 >>> ((4 : Int32).toUInt32 &&& Int32.toUInt32 31)).toInt32) &&& (252645135 : Int32)).toUInt32 >>> ((8 : Int32).toUInt32 &&& Int32.toUInt32 31)).toInt32))]) hx hb dJ6_bitCount_0f7a4_40 rfl hl (by decide) rfl (fun ls hl => ?_)
  refine lv_iload_n hx hb dJ6_bitCount_0f7a4_41 rfl (lv_at hl 0 rfl) ?_
  refine lv_iload_n hx hb dJ6_bitCount_0f7a4_42 rfl (lv_at hl 0 rfl) ?_
  refine lv_bipush (v := (16 : Int32)) hx hb dJ6_bitCount_0f7a4_43 (by decide) ?_
  refine lv_iushr hx hb dJ6_bitCount_0f7a4_45 rfl ?_
  refine lv_iadd hx hb dJ6_bitCount_0f7a4_46 ?_
  refine lv_istore_n (lv' := [(0, .int (((((((x0 - ((x0.toUInt32 >>> ((1 : Int32).toUInt32 &&& Int32.toUInt32 31)).toInt32 &&& (1431655765 : Int32))) &&& (858993459 : Int32)) + (((x0 - ((x0.toUInt32 >>> ((1 : Int32).toUInt32 &&& Int32.toUInt32 31)).toInt32 &&& (1431655765 : Int32))).toUInt32 >>> ((2 : Int32).toUInt32 &&& Int32.toUInt32 31)).toInt32 &&& (858993459 : Int32))) + ((((x0 - ((x0.toUInt32 >>> ((1 : Int32).toUInt32 &&& Int32.toUInt32 31)).toInt32 &&& (1431655765 : Int32))) &&& (858993459 : Int32)) + (((x0 - ((x0.toUInt32 >>> ((1 : Int32).toUInt32 &&& Int32.toUInt32 31)).toInt32 &&& (1431655765 : Int32))).toUInt32 >>> ((2 : Int32).toUInt32 &&& Int32.toUInt32 31)).toInt32 &&& (858993459 : Int32))).toUInt32 >>> ((4 : Int32).toUInt32 &&& Int32.toUInt32 31)).toInt32) &&& (252645135 : Int32)) + ((((((x0 - ((x0.toUInt32 >>> ((1 : Int32).toUInt32 &&& Int32.toUInt32 31)).toInt32 &&& (1431655765 : Int32))) &&& (858993459 : Int32)) + (((x0 - ((x0.toUInt32 >>> ((1 : Int32).toUInt32 &&& Int32.toUInt32 31)).toInt32 &&& (1431655765 : Int32))).toUInt32 >>> ((2 : Int32).toUInt32 &&& Int32.toUInt32 31)).toInt32 &&& (858993459 : Int32))) + ((((x0 - ((x0.toUInt32 >>> ((1 : Int32).toUInt32 &&& Int32.toUInt32 31)).toInt32 &&& (1431655765 : Int32))) &&& (858993459 : Int32)) + (((x0 - ((x0.toUInt32 >>> ((1 : Int32).toUInt32 &&& Int32.toUInt32 31)).toInt32 &&& (1431655765 : Int32))).toUInt32 >>> ((2 : Int32).toUInt32 &&& Int32.toUInt32 31)).toInt32 &&& (858993459 : Int32))).toUInt32 >>> ((4 : Int32).toUInt32 &&& Int32.toUInt32 31)).toInt32) &&& (252645135 : Int32)).toUInt32 >>> ((8 : Int32).toUInt32 &&& Int32.toUInt32 31)).toInt32) + (((((((x0 - ((x0.toUInt32 >>> ((1 : Int32).toUInt32 &&& Int32.toUInt32 31)).toInt32 &&& (1431655765 : Int32))) &&& (858993459 : Int32)) + (((x0 - ((x0.toUInt32 >>> ((1 : Int32).toUInt32 &&& Int32.toUInt32 31)).toInt32 &&& (1431655765 : Int32))).toUInt32 >>> ((2 : Int32).toUInt32 &&& Int32.toUInt32 31)).toInt32 &&& (858993459 : Int32))) + ((((x0 - ((x0.toUInt32 >>> ((1 : Int32).toUInt32 &&& Int32.toUInt32 31)).toInt32 &&& (1431655765 : Int32))) &&& (858993459 : Int32)) + (((x0 - ((x0.toUInt32 >>> ((1 : Int32).toUInt32 &&& Int32.toUInt32 31)).toInt32 &&& (1431655765 : Int32))).toUInt32 >>> ((2 : Int32).toUInt32 &&& Int32.toUInt32 31)).toInt32 &&& (858993459 : Int32))).toUInt32 >>> ((4 : Int32).toUInt32 &&& Int32.toUInt32 31)).toInt32) &&& (252645135 : Int32)) + ((((((x0 - ((x0.toUInt32 >>> ((1 : Int32).toUInt32 &&& Int32.toUInt32 31)).toInt32 &&& (1431655765 : Int32))) &&& (858993459 : Int32)) + (((x0 - ((x0.toUInt32 >>> ((1 : Int32).toUInt32 &&& Int32.toUInt32 31)).toInt32 &&& (1431655765 : Int32))).toUInt32 >>> ((2 : Int32).toUInt32 &&& Int32.toUInt32 31)).toInt32 &&& (858993459 : Int32))) + ((((x0 - ((x0.toUInt32 >>> ((1 : Int32).toUInt32 &&& Int32.toUInt32 31)).toInt32 &&& (1431655765 : Int32))) &&& (858993459 : Int32)) + (((x0 - ((x0.toUInt32 >>> ((1 : Int32).toUInt32 &&& Int32.toUInt32 31)).toInt32 &&& (1431655765 : Int32))).toUInt32 >>> ((2 : Int32).toUInt32 &&& Int32.toUInt32 31)).toInt32 &&& (858993459 : Int32))).toUInt32 >>> ((4 : Int32).toUInt32 &&& Int32.toUInt32 31)).toInt32) &&& (252645135 : Int32)).toUInt32 >>> ((8 : Int32).toUInt32 &&& Int32.toUInt32 31)).toInt32).toUInt32 >>> ((16 : Int32).toUInt32 &&& Int32.toUInt32 31)).toInt32))]) hx hb dJ6_bitCount_0f7a4_47 rfl hl (by decide) rfl (fun ls hl => ?_)
  refine lv_iload_n hx hb dJ6_bitCount_0f7a4_48 rfl (lv_at hl 0 rfl) ?_
  refine lv_bipush (v := (63 : Int32)) hx hb dJ6_bitCount_0f7a4_49 (by decide) ?_
  refine lv_iand hx hb dJ6_bitCount_0f7a4_51 ?_
  exact r_I hx hb hr hlocks X hf dJ6_bitCount_0f7a4_52
end
theorem dX11_lastUse_0 : decode bX11_lastUse 0 = .ok (.iload_n 0, 1) := by decide +kernel
theorem dX11_lastUse_1 : decode bX11_lastUse 1 = .ok (.iconst 3, 1) := by decide +kernel
theorem dX11_lastUse_2 : decode bX11_lastUse 2 = .ok (.if_icmp .ne 7, 3) := by decide +kernel
theorem dX11_lastUse_5 : decode bX11_lastUse 5 = .ok (.iconst 3, 1) := by decide +kernel
theorem dX11_lastUse_6 : decode bX11_lastUse 6 = .ok (.goto 13, 3) := by decide +kernel
theorem dX11_lastUse_9 : decode bX11_lastUse 9 = .ok (.iload_n 0, 1) := by decide +kernel
theorem dX11_lastUse_10 : decode bX11_lastUse 10 = .ok (.iconst 2, 1) := by decide +kernel
theorem dX11_lastUse_11 : decode bX11_lastUse 11 = .ok (.if_icmp .ne 7, 3) := by decide +kernel
theorem dX11_lastUse_14 : decode bX11_lastUse 14 = .ok (.iconst 2, 1) := by decide +kernel
theorem dX11_lastUse_15 : decode bX11_lastUse 15 = .ok (.goto 4, 3) := by decide +kernel
theorem dX11_lastUse_18 : decode bX11_lastUse 18 = .ok (.iconst 1, 1) := by decide +kernel
theorem dX11_lastUse_19 : decode bX11_lastUse 19 = .ok (.ireturn, 1) := by decide +kernel
section
variable {p : Program} {l : Launch} {e : Env} {s : State} {m : MethodId} {args : Array Value} {below : List Frame} {meth : Method} {c : Code} {G : GG} {n : Nat} {h' : Hp} {rv : Int32}
set_option maxHeartbeats 4000000
set_option maxRecDepth 100000
theorem k_X11_lastUse (l : Launch) (G : GG) (n : Nat) (hN : NX ≤ n) {h h' : Hp} {x0 : Int32} {rv : Int32} (hf : f_X11_lastUse h x0 = some (rv, h')) : CT l G n n yX11_lastUse (.code yX11_lastUse bX11_lastUse 1 (some .int)) 0 0 0 [.int x0] h h' (some (.int rv)) := by
  refine ct_of (maxL := 1) (ret := (some .int)) (bytes := bX11_lastUse) (by decide) (Nat.le_of_ble_eq_true rfl) (fun p e s m below meth c C0 X ls hl => ?_)
  have hl : lv_has ls 1 [(0, .int x0)] := hl
  obtain ⟨hx, hb, hr, hml, hown, hts, hK, hlocks, hnm⟩ := id C0
  unfold f_X11_lastUse at hf
  refine lv_iload_n hx hb dX11_lastUse_0 rfl (lv_at hl 0 rfl) ?_
  refine lv_iconst (v := (3 : Int32)) hx hb dX11_lastUse_1 (by decide) ?_
  refine lv_icmp_ne (tgt := 9) hx hb dX11_lastUse_2 (by decide) (fun c2 => ?_) (fun c2 => ?_)
  · have hf := ite_f hf c2
    refine lv_iload_n hx hb dX11_lastUse_9 rfl (lv_at hl 0 rfl) ?_
    refine lv_iconst (v := (2 : Int32)) hx hb dX11_lastUse_10 (by decide) ?_
    refine lv_icmp_ne (tgt := 18) hx hb dX11_lastUse_11 (by decide) (fun c11 => ?_) (fun c11 => ?_)
    · have hf := ite_f hf c11
      refine lv_iconst (v := (1 : Int32)) hx hb dX11_lastUse_18 (by decide) ?_
      exact r_I hx hb hr hlocks X hf dX11_lastUse_19
    · have hf := ite_t hf c11
      refine lv_iconst (v := (2 : Int32)) hx hb dX11_lastUse_14 (by decide) ?_
      refine lv_goto (tgt := 19) hx hb dX11_lastUse_15 (by decide) ?_
      exact r_I hx hb hr hlocks X hf dX11_lastUse_19
  · have hf := ite_t hf c2
    refine lv_iconst (v := (3 : Int32)) hx hb dX11_lastUse_5 (by decide) ?_
    refine lv_goto (tgt := 19) hx hb dX11_lastUse_6 (by decide) ?_
    exact r_I hx hb hr hlocks X hf dX11_lastUse_19
end
theorem dX11_canStand_0 : decode bX11_canStand 0 = .ok (.iload_n 1, 1) := by decide +kernel
theorem dX11_canStand_1 : decode bX11_canStand 1 = .ok (.iconst 3, 1) := by decide +kernel
theorem dX11_canStand_2 : decode bX11_canStand 2 = .ok (.if_icmp .ne 9, 3) := by decide +kernel
theorem dX11_canStand_5 : decode bX11_canStand 5 = .ok (.iload_n 0, 1) := by decide +kernel
theorem dX11_canStand_6 : decode bX11_canStand 6 = .ok (.iconst 2, 1) := by decide +kernel
theorem dX11_canStand_7 : decode bX11_canStand 7 = .ok (.irem, 1) := by decide +kernel
theorem dX11_canStand_8 : decode bX11_canStand 8 = .ok (.ifCond .ne 7, 3) := by decide +kernel
theorem dX11_canStand_11 : decode bX11_canStand 11 = .ok (.iconst 1, 1) := by decide +kernel
theorem dX11_canStand_12 : decode bX11_canStand 12 = .ok (.goto 4, 3) := by decide +kernel
theorem dX11_canStand_15 : decode bX11_canStand 15 = .ok (.iconst 0, 1) := by decide +kernel
theorem dX11_canStand_16 : decode bX11_canStand 16 = .ok (.ireturn, 1) := by decide +kernel
section
variable {p : Program} {l : Launch} {e : Env} {s : State} {m : MethodId} {args : Array Value} {below : List Frame} {meth : Method} {c : Code} {G : GG} {n : Nat} {h' : Hp} {rv : Int32}
set_option maxHeartbeats 4000000
set_option maxRecDepth 100000
theorem k_X11_canStand (l : Launch) (G : GG) (n : Nat) (hN : NX ≤ n) {h h' : Hp} {x0 : Int32} {x1 : Int32} {rv : Int32} (hf : f_X11_canStand h x0 x1 = some (rv, h')) : CT l G n n yX11_canStand (.code yX11_canStand bX11_canStand 2 (some .boolean)) 0 0 0 [.int x0, .int x1] h h' (some (.int rv)) := by
  refine ct_of (maxL := 2) (ret := (some .boolean)) (bytes := bX11_canStand) (by decide) (Nat.le_of_ble_eq_true rfl) (fun p e s m below meth c C0 X ls hl => ?_)
  have hl : lv_has ls 2 [(0, .int x0), (1, .int x1)] := hl
  obtain ⟨hx, hb, hr, hml, hown, hts, hK, hlocks, hnm⟩ := id C0
  unfold f_X11_canStand at hf
  refine lv_iload_n hx hb dX11_canStand_0 rfl (lv_at hl 1 rfl) ?_
  refine lv_iconst (v := (3 : Int32)) hx hb dX11_canStand_1 (by decide) ?_
  refine lv_icmp_ne (tgt := 11) hx hb dX11_canStand_2 (by decide) (fun c2 => ?_) (fun c2 => ?_)
  · have hf := ite_f hf c2
    refine lv_iconst (v := (1 : Int32)) hx hb dX11_canStand_11 (by decide) ?_
    refine lv_goto (tgt := 16) hx hb dX11_canStand_12 (by decide) ?_
    exact r_Z hx hb hr hlocks X rfl hf dX11_canStand_16
  · have hf := ite_t hf c2
    refine lv_iload_n hx hb dX11_canStand_5 rfl (lv_at hl 0 rfl) ?_
    refine lv_iconst (v := (2 : Int32)) hx hb dX11_canStand_6 (by decide) ?_
    refine lv_irem hx hb dX11_canStand_7 (by decide) ?_
    refine lv_if_ne (tgt := 15) hx hb dX11_canStand_8 (by decide) (fun c8 => ?_) (fun c8 => ?_)
    · have hf := ite_f hf c8
      refine lv_iconst (v := (0 : Int32)) hx hb dX11_canStand_15 (by decide) ?_
      exact r_Z hx hb hr hlocks X rfl hf dX11_canStand_16
    · have hf := ite_t hf c8
      refine lv_iconst (v := (1 : Int32)) hx hb dX11_canStand_11 (by decide) ?_
      refine lv_goto (tgt := 16) hx hb dX11_canStand_12 (by decide) ?_
      exact r_Z hx hb hr hlocks X rfl hf dX11_canStand_16
end
theorem dX11_countsAs_0 : decode bX11_countsAs 0 = .ok (.iload_n 1, 1) := by decide +kernel
theorem dX11_countsAs_1 : decode bX11_countsAs 1 = .ok (.iconst 1, 1) := by decide +kernel
theorem dX11_countsAs_2 : decode bX11_countsAs 2 = .ok (.if_icmp .ne 7, 3) := by decide +kernel
theorem dX11_countsAs_5 : decode bX11_countsAs 5 = .ok (.iload_n 0, 1) := by decide +kernel
theorem dX11_countsAs_6 : decode bX11_countsAs 6 = .ok (.goto 16, 3) := by decide +kernel
theorem dX11_countsAs_9 : decode bX11_countsAs 9 = .ok (.iload_n 1, 1) := by decide +kernel
theorem dX11_countsAs_10 : decode bX11_countsAs 10 = .ok (.iconst 2, 1) := by decide +kernel
theorem dX11_countsAs_11 : decode bX11_countsAs 11 = .ok (.if_icmp .ne 8, 3) := by decide +kernel
theorem dX11_countsAs_14 : decode bX11_countsAs 14 = .ok (.iload_n 0, 1) := by decide +kernel
theorem dX11_countsAs_15 : decode bX11_countsAs 15 = .ok (.ineg, 1) := by decide +kernel
theorem dX11_countsAs_16 : decode bX11_countsAs 16 = .ok (.goto 6, 3) := by decide +kernel
theorem dX11_countsAs_19 : decode bX11_countsAs 19 = .ok (.iload_n 0, 1) := by decide +kernel
theorem dX11_countsAs_20 : decode bX11_countsAs 20 = .ok (.iconst 2, 1) := by decide +kernel
theorem dX11_countsAs_21 : decode bX11_countsAs 21 = .ok (.idiv, 1) := by decide +kernel
theorem dX11_countsAs_22 : decode bX11_countsAs 22 = .ok (.ireturn, 1) := by decide +kernel
section
variable {p : Program} {l : Launch} {e : Env} {s : State} {m : MethodId} {args : Array Value} {below : List Frame} {meth : Method} {c : Code} {G : GG} {n : Nat} {h' : Hp} {rv : Int32}
set_option maxHeartbeats 4000000
set_option maxRecDepth 100000
theorem k_X11_countsAs (l : Launch) (G : GG) (n : Nat) (hN : NX ≤ n) {h h' : Hp} {x0 : Int32} {x1 : Int32} {rv : Int32} (hf : f_X11_countsAs h x0 x1 = some (rv, h')) : CT l G n n yX11_countsAs (.code yX11_countsAs bX11_countsAs 2 (some .int)) 0 0 0 [.int x0, .int x1] h h' (some (.int rv)) := by
  refine ct_of (maxL := 2) (ret := (some .int)) (bytes := bX11_countsAs) (by decide) (Nat.le_of_ble_eq_true rfl) (fun p e s m below meth c C0 X ls hl => ?_)
  have hl : lv_has ls 2 [(0, .int x0), (1, .int x1)] := hl
  obtain ⟨hx, hb, hr, hml, hown, hts, hK, hlocks, hnm⟩ := id C0
  unfold f_X11_countsAs at hf
  refine lv_iload_n hx hb dX11_countsAs_0 rfl (lv_at hl 1 rfl) ?_
  refine lv_iconst (v := (1 : Int32)) hx hb dX11_countsAs_1 (by decide) ?_
  refine lv_icmp_ne (tgt := 9) hx hb dX11_countsAs_2 (by decide) (fun c2 => ?_) (fun c2 => ?_)
  · have hf := ite_f hf c2
    refine lv_iload_n hx hb dX11_countsAs_9 rfl (lv_at hl 1 rfl) ?_
    refine lv_iconst (v := (2 : Int32)) hx hb dX11_countsAs_10 (by decide) ?_
    refine lv_icmp_ne (tgt := 19) hx hb dX11_countsAs_11 (by decide) (fun c11 => ?_) (fun c11 => ?_)
    · have hf := ite_f hf c11
      refine lv_iload_n hx hb dX11_countsAs_19 rfl (lv_at hl 0 rfl) ?_
      refine lv_iconst (v := (2 : Int32)) hx hb dX11_countsAs_20 (by decide) ?_
      refine lv_idiv hx hb dX11_countsAs_21 (by decide) ?_
      exact r_I hx hb hr hlocks X hf dX11_countsAs_22
    · have hf := ite_t hf c11
      refine lv_iload_n hx hb dX11_countsAs_14 rfl (lv_at hl 0 rfl) ?_
      refine lv_ineg hx hb dX11_countsAs_15 ?_
      refine lv_goto (tgt := 22) hx hb dX11_countsAs_16 (by decide) ?_
      exact r_I hx hb hr hlocks X hf dX11_countsAs_22
  · have hf := ite_t hf c2
    refine lv_iload_n hx hb dX11_countsAs_5 rfl (lv_at hl 0 rfl) ?_
    refine lv_goto (tgt := 22) hx hb dX11_countsAs_6 (by decide) ?_
    exact r_I hx hb hr hlocks X hf dX11_countsAs_22
end
theorem dX9_join_0 : decode bX9_join 0 = .ok (.aload_n 0, 1) := by decide +kernel
theorem dX9_join_1 : decode bX9_join 1 = .ok (.getfield 18, 3) := by decide +kernel
theorem dX9_join_4 : decode bX9_join 4 = .ok (.iload_n 1, 1) := by decide +kernel
theorem dX9_join_5 : decode bX9_join 5 = .ok (.iadd, 1) := by decide +kernel
theorem dX9_join_6 : decode bX9_join 6 = .ok (.sipush 300, 3) := by decide +kernel
theorem dX9_join_9 : decode bX9_join 9 = .ok (.invokestatic 39, 3) := by decide +kernel
theorem dX9_join_12 : decode bX9_join 12 = .ok (.istore_n 3, 1) := by decide +kernel
theorem dX9_join_13 : decode bX9_join 13 = .ok (.iload_n 3, 1) := by decide +kernel
theorem dX9_join_14 : decode bX9_join 14 = .ok (.ineg, 1) := by decide +kernel
theorem dX9_join_15 : decode bX9_join 15 = .ok (.istore 4, 2) := by decide +kernel
theorem dX9_join_17 : decode bX9_join 17 = .ok (.iload 4, 2) := by decide +kernel
theorem dX9_join_19 : decode bX9_join 19 = .ok (.iload_n 3, 1) := by decide +kernel
theorem dX9_join_20 : decode bX9_join 20 = .ok (.if_icmp .gt 21, 3) := by decide +kernel
theorem dX9_join_23 : decode bX9_join 23 = .ok (.aload_n 0, 1) := by decide +kernel
theorem dX9_join_24 : decode bX9_join 24 = .ok (.getfield 15, 3) := by decide +kernel
theorem dX9_join_27 : decode bX9_join 27 = .ok (.sipush 300, 3) := by decide +kernel
theorem dX9_join_30 : decode bX9_join 30 = .ok (.iload 4, 2) := by decide +kernel
theorem dX9_join_32 : decode bX9_join 32 = .ok (.iadd, 1) := by decide +kernel
theorem dX9_join_33 : decode bX9_join 33 = .ok (.iconst 0, 1) := by decide +kernel
theorem dX9_join_34 : decode bX9_join 34 = .ok (.iastore, 1) := by decide +kernel
theorem dX9_join_35 : decode bX9_join 35 = .ok (.iinc 4 1, 3) := by decide +kernel
theorem dX9_join_38 : decode bX9_join 38 = .ok (.goto (-21), 3) := by decide +kernel
theorem dX9_join_41 : decode bX9_join 41 = .ok (.iconst 1, 1) := by decide +kernel
theorem dX9_join_42 : decode bX9_join 42 = .ok (.istore 4, 2) := by decide +kernel
theorem dX9_join_44 : decode bX9_join 44 = .ok (.iload 4, 2) := by decide +kernel
theorem dX9_join_46 : decode bX9_join 46 = .ok (.iload_n 2, 1) := by decide +kernel
theorem dX9_join_47 : decode bX9_join 47 = .ok (.if_icmp .gt 76, 3) := by decide +kernel
theorem dX9_join_50 : decode bX9_join 50 = .ok (.iload_n 1, 1) := by decide +kernel
theorem dX9_join_51 : decode bX9_join 51 = .ok (.iload 4, 2) := by decide +kernel
theorem dX9_join_53 : decode bX9_join 53 = .ok (.invokestatic 45, 3) := by decide +kernel
theorem dX9_join_56 : decode bX9_join 56 = .ok (.istore 5, 2) := by decide +kernel
theorem dX9_join_58 : decode bX9_join 58 = .ok (.aload_n 0, 1) := by decide +kernel
theorem dX9_join_59 : decode bX9_join 59 = .ok (.getfield 18, 3) := by decide +kernel
theorem dX9_join_62 : decode bX9_join 62 = .ok (.ineg, 1) := by decide +kernel
theorem dX9_join_63 : decode bX9_join 63 = .ok (.istore 6, 2) := by decide +kernel
theorem dX9_join_65 : decode bX9_join 65 = .ok (.iload 6, 2) := by decide +kernel
theorem dX9_join_67 : decode bX9_join 67 = .ok (.aload_n 0, 1) := by decide +kernel
theorem dX9_join_68 : decode bX9_join 68 = .ok (.getfield 18, 3) := by decide +kernel
theorem dX9_join_71 : decode bX9_join 71 = .ok (.if_icmp .gt 46, 3) := by decide +kernel
theorem dX9_join_74 : decode bX9_join 74 = .ok (.iload_n 1, 1) := by decide +kernel
theorem dX9_join_75 : decode bX9_join 75 = .ok (.iload 4, 2) := by decide +kernel
theorem dX9_join_77 : decode bX9_join 77 = .ok (.invokestatic 48, 3) := by decide +kernel
theorem dX9_join_80 : decode bX9_join 80 = .ok (.ifCond .eq 37, 3) := by decide +kernel
theorem dX9_join_83 : decode bX9_join 83 = .ok (.aload_n 0, 1) := by decide +kernel
theorem dX9_join_84 : decode bX9_join 84 = .ok (.getfield 15, 3) := by decide +kernel
theorem dX9_join_87 : decode bX9_join 87 = .ok (.sipush 300, 3) := by decide +kernel
theorem dX9_join_90 : decode bX9_join 90 = .ok (.iload 6, 2) := by decide +kernel
theorem dX9_join_92 : decode bX9_join 92 = .ok (.iadd, 1) := by decide +kernel
theorem dX9_join_93 : decode bX9_join 93 = .ok (.iload 5, 2) := by decide +kernel
theorem dX9_join_95 : decode bX9_join 95 = .ok (.iadd, 1) := by decide +kernel
theorem dX9_join_96 : decode bX9_join 96 = .ok (.dup2, 1) := by decide +kernel
theorem dX9_join_97 : decode bX9_join 97 = .ok (.iaload, 1) := by decide +kernel
theorem dX9_join_98 : decode bX9_join 98 = .ok (.aload_n 0, 1) := by decide +kernel
theorem dX9_join_99 : decode bX9_join 99 = .ok (.getfield 9, 3) := by decide +kernel
theorem dX9_join_102 : decode bX9_join 102 = .ok (.sipush 300, 3) := by decide +kernel
theorem dX9_join_105 : decode bX9_join 105 = .ok (.iload 6, 2) := by decide +kernel
theorem dX9_join_107 : decode bX9_join 107 = .ok (.iadd, 1) := by decide +kernel
theorem dX9_join_108 : decode bX9_join 108 = .ok (.iaload, 1) := by decide +kernel
theorem dX9_join_109 : decode bX9_join 109 = .ok (.iadd, 1) := by decide +kernel
theorem dX9_join_110 : decode bX9_join 110 = .ok (.iastore, 1) := by decide +kernel
theorem dX9_join_111 : decode bX9_join 111 = .ok (.iinc 6 1, 3) := by decide +kernel
theorem dX9_join_114 : decode bX9_join 114 = .ok (.goto (-49), 3) := by decide +kernel
theorem dX9_join_117 : decode bX9_join 117 = .ok (.iinc 4 1, 3) := by decide +kernel
theorem dX9_join_120 : decode bX9_join 120 = .ok (.goto (-76), 3) := by decide +kernel
theorem dX9_join_123 : decode bX9_join 123 = .ok (.aload_n 0, 1) := by decide +kernel
theorem dX9_join_124 : decode bX9_join 124 = .ok (.getfield 9, 3) := by decide +kernel
theorem dX9_join_127 : decode bX9_join 127 = .ok (.astore 4, 2) := by decide +kernel
theorem dX9_join_129 : decode bX9_join 129 = .ok (.aload_n 0, 1) := by decide +kernel
theorem dX9_join_130 : decode bX9_join 130 = .ok (.aload_n 0, 1) := by decide +kernel
theorem dX9_join_131 : decode bX9_join 131 = .ok (.getfield 15, 3) := by decide +kernel
theorem dX9_join_134 : decode bX9_join 134 = .ok (.putfield 9, 3) := by decide +kernel
theorem dX9_join_137 : decode bX9_join 137 = .ok (.aload_n 0, 1) := by decide +kernel
theorem dX9_join_138 : decode bX9_join 138 = .ok (.aload 4, 2) := by decide +kernel
theorem dX9_join_140 : decode bX9_join 140 = .ok (.putfield 15, 3) := by decide +kernel
theorem dX9_join_143 : decode bX9_join 143 = .ok (.aload_n 0, 1) := by decide +kernel
theorem dX9_join_144 : decode bX9_join 144 = .ok (.iload_n 3, 1) := by decide +kernel
theorem dX9_join_145 : decode bX9_join 145 = .ok (.putfield 18, 3) := by decide +kernel
theorem dX9_join_148 : decode bX9_join 148 = .ok (.return_, 1) := by decide +kernel
section
variable {p : Program} {l : Launch} {e : Env} {s : State} {m : MethodId} {args : Array Value} {below : List Frame} {meth : Method} {c : Code} {G : GG} {n : Nat} {h' : Hp} {rv : Unit}
set_option maxHeartbeats 4000000
set_option maxRecDepth 100000
theorem j_X9_join_65 (C0 : Cx p s m args meth c G bX9_join RX9 7 none "join") (hN : NX ≤ n) {k44 : Hp → Nat → Int32 → Int32 → Int32 → Int32 → Option (Unit × Hp)} (ih44 : ∀ {H : Heap} {locs : List Loc} {ls : Array Slot} {h : Hp} {x0 : Nat} {x1 : Int32} {x2 : Int32} {x3 : Int32} {x4 : Int32}, XW G n h s 0 H locs → lv_has ls 7 [(0, .ref (bs G + x0)), (1, .int x1), (2, .int x2), (3, .int x3), (4, .int x4)] → kd x0 = 9 → k44 h x0 x1 x2 x3 x4 = some (rv, h') → W p l e (rmC 1 0 0) s m args below meth c H locs 0 0 (MQ below (QP G n h' none) args s 0 0 (Ab G)) (F0 m 44 ls [])) : ∀ (fu : Nat), ∀ {H : Heap} {locs : List Loc} {ls : Array Slot} {h : Hp} {x0 : Nat} {x1 : Int32} {x2 : Int32} {x3 : Int32} {x4 : Int32} {x5 : Int32} {x6 : Int32}, XW G n h s 0 H locs → lv_has ls 7 [(0, .ref (bs G + x0)), (1, .int x1), (2, .int x2), (3, .int x3), (4, .int x4), (5, .int x5), (6, .int x6)] → kd x0 = 9 → f_X9_join_65 k44 fu h x0 x1 x2 x3 x4 x5 x6 = some (rv, h') → W p l e (rmC 1 0 0) s m args below meth c H locs 0 0 (MQ below (QP G n h' none) args s 0 0 (Ab G)) (F0 m 65 ls []) := by
  obtain ⟨hx, hb, hr, hml, hown, hts, hK, hlocks, hnm⟩ := id C0
  intro fu
  induction fu with
  | zero => intro H locs ls h x0 x1 x2 x3 x4 x5 x6 X hl o0 hf; cases hf
  | succ fu ih =>
    intro H locs ls h x0 x1 x2 x3 x4 x5 x6 X hl o0 hf
    rw [f_X9_join_65] at hf
    refine lv_iload hx hb dX9_join_65 (lv_at hl 6 rfl) ?_
    refine lv_aload_n hx hb dX9_join_67 rfl (lv_at hl 0 rfl) ?_
    refine g_I hx hb hts hown hK X o0 hN fl_X9_18 (by decide) rfl dX9_join_68 ?_
    refine lv_icmp_gt (tgt := 117) hx hb dX9_join_71 (by decide) (fun c71 => ?_) (fun c71 => ?_)
    · have hf := ite_t hf c71
      refine lv_iinc (v := (x4 + (1 : Int32))) (lv' := [(4, .int (x4 + (1 : Int32))), (0, .ref (bs G + x0)), (1, .int x1), (2, .int x2), (3, .int x3), (5, .int x5), (6, .int x6)]) hx hb dX9_join_117 hl (k := 4) rfl rfl (by decide) rfl (fun ls hl => ?_)
      refine lv_goto (tgt := 44) hx hb dX9_join_120 (by decide) ?_
      exact ih44 X (lv_sub hl [1, 2, 3, 4, 0] rfl) o0 hf
    · have hf := ite_f hf c71
      refine lv_iload_n hx hb dX9_join_74 rfl (lv_at hl 1 rfl) ?_
      refine lv_iload hx hb dX9_join_75 (lv_at hl 4 rfl) ?_
      obtain ⟨r1, h2, q3, hf⟩ := bd_e hf
      refine c_SN0 (As := [.int x1, .int x4]) (rest := []) (st1 := [.int r1]) hx hb hml hown hts hK X (k_X11_canStand l G n hN q3) lc_X11_canStand ls_X9_48 (by decide) rfl hl.1 (Nat.le_of_ble_eq_true rfl) dX9_join_77 rfl (fun H locs X => ?_)
      refine lv_if_eq (tgt := 117) hx hb dX9_join_80 (by decide) (fun c80 => ?_) (fun c80 => ?_)
      · have hf := ite_t hf c80
        refine lv_iinc (v := (x4 + (1 : Int32))) (lv' := [(4, .int (x4 + (1 : Int32))), (0, .ref (bs G + x0)), (1, .int x1), (2, .int x2), (3, .int x3), (5, .int x5), (6, .int x6)]) hx hb dX9_join_117 hl (k := 4) rfl rfl (by decide) rfl (fun ls hl => ?_)
        refine lv_goto (tgt := 44) hx hb dX9_join_120 (by decide) ?_
        exact ih44 X (lv_sub hl [1, 2, 3, 4, 0] rfl) o0 hf
      · have hf := ite_f hf c80
        refine lv_aload_n hx hb dX9_join_83 rfl (lv_at hl 0 rfl) ?_
        obtain ⟨g4, hf⟩ := gd_e hf
        refine g_R hx hb hts hown hK X o0 hN g4 fl_X9_15 (by decide) rfl (by decide) dX9_join_84 ?_
        refine lv_sipush (v := (300 : Int32)) hx hb dX9_join_87 (by decide) ?_
        refine lv_iload hx hb dX9_join_90 (lv_at hl 6 rfl) ?_
        refine lv_iadd hx hb dX9_join_92 ?_
        refine lv_iload hx hb dX9_join_93 (lv_at hl 5 rfl) ?_
        refine lv_iadd hx hb dX9_join_95 ?_
        refine lv_dup2_11 hx hb dX9_join_96 rfl rfl ?_
        obtain ⟨g5, hf⟩ := gd_e hf
        refine g_ia hx hb hK X g4 hN g5 (by decide) dX9_join_97 ?_
        refine lv_aload_n hx hb dX9_join_98 rfl (lv_at hl 0 rfl) ?_
        obtain ⟨g6, hf⟩ := gd_e hf
        refine g_R hx hb hts hown hK X o0 hN g6 fl_X9_9 (by decide) rfl (by decide) dX9_join_99 ?_
        refine lv_sipush (v := (300 : Int32)) hx hb dX9_join_102 (by decide) ?_
        refine lv_iload hx hb dX9_join_105 (lv_at hl 6 rfl) ?_
        refine lv_iadd hx hb dX9_join_107 ?_
        obtain ⟨g7, hf⟩ := gd_e hf
        refine g_ia hx hb hK X g6 hN g7 (by decide) dX9_join_108 ?_
        refine lv_iadd hx hb dX9_join_109 ?_
        obtain ⟨g8, hf⟩ := gd_e hf
        refine g_is hx hb hK X g4 hN g8 (by decide) dX9_join_110 (fun H locs X => ?_)
        obtain ⟨h9, e10, hf⟩ := lt_e hf
        rw [← e10] at X
        refine lv_iinc (v := (x6 + (1 : Int32))) (lv' := [(6, .int (x6 + (1 : Int32))), (0, .ref (bs G + x0)), (1, .int x1), (2, .int x2), (3, .int x3), (4, .int x4), (5, .int x5)]) hx hb dX9_join_111 hl (k := 6) rfl rfl (by decide) rfl (fun ls hl => ?_)
        refine lv_goto (tgt := 65) hx hb dX9_join_114 (by decide) ?_
        exact ih X (lv_sub hl [1, 2, 3, 4, 5, 6, 0] rfl) o0 hf
theorem j_X9_join_44 (C0 : Cx p s m args meth c G bX9_join RX9 7 none "join") (hN : NX ≤ n) : ∀ (fu : Nat), ∀ {H : Heap} {locs : List Loc} {ls : Array Slot} {h : Hp} {x0 : Nat} {x1 : Int32} {x2 : Int32} {x3 : Int32} {x4 : Int32}, XW G n h s 0 H locs → lv_has ls 7 [(0, .ref (bs G + x0)), (1, .int x1), (2, .int x2), (3, .int x3), (4, .int x4)] → kd x0 = 9 → f_X9_join_44 fu h x0 x1 x2 x3 x4 = some (rv, h') → W p l e (rmC 1 0 0) s m args below meth c H locs 0 0 (MQ below (QP G n h' none) args s 0 0 (Ab G)) (F0 m 44 ls []) := by
  obtain ⟨hx, hb, hr, hml, hown, hts, hK, hlocks, hnm⟩ := id C0
  intro fu
  induction fu with
  | zero => intro H locs ls h x0 x1 x2 x3 x4 X hl o0 hf; cases hf
  | succ fu ih =>
    intro H locs ls h x0 x1 x2 x3 x4 X hl o0 hf
    rw [f_X9_join_44] at hf
    refine lv_iload hx hb dX9_join_44 (lv_at hl 4 rfl) ?_
    refine lv_iload_n hx hb dX9_join_46 rfl (lv_at hl 2 rfl) ?_
    refine lv_icmp_gt (tgt := 123) hx hb dX9_join_47 (by decide) (fun c47 => ?_) (fun c47 => ?_)
    · have hf := ite_t hf c47
      refine lv_aload_n hx hb dX9_join_123 rfl (lv_at hl 0 rfl) ?_
      obtain ⟨g1, hf⟩ := gd_e hf
      refine g_R hx hb hts hown hK X o0 hN g1 fl_X9_9 (by decide) rfl (by decide) dX9_join_124 ?_
      refine lv_astore (lv' := [(4, .ref (bs G + (h.2 x0 0))), (0, .ref (bs G + x0)), (1, .int x1), (2, .int x2), (3, .int x3)]) hx hb dX9_join_127 hl (by decide) rfl (fun ls hl => ?_)
      refine lv_aload_n hx hb dX9_join_129 rfl (lv_at hl 1 rfl) ?_
      refine lv_aload_n hx hb dX9_join_130 rfl (lv_at hl 1 rfl) ?_
      obtain ⟨g2, hf⟩ := gd_e hf
      refine g_R hx hb hts hown hK X o0 hN g2 fl_X9_15 (by decide) rfl (by decide) dX9_join_131 ?_
      refine g_PR hx hb hts hown hK X o0 hN g2 fl_X9_9 ft_9_0 (by decide) rfl (by decide) (fun _ => rfl) (fun _ => rfl) dX9_join_134 (fun H locs X => ?_)
      obtain ⟨h3, e4, hf⟩ := lt_e hf
      rw [← e4] at X
      refine lv_aload_n hx hb dX9_join_137 rfl (lv_at hl 1 rfl) ?_
      refine lv_aload hx hb dX9_join_138 (lv_at hl 0 rfl) ?_
      refine g_PR hx hb hts hown hK X o0 hN g1 fl_X9_15 ft_9_1 (by decide) rfl (by decide) (fun _ => rfl) (fun _ => rfl) dX9_join_140 (fun H locs X => ?_)
      obtain ⟨h5, e6, hf⟩ := lt_e hf
      rw [← e6] at X
      refine lv_aload_n hx hb dX9_join_143 rfl (lv_at hl 1 rfl) ?_
      refine lv_iload_n hx hb dX9_join_144 rfl (lv_at hl 4 rfl) ?_
      refine g_PI hx hb hts hown hK X o0 hN fl_X9_18 ft_9_2 (by decide) rfl dX9_join_145 (fun H locs X => ?_)
      obtain ⟨h7, e8, hf⟩ := lt_e hf
      rw [← e8] at X
      exact r_V hx hb hr hlocks X hf dX9_join_148
    · have hf := ite_f hf c47
      refine lv_iload_n hx hb dX9_join_50 rfl (lv_at hl 1 rfl) ?_
      refine lv_iload hx hb dX9_join_51 (lv_at hl 4 rfl) ?_
      obtain ⟨r9, h10, q11, hf⟩ := bd_e hf
      refine c_SN0 (As := [.int x1, .int x4]) (rest := []) (st1 := [.int r9]) hx hb hml hown hts hK X (k_X11_countsAs l G n hN q11) lc_X11_countsAs ls_X9_45 (by decide) rfl hl.1 (Nat.le_of_ble_eq_true rfl) dX9_join_53 rfl (fun H locs X => ?_)
      refine lv_istore (lv' := [(5, .int r9), (0, .ref (bs G + x0)), (1, .int x1), (2, .int x2), (3, .int x3), (4, .int x4)]) hx hb dX9_join_56 hl (by decide) rfl (fun ls hl => ?_)
      refine lv_aload_n hx hb dX9_join_58 rfl (lv_at hl 1 rfl) ?_
      refine g_I hx hb hts hown hK X o0 hN fl_X9_18 (by decide) rfl dX9_join_59 ?_
      refine lv_ineg hx hb dX9_join_62 ?_
      refine lv_istore (lv' := [(6, .int (-(h10.1 x0 2))), (5, .int r9), (0, .ref (bs G + x0)), (1, .int x1), (2, .int x2), (3, .int x3), (4, .int x4)]) hx hb dX9_join_63 hl (by decide) rfl (fun ls hl => ?_)
      exact j_X9_join_65 C0 hN @ih FU X (lv_sub hl [2, 3, 4, 5, 6, 1, 0] rfl) o0 hf
theorem j_X9_join_17 (C0 : Cx p s m args meth c G bX9_join RX9 7 none "join") (hN : NX ≤ n) : ∀ (fu : Nat), ∀ {H : Heap} {locs : List Loc} {ls : Array Slot} {h : Hp} {x0 : Nat} {x1 : Int32} {x2 : Int32} {x3 : Int32} {x4 : Int32}, XW G n h s 0 H locs → lv_has ls 7 [(0, .ref (bs G + x0)), (1, .int x1), (2, .int x2), (3, .int x3), (4, .int x4)] → kd x0 = 9 → f_X9_join_17 fu h x0 x1 x2 x3 x4 = some (rv, h') → W p l e (rmC 1 0 0) s m args below meth c H locs 0 0 (MQ below (QP G n h' none) args s 0 0 (Ab G)) (F0 m 17 ls []) := by
  obtain ⟨hx, hb, hr, hml, hown, hts, hK, hlocks, hnm⟩ := id C0
  intro fu
  induction fu with
  | zero => intro H locs ls h x0 x1 x2 x3 x4 X hl o0 hf; cases hf
  | succ fu ih =>
    intro H locs ls h x0 x1 x2 x3 x4 X hl o0 hf
    rw [f_X9_join_17] at hf
    refine lv_iload hx hb dX9_join_17 (lv_at hl 4 rfl) ?_
    refine lv_iload_n hx hb dX9_join_19 rfl (lv_at hl 3 rfl) ?_
    refine lv_icmp_gt (tgt := 41) hx hb dX9_join_20 (by decide) (fun c20 => ?_) (fun c20 => ?_)
    · have hf := ite_t hf c20
      refine lv_iconst (v := (1 : Int32)) hx hb dX9_join_41 (by decide) ?_
      refine lv_istore (lv' := [(4, .int (1 : Int32)), (0, .ref (bs G + x0)), (1, .int x1), (2, .int x2), (3, .int x3)]) hx hb dX9_join_42 hl (by decide) rfl (fun ls hl => ?_)
      exact j_X9_join_44 C0 hN FU X (lv_sub hl [1, 2, 3, 4, 0] rfl) o0 hf
    · have hf := ite_f hf c20
      refine lv_aload_n hx hb dX9_join_23 rfl (lv_at hl 0 rfl) ?_
      obtain ⟨g1, hf⟩ := gd_e hf
      refine g_R hx hb hts hown hK X o0 hN g1 fl_X9_15 (by decide) rfl (by decide) dX9_join_24 ?_
      refine lv_sipush (v := (300 : Int32)) hx hb dX9_join_27 (by decide) ?_
      refine lv_iload hx hb dX9_join_30 (lv_at hl 4 rfl) ?_
      refine lv_iadd hx hb dX9_join_32 ?_
      refine lv_iconst (v := (0 : Int32)) hx hb dX9_join_33 (by decide) ?_
      obtain ⟨g2, hf⟩ := gd_e hf
      refine g_is hx hb hK X g1 hN g2 (by decide) dX9_join_34 (fun H locs X => ?_)
      obtain ⟨h3, e4, hf⟩ := lt_e hf
      rw [← e4] at X
      refine lv_iinc (v := (x4 + (1 : Int32))) (lv' := [(4, .int (x4 + (1 : Int32))), (0, .ref (bs G + x0)), (1, .int x1), (2, .int x2), (3, .int x3)]) hx hb dX9_join_35 hl (k := 4) rfl rfl (by decide) rfl (fun ls hl => ?_)
      refine lv_goto (tgt := 17) hx hb dX9_join_38 (by decide) ?_
      exact ih X (lv_sub hl [1, 2, 3, 4, 0] rfl) o0 hf
theorem k_X9_join (l : Launch) (G : GG) (n : Nat) (hN : NX ≤ n) {h h' : Hp} {x0 : Nat} {x1 : Int32} {x2 : Int32} {rv : Unit} (hf : f_X9_join h x0 x1 x2 = some (rv, h')) : CT l G n n yX9_join (.code yX9_join bX9_join 7 none) 1 0 0 [.ref (bs G + x0), .int x1, .int x2] h h' none := by
  refine ct_of (maxL := 7) (ret := none) (bytes := bX9_join) (by decide) (Nat.le_of_ble_eq_true rfl) (fun p e s m below meth c C0 X ls hl => ?_)
  have hl : lv_has ls 7 [(0, .ref (bs G + x0)), (1, .int x1), (2, .int x2)] := hl
  obtain ⟨hx, hb, hr, hml, hown, hts, hK, hlocks, hnm⟩ := id C0
  unfold f_X9_join at hf
  obtain ⟨o0, hf⟩ := gd_e hf
  refine lv_aload_n hx hb dX9_join_0 rfl (lv_at hl 0 rfl) ?_
  refine g_I hx hb hts hown hK X o0 hN fl_X9_18 (by decide) rfl dX9_join_1 ?_
  refine lv_iload_n hx hb dX9_join_4 rfl (lv_at hl 1 rfl) ?_
  refine lv_iadd hx hb dX9_join_5 ?_
  refine lv_sipush (v := (300 : Int32)) hx hb dX9_join_6 (by decide) ?_
  refine g_mmin hx hb (hml.trans hl.1.symm) hown hts lm_X9_39 (by decide) (Nat.le_of_ble_eq_true rfl) dX9_join_9 ?_
  refine lv_istore_n (lv' := [(3, .int (if (300 : Int32) < ((h.1 x0 2) + x1) then (300 : Int32) else ((h.1 x0 2) + x1))), (0, .ref (bs G + x0)), (1, .int x1), (2, .int x2)]) hx hb dX9_join_12 rfl hl (by decide) rfl (fun ls hl => ?_)
  refine lv_iload_n hx hb dX9_join_13 rfl (lv_at hl 0 rfl) ?_
  refine lv_ineg hx hb dX9_join_14 ?_
  refine lv_istore (lv' := [(4, .int (-(if (300 : Int32) < ((h.1 x0 2) + x1) then (300 : Int32) else ((h.1 x0 2) + x1)))), (3, .int (if (300 : Int32) < ((h.1 x0 2) + x1) then (300 : Int32) else ((h.1 x0 2) + x1))), (0, .ref (bs G + x0)), (1, .int x1), (2, .int x2)]) hx hb dX9_join_15 hl (by decide) rfl (fun ls hl => ?_)
  exact j_X9_join_17 C0 hN FU X (lv_sub hl [2, 3, 4, 1, 0] rfl) o0 hf
end
theorem dX9_reckon_0 : decode bX9_reckon 0 = .ok (.aload_n 0, 1) := by decide +kernel
theorem dX9_reckon_1 : decode bX9_reckon 1 = .ok (.iconst 0, 1) := by decide +kernel
theorem dX9_reckon_2 : decode bX9_reckon 2 = .ok (.putfield 18, 3) := by decide +kernel
theorem dX9_reckon_5 : decode bX9_reckon 5 = .ok (.aload_n 0, 1) := by decide +kernel
theorem dX9_reckon_6 : decode bX9_reckon 6 = .ok (.getfield 9, 3) := by decide +kernel
theorem dX9_reckon_9 : decode bX9_reckon 9 = .ok (.sipush 300, 3) := by decide +kernel
theorem dX9_reckon_12 : decode bX9_reckon 12 = .ok (.iload_n 2, 1) := by decide +kernel
theorem dX9_reckon_13 : decode bX9_reckon 13 = .ok (.ifCond .ne 15, 3) := by decide +kernel
theorem dX9_reckon_16 : decode bX9_reckon 16 = .ok (.iload_n 1, 1) := by decide +kernel
theorem dX9_reckon_17 : decode bX9_reckon 17 = .ok (.invokestatic 22, 3) := by decide +kernel
theorem dX9_reckon_20 : decode bX9_reckon 20 = .ok (.iconst 1, 1) := by decide +kernel
theorem dX9_reckon_21 : decode bX9_reckon 21 = .ok (.if_icmp .eq 7, 3) := by decide +kernel
theorem dX9_reckon_24 : decode bX9_reckon 24 = .ok (.iconst 0, 1) := by decide +kernel
theorem dX9_reckon_25 : decode bX9_reckon 25 = .ok (.goto 4, 3) := by decide +kernel
theorem dX9_reckon_28 : decode bX9_reckon 28 = .ok (.iconst 1, 1) := by decide +kernel
theorem dX9_reckon_29 : decode bX9_reckon 29 = .ok (.iastore, 1) := by decide +kernel
theorem dX9_reckon_30 : decode bX9_reckon 30 = .ok (.iconst 1, 1) := by decide +kernel
theorem dX9_reckon_31 : decode bX9_reckon 31 = .ok (.istore_n 3, 1) := by decide +kernel
theorem dX9_reckon_32 : decode bX9_reckon 32 = .ok (.iload_n 3, 1) := by decide +kernel
theorem dX9_reckon_33 : decode bX9_reckon 33 = .ok (.bipush 24, 2) := by decide +kernel
theorem dX9_reckon_35 : decode bX9_reckon 35 = .ok (.if_icmp .gt 28, 3) := by decide +kernel
theorem dX9_reckon_38 : decode bX9_reckon 38 = .ok (.iload_n 1, 1) := by decide +kernel
theorem dX9_reckon_39 : decode bX9_reckon 39 = .ok (.iload_n 3, 1) := by decide +kernel
theorem dX9_reckon_40 : decode bX9_reckon 40 = .ok (.iconst 1, 1) := by decide +kernel
theorem dX9_reckon_41 : decode bX9_reckon 41 = .ok (.isub, 1) := by decide +kernel
theorem dX9_reckon_42 : decode bX9_reckon 42 = .ok (.invokestatic 28, 3) := by decide +kernel
theorem dX9_reckon_45 : decode bX9_reckon 45 = .ok (.ifCond .eq 12, 3) := by decide +kernel
theorem dX9_reckon_48 : decode bX9_reckon 48 = .ok (.aload_n 0, 1) := by decide +kernel
theorem dX9_reckon_49 : decode bX9_reckon 49 = .ok (.iload_n 3, 1) := by decide +kernel
theorem dX9_reckon_50 : decode bX9_reckon 50 = .ok (.iload_n 2, 1) := by decide +kernel
theorem dX9_reckon_51 : decode bX9_reckon 51 = .ok (.invokestatic 32, 3) := by decide +kernel
theorem dX9_reckon_54 : decode bX9_reckon 54 = .ok (.invokevirtual 35, 3) := by decide +kernel
theorem dX9_reckon_57 : decode bX9_reckon 57 = .ok (.iinc 3 1, 3) := by decide +kernel
theorem dX9_reckon_60 : decode bX9_reckon 60 = .ok (.goto (-28), 3) := by decide +kernel
theorem dX9_reckon_63 : decode bX9_reckon 63 = .ok (.return_, 1) := by decide +kernel
section
variable {p : Program} {l : Launch} {e : Env} {s : State} {m : MethodId} {args : Array Value} {below : List Frame} {meth : Method} {c : Code} {G : GG} {n : Nat} {h' : Hp} {rv : Unit}
set_option maxHeartbeats 4000000
set_option maxRecDepth 100000
theorem j_X9_reckon_32 (C0 : Cx p s m args meth c G bX9_reckon RX9 4 none "reckon") (hN : NX ≤ n) : ∀ (fu : Nat), ∀ {H : Heap} {locs : List Loc} {ls : Array Slot} {h : Hp} {x0 : Nat} {x1 : Int32} {x2 : Int32} {x3 : Int32}, XW G n h s 0 H locs → lv_has ls 4 [(0, .ref (bs G + x0)), (1, .int x1), (2, .int x2), (3, .int x3)] → kd x0 = 9 → f_X9_reckon_32 fu h x0 x1 x2 x3 = some (rv, h') → W p l e (rmC 2 0 0) s m args below meth c H locs 0 0 (MQ below (QP G n h' none) args s 0 0 (Ab G)) (F0 m 32 ls []) := by
  obtain ⟨hx, hb, hr, hml, hown, hts, hK, hlocks, hnm⟩ := id C0
  intro fu
  induction fu with
  | zero => intro H locs ls h x0 x1 x2 x3 X hl o0 hf; cases hf
  | succ fu ih =>
    intro H locs ls h x0 x1 x2 x3 X hl o0 hf
    rw [f_X9_reckon_32] at hf
    refine lv_iload_n hx hb dX9_reckon_32 rfl (lv_at hl 3 rfl) ?_
    refine lv_bipush (v := (24 : Int32)) hx hb dX9_reckon_33 (by decide) ?_
    refine lv_icmp_gt (tgt := 63) hx hb dX9_reckon_35 (by decide) (fun c35 => ?_) (fun c35 => ?_)
    · have hf := ite_t hf c35
      exact r_V hx hb hr hlocks X hf dX9_reckon_63
    · have hf := ite_f hf c35
      refine lv_iload_n hx hb dX9_reckon_38 rfl (lv_at hl 1 rfl) ?_
      refine lv_iload_n hx hb dX9_reckon_39 rfl (lv_at hl 3 rfl) ?_
      refine lv_iconst (v := (1 : Int32)) hx hb dX9_reckon_40 (by decide) ?_
      refine lv_isub hx hb dX9_reckon_41 ?_
      obtain ⟨r1, h2, q3, hf⟩ := bd_e hf
      refine c_SN0 (As := [.int x1, .int (x3 - (1 : Int32))]) (rest := []) (st1 := [.int r1]) hx hb hml hown hts hK X (k_X11_hasBit l G n hN q3) lc_X11_hasBit ls_X9_28 (by decide) rfl hl.1 (Nat.le_of_ble_eq_true rfl) dX9_reckon_42 rfl (fun H locs X => ?_)
      refine lv_if_eq (tgt := 57) hx hb dX9_reckon_45 (by decide) (fun c45 => ?_) (fun c45 => ?_)
      · have hf := ite_t hf c45
        refine lv_iinc (v := (x3 + (1 : Int32))) (lv' := [(3, .int (x3 + (1 : Int32))), (0, .ref (bs G + x0)), (1, .int x1), (2, .int x2)]) hx hb dX9_reckon_57 hl (k := 3) rfl rfl (by decide) rfl (fun ls hl => ?_)
        refine lv_goto (tgt := 32) hx hb dX9_reckon_60 (by decide) ?_
        exact ih X (lv_sub hl [1, 2, 3, 0] rfl) o0 hf
      · have hf := ite_f hf c45
        refine lv_aload_n hx hb dX9_reckon_48 rfl (lv_at hl 0 rfl) ?_
        refine lv_iload_n hx hb dX9_reckon_49 rfl (lv_at hl 3 rfl) ?_
        refine lv_iload_n hx hb dX9_reckon_50 rfl (lv_at hl 2 rfl) ?_
        obtain ⟨r4, h5, q6, hf⟩ := bd_e hf
        refine c_SN0 (As := [.int x2]) (rest := [.int x3, .ref (bs G + x0)]) (st1 := [.int r4, .int x3, .ref (bs G + x0)]) hx hb hml hown hts hK X (k_X11_lastUse l G n hN q6) lc_X11_lastUse ls_X9_32 (by decide) rfl hl.1 (Nat.le_of_ble_eq_true rfl) dX9_reckon_51 rfl (fun H locs X => ?_)
        obtain ⟨r7, h8, q9, hf⟩ := bd_e hf
        refine c_V0 (As := [.int x3, .int r4]) (rest := []) (st1 := []) hx hb hml hown hts hK X (k_X9_join l G n hN q9) o0 hN lc_X9_join lv_X9_35 (ci := 9) rfl rfl (by decide) rfl hl.1 (Nat.le_of_ble_eq_true rfl) dX9_reckon_54 rfl (fun H locs X => ?_)
        refine lv_iinc (v := (x3 + (1 : Int32))) (lv' := [(3, .int (x3 + (1 : Int32))), (0, .ref (bs G + x0)), (1, .int x1), (2, .int x2)]) hx hb dX9_reckon_57 hl (k := 3) rfl rfl (by decide) rfl (fun ls hl => ?_)
        refine lv_goto (tgt := 32) hx hb dX9_reckon_60 (by decide) ?_
        exact ih X (lv_sub hl [1, 2, 3, 0] rfl) o0 hf
theorem j_X9_reckon_29 (C0 : Cx p s m args meth c G bX9_reckon RX9 4 none "reckon") (hN : NX ≤ n) {H : Heap} {locs : List Loc} {ls : Array Slot} {h : Hp} {x0 : Nat} {x1 : Int32} {x2 : Int32} {t0 : Nat} {t1 : Int32} {t2 : Int32} (X : XW G n h s 0 H locs) (hl : lv_has ls 4 [(0, .ref (bs G + x0)), (1, .int x1), (2, .int x2)]) (o0 : kd x0 = 9) (ot0 : kd t0 = 13) (hf : f_X9_reckon_29 h x0 x1 x2 t0 t1 t2 = some (rv, h')) : W p l e (rmC 2 0 0) s m args below meth c H locs 0 0 (MQ below (QP G n h' none) args s 0 0 (Ab G)) (F0 m 29 ls [.int t2, .int t1, .ref (bs G + t0)]) := by
  obtain ⟨hx, hb, hr, hml, hown, hts, hK, hlocks, hnm⟩ := id C0
  unfold f_X9_reckon_29 at hf
  obtain ⟨g1, hf⟩ := gd_e hf
  refine g_is hx hb hK X ot0 hN g1 (by decide) dX9_reckon_29 (fun H locs X => ?_)
  obtain ⟨h2, e3, hf⟩ := lt_e hf
  rw [← e3] at X
  refine lv_iconst (v := (1 : Int32)) hx hb dX9_reckon_30 (by decide) ?_
  refine lv_istore_n (lv' := [(3, .int (1 : Int32)), (0, .ref (bs G + x0)), (1, .int x1), (2, .int x2)]) hx hb dX9_reckon_31 rfl hl (by decide) rfl (fun ls hl => ?_)
  exact j_X9_reckon_32 C0 hN FU X (lv_sub hl [1, 2, 3, 0] rfl) o0 hf
theorem j_X9_reckon_28 (C0 : Cx p s m args meth c G bX9_reckon RX9 4 none "reckon") (hN : NX ≤ n) {H : Heap} {locs : List Loc} {ls : Array Slot} {h : Hp} {x0 : Nat} {x1 : Int32} {x2 : Int32} {t0 : Nat} {t1 : Int32} (X : XW G n h s 0 H locs) (hl : lv_has ls 4 [(0, .ref (bs G + x0)), (1, .int x1), (2, .int x2)]) (o0 : kd x0 = 9) (ot0 : kd t0 = 13) (hf : f_X9_reckon_28 h x0 x1 x2 t0 t1 = some (rv, h')) : W p l e (rmC 2 0 0) s m args below meth c H locs 0 0 (MQ below (QP G n h' none) args s 0 0 (Ab G)) (F0 m 28 ls [.int t1, .ref (bs G + t0)]) := by
  obtain ⟨hx, hb, hr, hml, hown, hts, hK, hlocks, hnm⟩ := id C0
  unfold f_X9_reckon_28 at hf
  refine lv_iconst (v := (1 : Int32)) hx hb dX9_reckon_28 (by decide) ?_
  exact j_X9_reckon_29 C0 hN X (lv_sub hl [0, 1, 2] rfl) o0 ot0 hf
theorem k_X9_reckon (l : Launch) (G : GG) (n : Nat) (hN : NX ≤ n) {h h' : Hp} {x0 : Nat} {x1 : Int32} {x2 : Int32} {rv : Unit} (hf : f_X9_reckon h x0 x1 x2 = some (rv, h')) : CT l G n n yX9_reckon (.code yX9_reckon bX9_reckon 4 none) 2 0 0 [.ref (bs G + x0), .int x1, .int x2] h h' none := by
  refine ct_of (maxL := 4) (ret := none) (bytes := bX9_reckon) (by decide) (Nat.le_of_ble_eq_true rfl) (fun p e s m below meth c C0 X ls hl => ?_)
  have hl : lv_has ls 4 [(0, .ref (bs G + x0)), (1, .int x1), (2, .int x2)] := hl
  obtain ⟨hx, hb, hr, hml, hown, hts, hK, hlocks, hnm⟩ := id C0
  unfold f_X9_reckon at hf
  obtain ⟨o0, hf⟩ := gd_e hf
  refine lv_aload_n hx hb dX9_reckon_0 rfl (lv_at hl 0 rfl) ?_
  refine lv_iconst (v := (0 : Int32)) hx hb dX9_reckon_1 (by decide) ?_
  refine g_PI hx hb hts hown hK X o0 hN fl_X9_18 ft_9_2 (by decide) rfl dX9_reckon_2 (fun H locs X => ?_)
  obtain ⟨h1, e2, hf⟩ := lt_e hf
  rw [← e2] at X
  refine lv_aload_n hx hb dX9_reckon_5 rfl (lv_at hl 0 rfl) ?_
  obtain ⟨g3, hf⟩ := gd_e hf
  refine g_R hx hb hts hown hK X o0 hN g3 fl_X9_9 (by decide) rfl (by decide) dX9_reckon_6 ?_
  refine lv_sipush (v := (300 : Int32)) hx hb dX9_reckon_9 (by decide) ?_
  refine lv_iload_n hx hb dX9_reckon_12 rfl (lv_at hl 2 rfl) ?_
  refine lv_if_ne (tgt := 28) hx hb dX9_reckon_13 (by decide) (fun c13 => ?_) (fun c13 => ?_)
  · have hf := ite_f hf c13
    exact j_X9_reckon_28 C0 hN X (lv_sub hl [0, 1, 2] rfl) o0 g3 hf
  · have hf := ite_t hf c13
    refine lv_iload_n hx hb dX9_reckon_16 rfl (lv_at hl 1 rfl) ?_
    obtain ⟨r4, h5, q6, hf⟩ := bd_e hf
    refine c_S0 (As := [.int x1]) (rest := [.int (300 : Int32), .ref (bs G + (h1.2 x0 0))]) (st1 := [.int r4, .int (300 : Int32), .ref (bs G + (h1.2 x0 0))]) hx hb hml hown hts hK X (k_J6_bitCount_0f7a4 l G n hN q6) lc_J6_bitCount_0f7a4 ls_X9_22 (by decide) rfl hl.1 (Nat.le_of_ble_eq_true rfl) dX9_reckon_17 rfl (fun H locs X => ?_)
    refine lv_iconst (v := (1 : Int32)) hx hb dX9_reckon_20 (by decide) ?_
    refine lv_icmp_eq (tgt := 28) hx hb dX9_reckon_21 (by decide) (fun c21 => ?_) (fun c21 => ?_)
    · have hf := ite_t hf c21
      exact j_X9_reckon_28 C0 hN X (lv_sub hl [0, 1, 2] rfl) o0 g3 hf
    · have hf := ite_f hf c21
      refine lv_iconst (v := (0 : Int32)) hx hb dX9_reckon_24 (by decide) ?_
      refine lv_goto (tgt := 29) hx hb dX9_reckon_25 (by decide) ?_
      exact j_X9_reckon_29 C0 hN X (lv_sub hl [0, 1, 2] rfl) o0 g3 hf
end
theorem dX0_read_0 : decode bX0_read 0 = .ok (.iconst 0, 1) := by decide +kernel
theorem dX0_read_1 : decode bX0_read 1 = .ok (.istore_n 3, 1) := by decide +kernel
theorem dX0_read_2 : decode bX0_read 2 = .ok (.iload_n 3, 1) := by decide +kernel
theorem dX0_read_3 : decode bX0_read 3 = .ok (.aload_n 0, 1) := by decide +kernel
theorem dX0_read_4 : decode bX0_read 4 = .ok (.getfield 24, 3) := by decide +kernel
theorem dX0_read_7 : decode bX0_read 7 = .ok (.if_icmp .ge 86, 3) := by decide +kernel
theorem dX0_read_10 : decode bX0_read 10 = .ok (.aload_n 2, 1) := by decide +kernel
theorem dX0_read_11 : decode bX0_read 11 = .ok (.aload_n 0, 1) := by decide +kernel
theorem dX0_read_12 : decode bX0_read 12 = .ok (.getfield 9, 3) := by decide +kernel
theorem dX0_read_15 : decode bX0_read 15 = .ok (.iload_n 3, 1) := by decide +kernel
theorem dX0_read_16 : decode bX0_read 16 = .ok (.iaload, 1) := by decide +kernel
theorem dX0_read_17 : decode bX0_read 17 = .ok (.aload_n 1, 1) := by decide +kernel
theorem dX0_read_18 : decode bX0_read 18 = .ok (.getfield 28, 3) := by decide +kernel
theorem dX0_read_21 : decode bX0_read 21 = .ok (.invokevirtual 33, 3) := by decide +kernel
theorem dX0_read_24 : decode bX0_read 24 = .ok (.aload_n 0, 1) := by decide +kernel
theorem dX0_read_25 : decode bX0_read 25 = .ok (.getfield 15, 3) := by decide +kernel
theorem dX0_read_28 : decode bX0_read 28 = .ok (.iload_n 3, 1) := by decide +kernel
theorem dX0_read_29 : decode bX0_read 29 = .ok (.iconst 0, 1) := by decide +kernel
theorem dX0_read_30 : decode bX0_read 30 = .ok (.iastore, 1) := by decide +kernel
theorem dX0_read_31 : decode bX0_read 31 = .ok (.aload_n 0, 1) := by decide +kernel
theorem dX0_read_32 : decode bX0_read 32 = .ok (.getfield 18, 3) := by decide +kernel
theorem dX0_read_35 : decode bX0_read 35 = .ok (.iload_n 3, 1) := by decide +kernel
theorem dX0_read_36 : decode bX0_read 36 = .ok (.iconst 0, 1) := by decide +kernel
theorem dX0_read_37 : decode bX0_read 37 = .ok (.iastore, 1) := by decide +kernel
theorem dX0_read_38 : decode bX0_read 38 = .ok (.iconst 0, 1) := by decide +kernel
theorem dX0_read_39 : decode bX0_read 39 = .ok (.istore 4, 2) := by decide +kernel
theorem dX0_read_41 : decode bX0_read 41 = .ok (.iload 4, 2) := by decide +kernel
theorem dX0_read_43 : decode bX0_read 43 = .ok (.aload_n 1, 1) := by decide +kernel
theorem dX0_read_44 : decode bX0_read 44 = .ok (.getfield 39, 3) := by decide +kernel
theorem dX0_read_47 : decode bX0_read 47 = .ok (.if_icmp .ge 40, 3) := by decide +kernel
theorem dX0_read_50 : decode bX0_read 50 = .ok (.aload_n 0, 1) := by decide +kernel
theorem dX0_read_51 : decode bX0_read 51 = .ok (.getfield 15, 3) := by decide +kernel
theorem dX0_read_54 : decode bX0_read 54 = .ok (.iload_n 3, 1) := by decide +kernel
theorem dX0_read_55 : decode bX0_read 55 = .ok (.dup2, 1) := by decide +kernel
theorem dX0_read_56 : decode bX0_read 56 = .ok (.iaload, 1) := by decide +kernel
theorem dX0_read_57 : decode bX0_read 57 = .ok (.aload_n 2, 1) := by decide +kernel
theorem dX0_read_58 : decode bX0_read 58 = .ok (.aload_n 1, 1) := by decide +kernel
theorem dX0_read_59 : decode bX0_read 59 = .ok (.getfield 42, 3) := by decide +kernel
theorem dX0_read_62 : decode bX0_read 62 = .ok (.iload 4, 2) := by decide +kernel
theorem dX0_read_64 : decode bX0_read 64 = .ok (.iaload, 1) := by decide +kernel
theorem dX0_read_65 : decode bX0_read 65 = .ok (.invokevirtual 45, 3) := by decide +kernel
theorem dX0_read_68 : decode bX0_read 68 = .ok (.ifCond .le 10, 3) := by decide +kernel
theorem dX0_read_71 : decode bX0_read 71 = .ok (.iconst 1, 1) := by decide +kernel
theorem dX0_read_72 : decode bX0_read 72 = .ok (.iload 4, 2) := by decide +kernel
theorem dX0_read_74 : decode bX0_read 74 = .ok (.ishl, 1) := by decide +kernel
theorem dX0_read_75 : decode bX0_read 75 = .ok (.goto 4, 3) := by decide +kernel
theorem dX0_read_78 : decode bX0_read 78 = .ok (.iconst 0, 1) := by decide +kernel
theorem dX0_read_79 : decode bX0_read 79 = .ok (.ior, 1) := by decide +kernel
theorem dX0_read_80 : decode bX0_read 80 = .ok (.iastore, 1) := by decide +kernel
theorem dX0_read_81 : decode bX0_read 81 = .ok (.iinc 4 1, 3) := by decide +kernel
theorem dX0_read_84 : decode bX0_read 84 = .ok (.goto (-43), 3) := by decide +kernel
theorem dX0_read_87 : decode bX0_read 87 = .ok (.iinc 3 1, 3) := by decide +kernel
theorem dX0_read_90 : decode bX0_read 90 = .ok (.goto (-88), 3) := by decide +kernel
theorem dX0_read_93 : decode bX0_read 93 = .ok (.aload_n 0, 1) := by decide +kernel
theorem dX0_read_94 : decode bX0_read 94 = .ok (.iconst 0, 1) := by decide +kernel
theorem dX0_read_95 : decode bX0_read 95 = .ok (.putfield 49, 3) := by decide +kernel
theorem dX0_read_98 : decode bX0_read 98 = .ok (.aload_n 0, 1) := by decide +kernel
theorem dX0_read_99 : decode bX0_read 99 = .ok (.iconst 0, 1) := by decide +kernel
theorem dX0_read_100 : decode bX0_read 100 = .ok (.iconst 0, 1) := by decide +kernel
theorem dX0_read_101 : decode bX0_read 101 = .ok (.invokevirtual 52, 3) := by decide +kernel
theorem dX0_read_104 : decode bX0_read 104 = .ok (.return_, 1) := by decide +kernel
section
variable {p : Program} {l : Launch} {e : Env} {s : State} {m : MethodId} {args : Array Value} {below : List Frame} {meth : Method} {c : Code} {G : GG} {n : Nat} {h' : Hp} {rv : Unit}
set_option maxHeartbeats 4000000
set_option maxRecDepth 100000
theorem j_X0_read_79 (C0 : Cx p s m args meth c G bX0_read RX0 5 none "read") (hN : NX ≤ n) {k2 : Hp → Nat → Nat → Nat → Int32 → Option (Unit × Hp)} {k41 : Hp → Nat → Nat → Nat → Int32 → Int32 → Option (Unit × Hp)} (ih2 : ∀ {H : Heap} {locs : List Loc} {ls : Array Slot} {h : Hp} {x0 : Nat} {x1 : Nat} {x2 : Nat} {x3 : Int32}, XW G n h s 0 H locs → lv_has ls 5 [(0, .ref (bs G + x0)), (1, .ref (bs G + x1)), (2, .ref (bs G + x2)), (3, .int x3)] → kd x0 = 0 → kd x1 = 4 → kd x2 = 9 → k2 h x0 x1 x2 x3 = some (rv, h') → W p l e (rmC 10 0 0) s m args below meth c H locs 0 0 (MQ below (QP G n h' none) args s 0 0 (Ab G)) (F0 m 2 ls [])) (ih41 : ∀ {H : Heap} {locs : List Loc} {ls : Array Slot} {h : Hp} {x0 : Nat} {x1 : Nat} {x2 : Nat} {x3 : Int32} {x4 : Int32}, XW G n h s 0 H locs → lv_has ls 5 [(0, .ref (bs G + x0)), (1, .ref (bs G + x1)), (2, .ref (bs G + x2)), (3, .int x3), (4, .int x4)] → kd x0 = 0 → kd x1 = 4 → kd x2 = 9 → k41 h x0 x1 x2 x3 x4 = some (rv, h') → W p l e (rmC 10 0 0) s m args below meth c H locs 0 0 (MQ below (QP G n h' none) args s 0 0 (Ab G)) (F0 m 41 ls [])) {H : Heap} {locs : List Loc} {ls : Array Slot} {h : Hp} {x0 : Nat} {x1 : Nat} {x2 : Nat} {x3 : Int32} {x4 : Int32} {t0 : Nat} {t1 : Int32} {t2 : Int32} {t3 : Int32} (X : XW G n h s 0 H locs) (hl : lv_has ls 5 [(0, .ref (bs G + x0)), (1, .ref (bs G + x1)), (2, .ref (bs G + x2)), (3, .int x3), (4, .int x4)]) (o0 : kd x0 = 0) (o1 : kd x1 = 4) (o2 : kd x2 = 9) (ot0 : kd t0 = 13) (hf : f_X0_read_79 k2 k41 h x0 x1 x2 x3 x4 t0 t1 t2 t3 = some (rv, h')) : W p l e (rmC 10 0 0) s m args below meth c H locs 0 0 (MQ below (QP G n h' none) args s 0 0 (Ab G)) (F0 m 79 ls [.int t3, .int t2, .int t1, .ref (bs G + t0)]) := by
  obtain ⟨hx, hb, hr, hml, hown, hts, hK, hlocks, hnm⟩ := id C0
  unfold f_X0_read_79 at hf
  refine lv_ior hx hb dX0_read_79 ?_
  obtain ⟨g1, hf⟩ := gd_e hf
  refine g_is hx hb hK X ot0 hN g1 (by decide) dX0_read_80 (fun H locs X => ?_)
  obtain ⟨h2, e3, hf⟩ := lt_e hf
  rw [← e3] at X
  refine lv_iinc (v := (x4 + (1 : Int32))) (lv' := [(4, .int (x4 + (1 : Int32))), (0, .ref (bs G + x0)), (1, .ref (bs G + x1)), (2, .ref (bs G + x2)), (3, .int x3)]) hx hb dX0_read_81 hl (k := 4) rfl rfl (by decide) rfl (fun ls hl => ?_)
  refine lv_goto (tgt := 41) hx hb dX0_read_84 (by decide) ?_
  exact ih41 X (lv_sub hl [1, 2, 3, 4, 0] rfl) o0 o1 o2 hf
theorem j_X0_read_41 (C0 : Cx p s m args meth c G bX0_read RX0 5 none "read") (hN : NX ≤ n) {k2 : Hp → Nat → Nat → Nat → Int32 → Option (Unit × Hp)} (ih2 : ∀ {H : Heap} {locs : List Loc} {ls : Array Slot} {h : Hp} {x0 : Nat} {x1 : Nat} {x2 : Nat} {x3 : Int32}, XW G n h s 0 H locs → lv_has ls 5 [(0, .ref (bs G + x0)), (1, .ref (bs G + x1)), (2, .ref (bs G + x2)), (3, .int x3)] → kd x0 = 0 → kd x1 = 4 → kd x2 = 9 → k2 h x0 x1 x2 x3 = some (rv, h') → W p l e (rmC 10 0 0) s m args below meth c H locs 0 0 (MQ below (QP G n h' none) args s 0 0 (Ab G)) (F0 m 2 ls [])) : ∀ (fu : Nat), ∀ {H : Heap} {locs : List Loc} {ls : Array Slot} {h : Hp} {x0 : Nat} {x1 : Nat} {x2 : Nat} {x3 : Int32} {x4 : Int32}, XW G n h s 0 H locs → lv_has ls 5 [(0, .ref (bs G + x0)), (1, .ref (bs G + x1)), (2, .ref (bs G + x2)), (3, .int x3), (4, .int x4)] → kd x0 = 0 → kd x1 = 4 → kd x2 = 9 → f_X0_read_41 k2 fu h x0 x1 x2 x3 x4 = some (rv, h') → W p l e (rmC 10 0 0) s m args below meth c H locs 0 0 (MQ below (QP G n h' none) args s 0 0 (Ab G)) (F0 m 41 ls []) := by
  obtain ⟨hx, hb, hr, hml, hown, hts, hK, hlocks, hnm⟩ := id C0
  intro fu
  induction fu with
  | zero => intro H locs ls h x0 x1 x2 x3 x4 X hl o0 o1 o2 hf; cases hf
  | succ fu ih =>
    intro H locs ls h x0 x1 x2 x3 x4 X hl o0 o1 o2 hf
    rw [f_X0_read_41] at hf
    refine lv_iload hx hb dX0_read_41 (lv_at hl 4 rfl) ?_
    refine lv_aload_n hx hb dX0_read_43 rfl (lv_at hl 1 rfl) ?_
    refine g_I hx hb hts hown hK X o1 hN fl_X0_39 (by decide) rfl dX0_read_44 ?_
    refine lv_icmp_ge (tgt := 87) hx hb dX0_read_47 (by decide) (fun c47 => ?_) (fun c47 => ?_)
    · have hf := ite_t hf c47
      refine lv_iinc (v := (x3 + (1 : Int32))) (lv' := [(3, .int (x3 + (1 : Int32))), (0, .ref (bs G + x0)), (1, .ref (bs G + x1)), (2, .ref (bs G + x2)), (4, .int x4)]) hx hb dX0_read_87 hl (k := 3) rfl rfl (by decide) rfl (fun ls hl => ?_)
      refine lv_goto (tgt := 2) hx hb dX0_read_90 (by decide) ?_
      exact ih2 X (lv_sub hl [1, 2, 3, 0] rfl) o0 o1 o2 hf
    · have hf := ite_f hf c47
      refine lv_aload_n hx hb dX0_read_50 rfl (lv_at hl 0 rfl) ?_
      obtain ⟨g1, hf⟩ := gd_e hf
      refine g_R hx hb hts hown hK X o0 hN g1 fl_X0_15 (by decide) rfl (by decide) dX0_read_51 ?_
      refine lv_iload_n hx hb dX0_read_54 rfl (lv_at hl 3 rfl) ?_
      refine lv_dup2_11 hx hb dX0_read_55 rfl rfl ?_
      obtain ⟨g2, hf⟩ := gd_e hf
      refine g_ia hx hb hK X g1 hN g2 (by decide) dX0_read_56 ?_
      refine lv_aload_n hx hb dX0_read_57 rfl (lv_at hl 2 rfl) ?_
      refine lv_aload_n hx hb dX0_read_58 rfl (lv_at hl 1 rfl) ?_
      obtain ⟨g3, hf⟩ := gd_e hf
      refine g_R hx hb hts hown hK X o1 hN g3 fl_X0_42 (by decide) rfl (by decide) dX0_read_59 ?_
      refine lv_iload hx hb dX0_read_62 (lv_at hl 4 rfl) ?_
      obtain ⟨g4, hf⟩ := gd_e hf
      refine g_ia hx hb hK X g3 hN g4 (by decide) dX0_read_64 ?_
      obtain ⟨r5, h6, q7, hf⟩ := bd_e hf
      refine c_V0 (As := [.int (h.1 (h.2 x1 7) x4.toNatClampNeg)]) (rest := [.int (h.1 (h.2 x0 3) x3.toNatClampNeg), .int x3, .ref (bs G + (h.2 x0 3))]) (st1 := [.int r5, .int (h.1 (h.2 x0 3) x3.toNatClampNeg), .int x3, .ref (bs G + (h.2 x0 3))]) hx hb hml hown hts hK X (k_X9_comingTo l G n hN q7) o2 hN lc_X9_comingTo lv_X0_45 (ci := 9) rfl rfl (by decide) rfl hl.1 (Nat.le_of_ble_eq_true rfl) dX0_read_65 rfl (fun H locs X => ?_)
      refine lv_if_le (tgt := 78) hx hb dX0_read_68 (by decide) (fun c68 => ?_) (fun c68 => ?_)
      · have hf := ite_t hf c68
        refine lv_iconst (v := (0 : Int32)) hx hb dX0_read_78 (by decide) ?_
        exact j_X0_read_79 C0 hN @ih2 @ih X (lv_sub hl [0, 1, 2, 3, 4] rfl) o0 o1 o2 g1 hf
      · have hf := ite_f hf c68
        refine lv_iconst (v := (1 : Int32)) hx hb dX0_read_71 (by decide) ?_
        refine lv_iload hx hb dX0_read_72 (lv_at hl 4 rfl) ?_
        refine lv_ishl hx hb dX0_read_74 ?_
        refine lv_goto (tgt := 79) hx hb dX0_read_75 (by decide) ?_
        exact j_X0_read_79 C0 hN @ih2 @ih X (lv_sub hl [0, 1, 2, 3, 4] rfl) o0 o1 o2 g1 hf
theorem j_X0_read_2 (C0 : Cx p s m args meth c G bX0_read RX0 5 none "read") (hN : NX ≤ n) : ∀ (fu : Nat), ∀ {H : Heap} {locs : List Loc} {ls : Array Slot} {h : Hp} {x0 : Nat} {x1 : Nat} {x2 : Nat} {x3 : Int32}, XW G n h s 0 H locs → lv_has ls 5 [(0, .ref (bs G + x0)), (1, .ref (bs G + x1)), (2, .ref (bs G + x2)), (3, .int x3)] → kd x0 = 0 → kd x1 = 4 → kd x2 = 9 → f_X0_read_2 fu h x0 x1 x2 x3 = some (rv, h') → W p l e (rmC 10 0 0) s m args below meth c H locs 0 0 (MQ below (QP G n h' none) args s 0 0 (Ab G)) (F0 m 2 ls []) := by
  obtain ⟨hx, hb, hr, hml, hown, hts, hK, hlocks, hnm⟩ := id C0
  intro fu
  induction fu with
  | zero => intro H locs ls h x0 x1 x2 x3 X hl o0 o1 o2 hf; cases hf
  | succ fu ih =>
    intro H locs ls h x0 x1 x2 x3 X hl o0 o1 o2 hf
    rw [f_X0_read_2] at hf
    refine lv_iload_n hx hb dX0_read_2 rfl (lv_at hl 3 rfl) ?_
    refine lv_aload_n hx hb dX0_read_3 rfl (lv_at hl 0 rfl) ?_
    refine g_I hx hb hts hown hK X o0 hN fl_X0_24 (by decide) rfl dX0_read_4 ?_
    refine lv_icmp_ge (tgt := 93) hx hb dX0_read_7 (by decide) (fun c7 => ?_) (fun c7 => ?_)
    · have hf := ite_t hf c7
      refine lv_aload_n hx hb dX0_read_93 rfl (lv_at hl 0 rfl) ?_
      refine lv_iconst (v := (0 : Int32)) hx hb dX0_read_94 (by decide) ?_
      refine g_PI hx hb hts hown hK X o0 hN fl_X0_49 ft_0_1 (by decide) rfl dX0_read_95 (fun H locs X => ?_)
      obtain ⟨h1, e2, hf⟩ := lt_e hf
      rw [← e2] at X
      refine lv_aload_n hx hb dX0_read_98 rfl (lv_at hl 0 rfl) ?_
      refine lv_iconst (v := (0 : Int32)) hx hb dX0_read_99 (by decide) ?_
      refine lv_iconst (v := (0 : Int32)) hx hb dX0_read_100 (by decide) ?_
      obtain ⟨r3, h4, q5, hf⟩ := bd_e hf
      refine c_V0 (As := [.int (0 : Int32), .int (0 : Int32)]) (rest := []) (st1 := []) hx hb hml hown hts hK X (k_X0_readFrom l G n hN 8 q5) o0 hN lc_X0_readFrom lv_X0_52 (ci := 0) rfl rfl (by decide) rfl hl.1 (Nat.le_of_ble_eq_true rfl) dX0_read_101 rfl (fun H locs X => ?_)
      exact r_V hx hb hr hlocks X hf dX0_read_104
    · have hf := ite_f hf c7
      refine lv_aload_n hx hb dX0_read_10 rfl (lv_at hl 2 rfl) ?_
      refine lv_aload_n hx hb dX0_read_11 rfl (lv_at hl 0 rfl) ?_
      obtain ⟨g6, hf⟩ := gd_e hf
      refine g_R hx hb hts hown hK X o0 hN g6 fl_X0_9 (by decide) rfl (by decide) dX0_read_12 ?_
      refine lv_iload_n hx hb dX0_read_15 rfl (lv_at hl 3 rfl) ?_
      obtain ⟨g7, hf⟩ := gd_e hf
      refine g_ia hx hb hK X g6 hN g7 (by decide) dX0_read_16 ?_
      refine lv_aload_n hx hb dX0_read_17 rfl (lv_at hl 1 rfl) ?_
      refine g_I hx hb hts hown hK X o1 hN fl_X0_28 (by decide) rfl dX0_read_18 ?_
      obtain ⟨r8, h9, q10, hf⟩ := bd_e hf
      refine c_V0 (As := [.int (h.1 (h.2 x0 2) x3.toNatClampNeg), .int (h.1 x1 2)]) (rest := []) (st1 := []) hx hb hml hown hts hK X (k_X9_reckon l G n hN q10) o2 hN lc_X9_reckon lv_X0_33 (ci := 9) rfl rfl (by decide) rfl hl.1 (Nat.le_of_ble_eq_true rfl) dX0_read_21 rfl (fun H locs X => ?_)
      refine lv_aload_n hx hb dX0_read_24 rfl (lv_at hl 0 rfl) ?_
      obtain ⟨g11, hf⟩ := gd_e hf
      refine g_R hx hb hts hown hK X o0 hN g11 fl_X0_15 (by decide) rfl (by decide) dX0_read_25 ?_
      refine lv_iload_n hx hb dX0_read_28 rfl (lv_at hl 3 rfl) ?_
      refine lv_iconst (v := (0 : Int32)) hx hb dX0_read_29 (by decide) ?_
      obtain ⟨g12, hf⟩ := gd_e hf
      refine g_is hx hb hK X g11 hN g12 (by decide) dX0_read_30 (fun H locs X => ?_)
      obtain ⟨h13, e14, hf⟩ := lt_e hf
      rw [← e14] at X
      refine lv_aload_n hx hb dX0_read_31 rfl (lv_at hl 0 rfl) ?_
      obtain ⟨g15, hf⟩ := gd_e hf
      refine g_R hx hb hts hown hK X o0 hN g15 fl_X0_18 (by decide) rfl (by decide) dX0_read_32 ?_
      refine lv_iload_n hx hb dX0_read_35 rfl (lv_at hl 3 rfl) ?_
      refine lv_iconst (v := (0 : Int32)) hx hb dX0_read_36 (by decide) ?_
      obtain ⟨g16, hf⟩ := gd_e hf
      refine g_is hx hb hK X g15 hN g16 (by decide) dX0_read_37 (fun H locs X => ?_)
      obtain ⟨h17, e18, hf⟩ := lt_e hf
      rw [← e18] at X
      refine lv_iconst (v := (0 : Int32)) hx hb dX0_read_38 (by decide) ?_
      refine lv_istore (lv' := [(4, .int (0 : Int32)), (0, .ref (bs G + x0)), (1, .ref (bs G + x1)), (2, .ref (bs G + x2)), (3, .int x3)]) hx hb dX0_read_39 hl (by decide) rfl (fun ls hl => ?_)
      exact j_X0_read_41 C0 hN @ih FU X (lv_sub hl [1, 2, 3, 4, 0] rfl) o0 o1 o2 hf
theorem k_X0_read (l : Launch) (G : GG) (n : Nat) (hN : NX ≤ n) {h h' : Hp} {x0 : Nat} {x1 : Nat} {x2 : Nat} {rv : Unit} (hf : f_X0_read h x0 x1 x2 = some (rv, h')) : CT l G n n yX0_read (.code yX0_read bX0_read 5 none) 10 0 0 [.ref (bs G + x0), .ref (bs G + x1), .ref (bs G + x2)] h h' none := by
  refine ct_of (maxL := 5) (ret := none) (bytes := bX0_read) (by decide) (Nat.le_of_ble_eq_true rfl) (fun p e s m below meth c C0 X ls hl => ?_)
  have hl : lv_has ls 5 [(0, .ref (bs G + x0)), (1, .ref (bs G + x1)), (2, .ref (bs G + x2))] := hl
  obtain ⟨hx, hb, hr, hml, hown, hts, hK, hlocks, hnm⟩ := id C0
  unfold f_X0_read at hf
  obtain ⟨o0, hf⟩ := gd_e hf
  obtain ⟨o1, hf⟩ := gd_e hf
  obtain ⟨o2, hf⟩ := gd_e hf
  refine lv_iconst (v := (0 : Int32)) hx hb dX0_read_0 (by decide) ?_
  refine lv_istore_n (lv' := [(3, .int (0 : Int32)), (0, .ref (bs G + x0)), (1, .ref (bs G + x1)), (2, .ref (bs G + x2))]) hx hb dX0_read_1 rfl hl (by decide) rfl (fun ls hl => ?_)
  exact j_X0_read_2 C0 hN FU X (lv_sub hl [1, 2, 3, 0] rfl) o0 o1 o2 hf
end
theorem dX11_firstBit_0 : decode bX11_firstBit 0 = .ok (.iconst 0, 1) := by decide +kernel
theorem dX11_firstBit_1 : decode bX11_firstBit 1 = .ok (.istore_n 1, 1) := by decide +kernel
theorem dX11_firstBit_2 : decode bX11_firstBit 2 = .ok (.iload_n 1, 1) := by decide +kernel
theorem dX11_firstBit_3 : decode bX11_firstBit 3 = .ok (.bipush 24, 2) := by decide +kernel
theorem dX11_firstBit_5 : decode bX11_firstBit 5 = .ok (.if_icmp .ge 17, 3) := by decide +kernel
theorem dX11_firstBit_8 : decode bX11_firstBit 8 = .ok (.iload_n 0, 1) := by decide +kernel
theorem dX11_firstBit_9 : decode bX11_firstBit 9 = .ok (.iload_n 1, 1) := by decide +kernel
theorem dX11_firstBit_10 : decode bX11_firstBit 10 = .ok (.invokestatic 184, 3) := by decide +kernel
theorem dX11_firstBit_13 : decode bX11_firstBit 13 = .ok (.ifCond .ne 9, 3) := by decide +kernel
theorem dX11_firstBit_16 : decode bX11_firstBit 16 = .ok (.iinc 1 1, 3) := by decide +kernel
theorem dX11_firstBit_19 : decode bX11_firstBit 19 = .ok (.goto (-17), 3) := by decide +kernel
theorem dX11_firstBit_22 : decode bX11_firstBit 22 = .ok (.iload_n 1, 1) := by decide +kernel
theorem dX11_firstBit_23 : decode bX11_firstBit 23 = .ok (.ireturn, 1) := by decide +kernel
section
variable {p : Program} {l : Launch} {e : Env} {s : State} {m : MethodId} {args : Array Value} {below : List Frame} {meth : Method} {c : Code} {G : GG} {n : Nat} {h' : Hp} {rv : Int32}
set_option maxHeartbeats 4000000
set_option maxRecDepth 100000
theorem j_X11_firstBit_2 (C0 : Cx p s m args meth c G bX11_firstBit RX11 2 (some .int) "firstBit") (hN : NX ≤ n) : ∀ (fu : Nat), ∀ {H : Heap} {locs : List Loc} {ls : Array Slot} {h : Hp} {x0 : Int32} {x1 : Int32}, XW G n h s 0 H locs → lv_has ls 2 [(0, .int x0), (1, .int x1)] → f_X11_firstBit_2 fu h x0 x1 = some (rv, h') → W p l e (rmC 1 0 0) s m args below meth c H locs 0 0 (MQ below (QP G n h' (some (.int rv))) args s 0 0 (Ab G)) (F0 m 2 ls []) := by
  obtain ⟨hx, hb, hr, hml, hown, hts, hK, hlocks, hnm⟩ := id C0
  intro fu
  induction fu with
  | zero => intro H locs ls h x0 x1 X hl hf; cases hf
  | succ fu ih =>
    intro H locs ls h x0 x1 X hl hf
    rw [f_X11_firstBit_2] at hf
    refine lv_iload_n hx hb dX11_firstBit_2 rfl (lv_at hl 1 rfl) ?_
    refine lv_bipush (v := (24 : Int32)) hx hb dX11_firstBit_3 (by decide) ?_
    refine lv_icmp_ge (tgt := 22) hx hb dX11_firstBit_5 (by decide) (fun c5 => ?_) (fun c5 => ?_)
    · have hf := ite_t hf c5
      refine lv_iload_n hx hb dX11_firstBit_22 rfl (lv_at hl 1 rfl) ?_
      exact r_I hx hb hr hlocks X hf dX11_firstBit_23
    · have hf := ite_f hf c5
      refine lv_iload_n hx hb dX11_firstBit_8 rfl (lv_at hl 0 rfl) ?_
      refine lv_iload_n hx hb dX11_firstBit_9 rfl (lv_at hl 1 rfl) ?_
      obtain ⟨r1, h2, q3, hf⟩ := bd_e hf
      refine c_S0 (As := [.int x0, .int x1]) (rest := []) (st1 := [.int r1]) hx hb hml hown hts hK X (k_X11_hasBit l G n hN q3) lc_X11_hasBit ls_X11_184 (by decide) rfl hl.1 (Nat.le_of_ble_eq_true rfl) dX11_firstBit_10 rfl (fun H locs X => ?_)
      refine lv_if_ne (tgt := 22) hx hb dX11_firstBit_13 (by decide) (fun c13 => ?_) (fun c13 => ?_)
      · have hf := ite_f hf c13
        refine lv_iload_n hx hb dX11_firstBit_22 rfl (lv_at hl 1 rfl) ?_
        exact r_I hx hb hr hlocks X hf dX11_firstBit_23
      · have hf := ite_t hf c13
        refine lv_iinc (v := (x1 + (1 : Int32))) (lv' := [(1, .int (x1 + (1 : Int32))), (0, .int x0)]) hx hb dX11_firstBit_16 hl (k := 1) rfl rfl (by decide) rfl (fun ls hl => ?_)
        refine lv_goto (tgt := 2) hx hb dX11_firstBit_19 (by decide) ?_
        exact ih X (lv_sub hl [1, 0] rfl) hf
theorem k_X11_firstBit (l : Launch) (G : GG) (n : Nat) (hN : NX ≤ n) {h h' : Hp} {x0 : Int32} {rv : Int32} (hf : f_X11_firstBit h x0 = some (rv, h')) : CT l G n n yX11_firstBit (.code yX11_firstBit bX11_firstBit 2 (some .int)) 1 0 0 [.int x0] h h' (some (.int rv)) := by
  refine ct_of (maxL := 2) (ret := (some .int)) (bytes := bX11_firstBit) (by decide) (Nat.le_of_ble_eq_true rfl) (fun p e s m below meth c C0 X ls hl => ?_)
  have hl : lv_has ls 2 [(0, .int x0)] := hl
  obtain ⟨hx, hb, hr, hml, hown, hts, hK, hlocks, hnm⟩ := id C0
  unfold f_X11_firstBit at hf
  refine lv_iconst (v := (0 : Int32)) hx hb dX11_firstBit_0 (by decide) ?_
  refine lv_istore_n (lv' := [(1, .int (0 : Int32)), (0, .int x0)]) hx hb dX11_firstBit_1 rfl hl (by decide) rfl (fun ls hl => ?_)
  exact j_X11_firstBit_2 C0 hN FU X (lv_sub hl [1, 0] rfl) hf
end
theorem dX0_surePerson_0 : decode bX0_surePerson 0 = .ok (.iload_n 1, 1) := by decide +kernel
theorem dX0_surePerson_1 : decode bX0_surePerson 1 = .ok (.ifCond .lt 24, 3) := by decide +kernel
theorem dX0_surePerson_4 : decode bX0_surePerson 4 = .ok (.iload_n 1, 1) := by decide +kernel
theorem dX0_surePerson_5 : decode bX0_surePerson 5 = .ok (.aload_n 0, 1) := by decide +kernel
theorem dX0_surePerson_6 : decode bX0_surePerson 6 = .ok (.getfield 24, 3) := by decide +kernel
theorem dX0_surePerson_9 : decode bX0_surePerson 9 = .ok (.if_icmp .ge 16, 3) := by decide +kernel
theorem dX0_surePerson_12 : decode bX0_surePerson 12 = .ok (.aload_n 0, 1) := by decide +kernel
theorem dX0_surePerson_13 : decode bX0_surePerson 13 = .ok (.getfield 18, 3) := by decide +kernel
theorem dX0_surePerson_16 : decode bX0_surePerson 16 = .ok (.iload_n 1, 1) := by decide +kernel
theorem dX0_surePerson_17 : decode bX0_surePerson 17 = .ok (.iaload, 1) := by decide +kernel
theorem dX0_surePerson_18 : decode bX0_surePerson 18 = .ok (.invokestatic 55, 3) := by decide +kernel
theorem dX0_surePerson_21 : decode bX0_surePerson 21 = .ok (.iconst 1, 1) := by decide +kernel
theorem dX0_surePerson_22 : decode bX0_surePerson 22 = .ok (.if_icmp .eq 6, 3) := by decide +kernel
theorem dX0_surePerson_25 : decode bX0_surePerson 25 = .ok (.bipush (-4), 2) := by decide +kernel
theorem dX0_surePerson_27 : decode bX0_surePerson 27 = .ok (.ireturn, 1) := by decide +kernel
theorem dX0_surePerson_28 : decode bX0_surePerson 28 = .ok (.aload_n 0, 1) := by decide +kernel
theorem dX0_surePerson_29 : decode bX0_surePerson 29 = .ok (.getfield 18, 3) := by decide +kernel
theorem dX0_surePerson_32 : decode bX0_surePerson 32 = .ok (.iload_n 1, 1) := by decide +kernel
theorem dX0_surePerson_33 : decode bX0_surePerson 33 = .ok (.iaload, 1) := by decide +kernel
theorem dX0_surePerson_34 : decode bX0_surePerson 34 = .ok (.invokestatic 60, 3) := by decide +kernel
theorem dX0_surePerson_37 : decode bX0_surePerson 37 = .ok (.ireturn, 1) := by decide +kernel
section
variable {p : Program} {l : Launch} {e : Env} {s : State} {m : MethodId} {args : Array Value} {below : List Frame} {meth : Method} {c : Code} {G : GG} {n : Nat} {h' : Hp} {rv : Int32}
set_option maxHeartbeats 4000000
set_option maxRecDepth 100000
theorem k_X0_surePerson (l : Launch) (G : GG) (n : Nat) (hN : NX ≤ n) {h h' : Hp} {x0 : Nat} {x1 : Int32} {rv : Int32} (hf : f_X0_surePerson h x0 x1 = some (rv, h')) : CT l G n n yX0_surePerson (.code yX0_surePerson bX0_surePerson 2 (some .int)) 2 0 0 [.ref (bs G + x0), .int x1] h h' (some (.int rv)) := by
  refine ct_of (maxL := 2) (ret := (some .int)) (bytes := bX0_surePerson) (by decide) (Nat.le_of_ble_eq_true rfl) (fun p e s m below meth c C0 X ls hl => ?_)
  have hl : lv_has ls 2 [(0, .ref (bs G + x0)), (1, .int x1)] := hl
  obtain ⟨hx, hb, hr, hml, hown, hts, hK, hlocks, hnm⟩ := id C0
  unfold f_X0_surePerson at hf
  obtain ⟨o0, hf⟩ := gd_e hf
  refine lv_iload_n hx hb dX0_surePerson_0 rfl (lv_at hl 1 rfl) ?_
  refine lv_if_lt (tgt := 25) hx hb dX0_surePerson_1 (by decide) (fun c1 => ?_) (fun c1 => ?_)
  · have hf := ite_t hf c1
    refine lv_bipush (v := (-4 : Int32)) hx hb dX0_surePerson_25 (by decide) ?_
    exact r_I hx hb hr hlocks X hf dX0_surePerson_27
  · have hf := ite_f hf c1
    refine lv_iload_n hx hb dX0_surePerson_4 rfl (lv_at hl 1 rfl) ?_
    refine lv_aload_n hx hb dX0_surePerson_5 rfl (lv_at hl 0 rfl) ?_
    refine g_I hx hb hts hown hK X o0 hN fl_X0_24 (by decide) rfl dX0_surePerson_6 ?_
    refine lv_icmp_ge (tgt := 25) hx hb dX0_surePerson_9 (by decide) (fun c9 => ?_) (fun c9 => ?_)
    · have hf := ite_t hf c9
      refine lv_bipush (v := (-4 : Int32)) hx hb dX0_surePerson_25 (by decide) ?_
      exact r_I hx hb hr hlocks X hf dX0_surePerson_27
    · have hf := ite_f hf c9
      refine lv_aload_n hx hb dX0_surePerson_12 rfl (lv_at hl 0 rfl) ?_
      obtain ⟨g1, hf⟩ := gd_e hf
      refine g_R hx hb hts hown hK X o0 hN g1 fl_X0_18 (by decide) rfl (by decide) dX0_surePerson_13 ?_
      refine lv_iload_n hx hb dX0_surePerson_16 rfl (lv_at hl 1 rfl) ?_
      obtain ⟨g2, hf⟩ := gd_e hf
      refine g_ia hx hb hK X g1 hN g2 (by decide) dX0_surePerson_17 ?_
      obtain ⟨r3, h4, q5, hf⟩ := bd_e hf
      refine c_S0 (As := [.int (h.1 (h.2 x0 4) x1.toNatClampNeg)]) (rest := []) (st1 := [.int r3]) hx hb hml hown hts hK X (k_J6_bitCount_0f7a4 l G n hN q5) lc_J6_bitCount_0f7a4 ls_X0_55 (by decide) rfl hl.1 (Nat.le_of_ble_eq_true rfl) dX0_surePerson_18 rfl (fun H locs X => ?_)
      refine lv_iconst (v := (1 : Int32)) hx hb dX0_surePerson_21 (by decide) ?_
      refine lv_icmp_eq (tgt := 28) hx hb dX0_surePerson_22 (by decide) (fun c22 => ?_) (fun c22 => ?_)
      · have hf := ite_t hf c22
        refine lv_aload_n hx hb dX0_surePerson_28 rfl (lv_at hl 0 rfl) ?_
        obtain ⟨g6, hf⟩ := gd_e hf
        refine g_R hx hb hts hown hK X o0 hN g6 fl_X0_18 (by decide) rfl (by decide) dX0_surePerson_29 ?_
        refine lv_iload_n hx hb dX0_surePerson_32 rfl (lv_at hl 1 rfl) ?_
        obtain ⟨g7, hf⟩ := gd_e hf
        refine g_ia hx hb hK X g6 hN g7 (by decide) dX0_surePerson_33 ?_
        obtain ⟨r8, h9, q10, hf⟩ := bd_e hf
        refine c_SN0 (As := [.int (h4.1 (h4.2 x0 4) x1.toNatClampNeg)]) (rest := []) (st1 := [.int r8]) hx hb hml hown hts hK X (k_X11_firstBit l G n hN q10) lc_X11_firstBit ls_X0_60 (by decide) rfl hl.1 (Nat.le_of_ble_eq_true rfl) dX0_surePerson_34 rfl (fun H locs X => ?_)
        exact r_I hx hb hr hlocks X hf dX0_surePerson_37
      · have hf := ite_f hf c22
        refine lv_bipush (v := (-4 : Int32)) hx hb dX0_surePerson_25 (by decide) ?_
        exact r_I hx hb hr hlocks X hf dX0_surePerson_27
end
theorem dX5_oneOf_0 : decode bX5_oneOf 0 = .ok (.iload_n 0, 1) := by decide +kernel
theorem dX5_oneOf_1 : decode bX5_oneOf 1 = .ok (.bipush 24, 2) := by decide +kernel
theorem dX5_oneOf_3 : decode bX5_oneOf 3 = .ok (.if_icmp .le 7, 3) := by decide +kernel
theorem dX5_oneOf_6 : decode bX5_oneOf 6 = .ok (.iconst 0, 1) := by decide +kernel
theorem dX5_oneOf_7 : decode bX5_oneOf 7 = .ok (.goto 8, 3) := by decide +kernel
theorem dX5_oneOf_10 : decode bX5_oneOf 10 = .ok (.iconst 1, 1) := by decide +kernel
theorem dX5_oneOf_11 : decode bX5_oneOf 11 = .ok (.iload_n 0, 1) := by decide +kernel
theorem dX5_oneOf_12 : decode bX5_oneOf 12 = .ok (.iconst 1, 1) := by decide +kernel
theorem dX5_oneOf_13 : decode bX5_oneOf 13 = .ok (.isub, 1) := by decide +kernel
theorem dX5_oneOf_14 : decode bX5_oneOf 14 = .ok (.ishl, 1) := by decide +kernel
theorem dX5_oneOf_15 : decode bX5_oneOf 15 = .ok (.ireturn, 1) := by decide +kernel
section
variable {p : Program} {l : Launch} {e : Env} {s : State} {m : MethodId} {args : Array Value} {below : List Frame} {meth : Method} {c : Code} {G : GG} {n : Nat} {h' : Hp} {rv : Int32}
set_option maxHeartbeats 4000000
set_option maxRecDepth 100000
theorem k_X5_oneOf (l : Launch) (G : GG) (n : Nat) (hN : NX ≤ n) {h h' : Hp} {x0 : Int32} {rv : Int32} (hf : f_X5_oneOf h x0 = some (rv, h')) : CT l G n n yX5_oneOf (.code yX5_oneOf bX5_oneOf 1 (some .int)) 0 0 0 [.int x0] h h' (some (.int rv)) := by
  refine ct_of (maxL := 1) (ret := (some .int)) (bytes := bX5_oneOf) (by decide) (Nat.le_of_ble_eq_true rfl) (fun p e s m below meth c C0 X ls hl => ?_)
  have hl : lv_has ls 1 [(0, .int x0)] := hl
  obtain ⟨hx, hb, hr, hml, hown, hts, hK, hlocks, hnm⟩ := id C0
  unfold f_X5_oneOf at hf
  refine lv_iload_n hx hb dX5_oneOf_0 rfl (lv_at hl 0 rfl) ?_
  refine lv_bipush (v := (24 : Int32)) hx hb dX5_oneOf_1 (by decide) ?_
  refine lv_icmp_le (tgt := 10) hx hb dX5_oneOf_3 (by decide) (fun c3 => ?_) (fun c3 => ?_)
  · have hf := ite_t hf c3
    refine lv_iconst (v := (1 : Int32)) hx hb dX5_oneOf_10 (by decide) ?_
    refine lv_iload_n hx hb dX5_oneOf_11 rfl (lv_at hl 0 rfl) ?_
    refine lv_iconst (v := (1 : Int32)) hx hb dX5_oneOf_12 (by decide) ?_
    refine lv_isub hx hb dX5_oneOf_13 ?_
    refine lv_ishl hx hb dX5_oneOf_14 ?_
    exact r_I hx hb hr hlocks X hf dX5_oneOf_15
  · have hf := ite_f hf c3
    refine lv_iconst (v := (0 : Int32)) hx hb dX5_oneOf_6 (by decide) ?_
    refine lv_goto (tgt := 15) hx hb dX5_oneOf_7 (by decide) ?_
    exact r_I hx hb hr hlocks X hf dX5_oneOf_15
end
theorem dX5_used_0 : decode bX5_used 0 = .ok (.aload_n 0, 1) := by decide +kernel
theorem dX5_used_1 : decode bX5_used 1 = .ok (.getfield 25, 3) := by decide +kernel
theorem dX5_used_4 : decode bX5_used 4 = .ok (.iload_n 1, 1) := by decide +kernel
theorem dX5_used_5 : decode bX5_used 5 = .ok (.iaload, 1) := by decide +kernel
theorem dX5_used_6 : decode bX5_used 6 = .ok (.aload_n 0, 1) := by decide +kernel
theorem dX5_used_7 : decode bX5_used 7 = .ok (.getfield 28, 3) := by decide +kernel
theorem dX5_used_10 : decode bX5_used 10 = .ok (.iload_n 1, 1) := by decide +kernel
theorem dX5_used_11 : decode bX5_used 11 = .ok (.iaload, 1) := by decide +kernel
theorem dX5_used_12 : decode bX5_used 12 = .ok (.ior, 1) := by decide +kernel
theorem dX5_used_13 : decode bX5_used 13 = .ok (.aload_n 0, 1) := by decide +kernel
theorem dX5_used_14 : decode bX5_used 14 = .ok (.getfield 31, 3) := by decide +kernel
theorem dX5_used_17 : decode bX5_used 17 = .ok (.iload_n 1, 1) := by decide +kernel
theorem dX5_used_18 : decode bX5_used 18 = .ok (.iaload, 1) := by decide +kernel
theorem dX5_used_19 : decode bX5_used 19 = .ok (.ior, 1) := by decide +kernel
theorem dX5_used_20 : decode bX5_used 20 = .ok (.ireturn, 1) := by decide +kernel
section
variable {p : Program} {l : Launch} {e : Env} {s : State} {m : MethodId} {args : Array Value} {below : List Frame} {meth : Method} {c : Code} {G : GG} {n : Nat} {h' : Hp} {rv : Int32}
set_option maxHeartbeats 4000000
set_option maxRecDepth 100000
theorem k_X5_used (l : Launch) (G : GG) (n : Nat) (hN : NX ≤ n) {h h' : Hp} {x0 : Nat} {x1 : Int32} {rv : Int32} (hf : f_X5_used h x0 x1 = some (rv, h')) : CT l G n n yX5_used (.code yX5_used bX5_used 2 (some .int)) 0 0 0 [.ref (bs G + x0), .int x1] h h' (some (.int rv)) := by
  refine ct_of (maxL := 2) (ret := (some .int)) (bytes := bX5_used) (by decide) (Nat.le_of_ble_eq_true rfl) (fun p e s m below meth c C0 X ls hl => ?_)
  have hl : lv_has ls 2 [(0, .ref (bs G + x0)), (1, .int x1)] := hl
  obtain ⟨hx, hb, hr, hml, hown, hts, hK, hlocks, hnm⟩ := id C0
  unfold f_X5_used at hf
  obtain ⟨o0, hf⟩ := gd_e hf
  refine lv_aload_n hx hb dX5_used_0 rfl (lv_at hl 0 rfl) ?_
  obtain ⟨g1, hf⟩ := gd_e hf
  refine g_R hx hb hts hown hK X o0 hN g1 fl_X5_25 (by decide) rfl (by decide) dX5_used_1 ?_
  refine lv_iload_n hx hb dX5_used_4 rfl (lv_at hl 1 rfl) ?_
  obtain ⟨g2, hf⟩ := gd_e hf
  refine g_ia hx hb hK X g1 hN g2 (by decide) dX5_used_5 ?_
  refine lv_aload_n hx hb dX5_used_6 rfl (lv_at hl 0 rfl) ?_
  obtain ⟨g3, hf⟩ := gd_e hf
  refine g_R hx hb hts hown hK X o0 hN g3 fl_X5_28 (by decide) rfl (by decide) dX5_used_7 ?_
  refine lv_iload_n hx hb dX5_used_10 rfl (lv_at hl 1 rfl) ?_
  obtain ⟨g4, hf⟩ := gd_e hf
  refine g_ia hx hb hK X g3 hN g4 (by decide) dX5_used_11 ?_
  refine lv_ior hx hb dX5_used_12 ?_
  refine lv_aload_n hx hb dX5_used_13 rfl (lv_at hl 0 rfl) ?_
  obtain ⟨g5, hf⟩ := gd_e hf
  refine g_R hx hb hts hown hK X o0 hN g5 fl_X5_31 (by decide) rfl (by decide) dX5_used_14 ?_
  refine lv_iload_n hx hb dX5_used_17 rfl (lv_at hl 1 rfl) ?_
  obtain ⟨g6, hf⟩ := gd_e hf
  refine g_ia hx hb hK X g5 hN g6 (by decide) dX5_used_18 ?_
  refine lv_ior hx hb dX5_used_19 ?_
  exact r_I hx hb hr hlocks X hf dX5_used_20
end
theorem dX7_listNumbers_0 : decode bX7_listNumbers 0 = .ok (.aload_n 0, 1) := by decide +kernel
theorem dX7_listNumbers_1 : decode bX7_listNumbers 1 = .ok (.iconst 0, 1) := by decide +kernel
theorem dX7_listNumbers_2 : decode bX7_listNumbers 2 = .ok (.putfield 46, 3) := by decide +kernel
theorem dX7_listNumbers_5 : decode bX7_listNumbers 5 = .ok (.iconst 1, 1) := by decide +kernel
theorem dX7_listNumbers_6 : decode bX7_listNumbers 6 = .ok (.istore_n 1, 1) := by decide +kernel
theorem dX7_listNumbers_7 : decode bX7_listNumbers 7 = .ok (.iload_n 1, 1) := by decide +kernel
theorem dX7_listNumbers_8 : decode bX7_listNumbers 8 = .ok (.bipush 24, 2) := by decide +kernel
theorem dX7_listNumbers_10 : decode bX7_listNumbers 10 = .ok (.if_icmp .gt 42, 3) := by decide +kernel
theorem dX7_listNumbers_13 : decode bX7_listNumbers 13 = .ok (.aload_n 0, 1) := by decide +kernel
theorem dX7_listNumbers_14 : decode bX7_listNumbers 14 = .ok (.getfield 37, 3) := by decide +kernel
theorem dX7_listNumbers_17 : decode bX7_listNumbers 17 = .ok (.iload_n 1, 1) := by decide +kernel
theorem dX7_listNumbers_18 : decode bX7_listNumbers 18 = .ok (.iconst 1, 1) := by decide +kernel
theorem dX7_listNumbers_19 : decode bX7_listNumbers 19 = .ok (.isub, 1) := by decide +kernel
theorem dX7_listNumbers_20 : decode bX7_listNumbers 20 = .ok (.invokestatic 90, 3) := by decide +kernel
theorem dX7_listNumbers_23 : decode bX7_listNumbers 23 = .ok (.ifCond .eq 23, 3) := by decide +kernel
theorem dX7_listNumbers_26 : decode bX7_listNumbers 26 = .ok (.aload_n 0, 1) := by decide +kernel
theorem dX7_listNumbers_27 : decode bX7_listNumbers 27 = .ok (.getfield 21, 3) := by decide +kernel
theorem dX7_listNumbers_30 : decode bX7_listNumbers 30 = .ok (.aload_n 0, 1) := by decide +kernel
theorem dX7_listNumbers_31 : decode bX7_listNumbers 31 = .ok (.getfield 46, 3) := by decide +kernel
theorem dX7_listNumbers_34 : decode bX7_listNumbers 34 = .ok (.iload_n 1, 1) := by decide +kernel
theorem dX7_listNumbers_35 : decode bX7_listNumbers 35 = .ok (.iastore, 1) := by decide +kernel
theorem dX7_listNumbers_36 : decode bX7_listNumbers 36 = .ok (.aload_n 0, 1) := by decide +kernel
theorem dX7_listNumbers_37 : decode bX7_listNumbers 37 = .ok (.dup, 1) := by decide +kernel
theorem dX7_listNumbers_38 : decode bX7_listNumbers 38 = .ok (.getfield 46, 3) := by decide +kernel
theorem dX7_listNumbers_41 : decode bX7_listNumbers 41 = .ok (.iconst 1, 1) := by decide +kernel
theorem dX7_listNumbers_42 : decode bX7_listNumbers 42 = .ok (.iadd, 1) := by decide +kernel
theorem dX7_listNumbers_43 : decode bX7_listNumbers 43 = .ok (.putfield 46, 3) := by decide +kernel
theorem dX7_listNumbers_46 : decode bX7_listNumbers 46 = .ok (.iinc 1 1, 3) := by decide +kernel
theorem dX7_listNumbers_49 : decode bX7_listNumbers 49 = .ok (.goto (-42), 3) := by decide +kernel
theorem dX7_listNumbers_52 : decode bX7_listNumbers 52 = .ok (.return_, 1) := by decide +kernel
section
variable {p : Program} {l : Launch} {e : Env} {s : State} {m : MethodId} {args : Array Value} {below : List Frame} {meth : Method} {c : Code} {G : GG} {n : Nat} {h' : Hp} {rv : Unit}
set_option maxHeartbeats 4000000
set_option maxRecDepth 100000
theorem j_X7_listNumbers_7 (C0 : Cx p s m args meth c G bX7_listNumbers RX7 2 none "listNumbers") (hN : NX ≤ n) : ∀ (fu : Nat), ∀ {H : Heap} {locs : List Loc} {ls : Array Slot} {h : Hp} {x0 : Nat} {x1 : Int32}, XW G n h s 0 H locs → lv_has ls 2 [(0, .ref (bs G + x0)), (1, .int x1)] → kd x0 = 7 → f_X7_listNumbers_7 fu h x0 x1 = some (rv, h') → W p l e (rmC 1 0 0) s m args below meth c H locs 0 0 (MQ below (QP G n h' none) args s 0 0 (Ab G)) (F0 m 7 ls []) := by
  obtain ⟨hx, hb, hr, hml, hown, hts, hK, hlocks, hnm⟩ := id C0
  intro fu
  induction fu with
  | zero => intro H locs ls h x0 x1 X hl o0 hf; cases hf
  | succ fu ih =>
    intro H locs ls h x0 x1 X hl o0 hf
    rw [f_X7_listNumbers_7] at hf
    refine lv_iload_n hx hb dX7_listNumbers_7 rfl (lv_at hl 1 rfl) ?_
    refine lv_bipush (v := (24 : Int32)) hx hb dX7_listNumbers_8 (by decide) ?_
    refine lv_icmp_gt (tgt := 52) hx hb dX7_listNumbers_10 (by decide) (fun c10 => ?_) (fun c10 => ?_)
    · have hf := ite_t hf c10
      exact r_V hx hb hr hlocks X hf dX7_listNumbers_52
    · have hf := ite_f hf c10
      refine lv_aload_n hx hb dX7_listNumbers_13 rfl (lv_at hl 0 rfl) ?_
      refine g_I hx hb hts hown hK X o0 hN fl_X7_37 (by decide) rfl dX7_listNumbers_14 ?_
      refine lv_iload_n hx hb dX7_listNumbers_17 rfl (lv_at hl 1 rfl) ?_
      refine lv_iconst (v := (1 : Int32)) hx hb dX7_listNumbers_18 (by decide) ?_
      refine lv_isub hx hb dX7_listNumbers_19 ?_
      obtain ⟨r1, h2, q3, hf⟩ := bd_e hf
      refine c_SN0 (As := [.int (h.1 x0 10), .int (x1 - (1 : Int32))]) (rest := []) (st1 := [.int r1]) hx hb hml hown hts hK X (k_X11_hasBit l G n hN q3) lc_X11_hasBit ls_X7_90 (by decide) rfl hl.1 (Nat.le_of_ble_eq_true rfl) dX7_listNumbers_20 rfl (fun H locs X => ?_)
      refine lv_if_eq (tgt := 46) hx hb dX7_listNumbers_23 (by decide) (fun c23 => ?_) (fun c23 => ?_)
      · have hf := ite_t hf c23
        refine lv_iinc (v := (x1 + (1 : Int32))) (lv' := [(1, .int (x1 + (1 : Int32))), (0, .ref (bs G + x0))]) hx hb dX7_listNumbers_46 hl (k := 1) rfl rfl (by decide) rfl (fun ls hl => ?_)
        refine lv_goto (tgt := 7) hx hb dX7_listNumbers_49 (by decide) ?_
        exact ih X (lv_sub hl [1, 0] rfl) o0 hf
      · have hf := ite_f hf c23
        refine lv_aload_n hx hb dX7_listNumbers_26 rfl (lv_at hl 0 rfl) ?_
        obtain ⟨g4, hf⟩ := gd_e hf
        refine g_R hx hb hts hown hK X o0 hN g4 fl_X7_21 (by decide) rfl (by decide) dX7_listNumbers_27 ?_
        refine lv_aload_n hx hb dX7_listNumbers_30 rfl (lv_at hl 0 rfl) ?_
        refine g_I hx hb hts hown hK X o0 hN fl_X7_46 (by decide) rfl dX7_listNumbers_31 ?_
        refine lv_iload_n hx hb dX7_listNumbers_34 rfl (lv_at hl 1 rfl) ?_
        obtain ⟨g5, hf⟩ := gd_e hf
        refine g_is hx hb hK X g4 hN g5 (by decide) dX7_listNumbers_35 (fun H locs X => ?_)
        obtain ⟨h6, e7, hf⟩ := lt_e hf
        rw [← e7] at X
        refine lv_aload_n hx hb dX7_listNumbers_36 rfl (lv_at hl 0 rfl) ?_
        refine lv_dup hx hb dX7_listNumbers_37 rfl ?_
        refine g_I hx hb hts hown hK X o0 hN fl_X7_46 (by decide) rfl dX7_listNumbers_38 ?_
        refine lv_iconst (v := (1 : Int32)) hx hb dX7_listNumbers_41 (by decide) ?_
        refine lv_iadd hx hb dX7_listNumbers_42 ?_
        refine g_PI hx hb hts hown hK X o0 hN fl_X7_46 ft_7_9 (by decide) rfl dX7_listNumbers_43 (fun H locs X => ?_)
        obtain ⟨h8, e9, hf⟩ := lt_e hf
        rw [← e9] at X
        refine lv_iinc (v := (x1 + (1 : Int32))) (lv' := [(1, .int (x1 + (1 : Int32))), (0, .ref (bs G + x0))]) hx hb dX7_listNumbers_46 hl (k := 1) rfl rfl (by decide) rfl (fun ls hl => ?_)
        refine lv_goto (tgt := 7) hx hb dX7_listNumbers_49 (by decide) ?_
        exact ih X (lv_sub hl [1, 0] rfl) o0 hf
theorem k_X7_listNumbers (l : Launch) (G : GG) (n : Nat) (hN : NX ≤ n) {h h' : Hp} {x0 : Nat} {rv : Unit} (hf : f_X7_listNumbers h x0 = some (rv, h')) : CT l G n n yX7_listNumbers (.code yX7_listNumbers bX7_listNumbers 2 none) 1 0 0 [.ref (bs G + x0)] h h' none := by
  refine ct_of (maxL := 2) (ret := none) (bytes := bX7_listNumbers) (by decide) (Nat.le_of_ble_eq_true rfl) (fun p e s m below meth c C0 X ls hl => ?_)
  have hl : lv_has ls 2 [(0, .ref (bs G + x0))] := hl
  obtain ⟨hx, hb, hr, hml, hown, hts, hK, hlocks, hnm⟩ := id C0
  unfold f_X7_listNumbers at hf
  obtain ⟨o0, hf⟩ := gd_e hf
  refine lv_aload_n hx hb dX7_listNumbers_0 rfl (lv_at hl 0 rfl) ?_
  refine lv_iconst (v := (0 : Int32)) hx hb dX7_listNumbers_1 (by decide) ?_
  refine g_PI hx hb hts hown hK X o0 hN fl_X7_46 ft_7_9 (by decide) rfl dX7_listNumbers_2 (fun H locs X => ?_)
  obtain ⟨h1, e2, hf⟩ := lt_e hf
  rw [← e2] at X
  refine lv_iconst (v := (1 : Int32)) hx hb dX7_listNumbers_5 (by decide) ?_
  refine lv_istore_n (lv' := [(1, .int (1 : Int32)), (0, .ref (bs G + x0))]) hx hb dX7_listNumbers_6 rfl hl (by decide) rfl (fun ls hl => ?_)
  exact j_X7_listNumbers_7 C0 hN FU X (lv_sub hl [1, 0] rfl) o0 hf
end
theorem dX7_setBounds_0 : decode bX7_setBounds 0 = .ok (.aload_n 0, 1) := by decide +kernel
theorem dX7_setBounds_1 : decode bX7_setBounds 1 = .ok (.getfield 27, 3) := by decide +kernel
theorem dX7_setBounds_4 : decode bX7_setBounds 4 = .ok (.iconst 2, 1) := by decide +kernel
theorem dX7_setBounds_5 : decode bX7_setBounds 5 = .ok (.if_icmp .lt 7, 3) := by decide +kernel
theorem dX7_setBounds_8 : decode bX7_setBounds 8 = .ok (.iconst 1, 1) := by decide +kernel
theorem dX7_setBounds_9 : decode bX7_setBounds 9 = .ok (.goto 4, 3) := by decide +kernel
theorem dX7_setBounds_12 : decode bX7_setBounds 12 = .ok (.iconst 0, 1) := by decide +kernel
theorem dX7_setBounds_13 : decode bX7_setBounds 13 = .ok (.istore_n 1, 1) := by decide +kernel
theorem dX7_setBounds_14 : decode bX7_setBounds 14 = .ok (.iconst 0, 1) := by decide +kernel
theorem dX7_setBounds_15 : decode bX7_setBounds 15 = .ok (.istore_n 2, 1) := by decide +kernel
theorem dX7_setBounds_16 : decode bX7_setBounds 16 = .ok (.iconst 0, 1) := by decide +kernel
theorem dX7_setBounds_17 : decode bX7_setBounds 17 = .ok (.istore_n 3, 1) := by decide +kernel
theorem dX7_setBounds_18 : decode bX7_setBounds 18 = .ok (.iconst 0, 1) := by decide +kernel
theorem dX7_setBounds_19 : decode bX7_setBounds 19 = .ok (.istore 4, 2) := by decide +kernel
theorem dX7_setBounds_21 : decode bX7_setBounds 21 = .ok (.iload 4, 2) := by decide +kernel
theorem dX7_setBounds_23 : decode bX7_setBounds 23 = .ok (.aload_n 0, 1) := by decide +kernel
theorem dX7_setBounds_24 : decode bX7_setBounds 24 = .ok (.getfield 46, 3) := by decide +kernel
theorem dX7_setBounds_27 : decode bX7_setBounds 27 = .ok (.if_icmp .ge 19, 3) := by decide +kernel
theorem dX7_setBounds_30 : decode bX7_setBounds 30 = .ok (.iload_n 2, 1) := by decide +kernel
theorem dX7_setBounds_31 : decode bX7_setBounds 31 = .ok (.aload_n 0, 1) := by decide +kernel
theorem dX7_setBounds_32 : decode bX7_setBounds 32 = .ok (.getfield 21, 3) := by decide +kernel
theorem dX7_setBounds_35 : decode bX7_setBounds 35 = .ok (.iload 4, 2) := by decide +kernel
theorem dX7_setBounds_37 : decode bX7_setBounds 37 = .ok (.iaload, 1) := by decide +kernel
theorem dX7_setBounds_38 : decode bX7_setBounds 38 = .ok (.iadd, 1) := by decide +kernel
theorem dX7_setBounds_39 : decode bX7_setBounds 39 = .ok (.istore_n 2, 1) := by decide +kernel
theorem dX7_setBounds_40 : decode bX7_setBounds 40 = .ok (.iinc 4 1, 3) := by decide +kernel
theorem dX7_setBounds_43 : decode bX7_setBounds 43 = .ok (.goto (-22), 3) := by decide +kernel
theorem dX7_setBounds_46 : decode bX7_setBounds 46 = .ok (.iconst 0, 1) := by decide +kernel
theorem dX7_setBounds_47 : decode bX7_setBounds 47 = .ok (.istore 4, 2) := by decide +kernel
theorem dX7_setBounds_49 : decode bX7_setBounds 49 = .ok (.iload 4, 2) := by decide +kernel
theorem dX7_setBounds_51 : decode bX7_setBounds 51 = .ok (.aload_n 0, 1) := by decide +kernel
theorem dX7_setBounds_52 : decode bX7_setBounds 52 = .ok (.getfield 46, 3) := by decide +kernel
theorem dX7_setBounds_55 : decode bX7_setBounds 55 = .ok (.if_icmp .gt 85, 3) := by decide +kernel
theorem dX7_setBounds_58 : decode bX7_setBounds 58 = .ok (.aload_n 0, 1) := by decide +kernel
theorem dX7_setBounds_59 : decode bX7_setBounds 59 = .ok (.getfield 15, 3) := by decide +kernel
theorem dX7_setBounds_62 : decode bX7_setBounds 62 = .ok (.iload 4, 2) := by decide +kernel
theorem dX7_setBounds_64 : decode bX7_setBounds 64 = .ok (.iload_n 1, 1) := by decide +kernel
theorem dX7_setBounds_65 : decode bX7_setBounds 65 = .ok (.ifCond .eq 14, 3) := by decide +kernel
theorem dX7_setBounds_68 : decode bX7_setBounds 68 = .ok (.iload_n 2, 1) := by decide +kernel
theorem dX7_setBounds_69 : decode bX7_setBounds 69 = .ok (.ineg, 1) := by decide +kernel
theorem dX7_setBounds_70 : decode bX7_setBounds 70 = .ok (.iconst 1, 1) := by decide +kernel
theorem dX7_setBounds_71 : decode bX7_setBounds 71 = .ok (.iload_n 3, 1) := by decide +kernel
theorem dX7_setBounds_72 : decode bX7_setBounds 72 = .ok (.isub, 1) := by decide +kernel
theorem dX7_setBounds_73 : decode bX7_setBounds 73 = .ok (.invokestatic 93, 3) := by decide +kernel
theorem dX7_setBounds_76 : decode bX7_setBounds 76 = .ok (.goto 4, 3) := by decide +kernel
theorem dX7_setBounds_79 : decode bX7_setBounds 79 = .ok (.iconst 0, 1) := by decide +kernel
theorem dX7_setBounds_80 : decode bX7_setBounds 80 = .ok (.iastore, 1) := by decide +kernel
theorem dX7_setBounds_81 : decode bX7_setBounds 81 = .ok (.aload_n 0, 1) := by decide +kernel
theorem dX7_setBounds_82 : decode bX7_setBounds 82 = .ok (.getfield 18, 3) := by decide +kernel
theorem dX7_setBounds_85 : decode bX7_setBounds 85 = .ok (.iload 4, 2) := by decide +kernel
theorem dX7_setBounds_87 : decode bX7_setBounds 87 = .ok (.iload_n 2, 1) := by decide +kernel
theorem dX7_setBounds_88 : decode bX7_setBounds 88 = .ok (.iload_n 1, 1) := by decide +kernel
theorem dX7_setBounds_89 : decode bX7_setBounds 89 = .ok (.ifCond .eq 10, 3) := by decide +kernel
theorem dX7_setBounds_92 : decode bX7_setBounds 92 = .ok (.bipush 99, 2) := by decide +kernel
theorem dX7_setBounds_94 : decode bX7_setBounds 94 = .ok (.iload_n 3, 1) := by decide +kernel
theorem dX7_setBounds_95 : decode bX7_setBounds 95 = .ok (.iadd, 1) := by decide +kernel
theorem dX7_setBounds_96 : decode bX7_setBounds 96 = .ok (.goto 5, 3) := by decide +kernel
theorem dX7_setBounds_99 : decode bX7_setBounds 99 = .ok (.bipush 99, 2) := by decide +kernel
theorem dX7_setBounds_101 : decode bX7_setBounds 101 = .ok (.invokestatic 98, 3) := by decide +kernel
theorem dX7_setBounds_104 : decode bX7_setBounds 104 = .ok (.iastore, 1) := by decide +kernel
theorem dX7_setBounds_105 : decode bX7_setBounds 105 = .ok (.iload 4, 2) := by decide +kernel
theorem dX7_setBounds_107 : decode bX7_setBounds 107 = .ok (.aload_n 0, 1) := by decide +kernel
theorem dX7_setBounds_108 : decode bX7_setBounds 108 = .ok (.getfield 46, 3) := by decide +kernel
theorem dX7_setBounds_111 : decode bX7_setBounds 111 = .ok (.if_icmp .ge 23, 3) := by decide +kernel
theorem dX7_setBounds_114 : decode bX7_setBounds 114 = .ok (.iload_n 2, 1) := by decide +kernel
theorem dX7_setBounds_115 : decode bX7_setBounds 115 = .ok (.aload_n 0, 1) := by decide +kernel
theorem dX7_setBounds_116 : decode bX7_setBounds 116 = .ok (.getfield 21, 3) := by decide +kernel
theorem dX7_setBounds_119 : decode bX7_setBounds 119 = .ok (.iload 4, 2) := by decide +kernel
theorem dX7_setBounds_121 : decode bX7_setBounds 121 = .ok (.iaload, 1) := by decide +kernel
theorem dX7_setBounds_122 : decode bX7_setBounds 122 = .ok (.isub, 1) := by decide +kernel
theorem dX7_setBounds_123 : decode bX7_setBounds 123 = .ok (.istore_n 2, 1) := by decide +kernel
theorem dX7_setBounds_124 : decode bX7_setBounds 124 = .ok (.iload_n 3, 1) := by decide +kernel
theorem dX7_setBounds_125 : decode bX7_setBounds 125 = .ok (.aload_n 0, 1) := by decide +kernel
theorem dX7_setBounds_126 : decode bX7_setBounds 126 = .ok (.getfield 21, 3) := by decide +kernel
theorem dX7_setBounds_129 : decode bX7_setBounds 129 = .ok (.iload 4, 2) := by decide +kernel
theorem dX7_setBounds_131 : decode bX7_setBounds 131 = .ok (.iaload, 1) := by decide +kernel
theorem dX7_setBounds_132 : decode bX7_setBounds 132 = .ok (.iadd, 1) := by decide +kernel
theorem dX7_setBounds_133 : decode bX7_setBounds 133 = .ok (.istore_n 3, 1) := by decide +kernel
theorem dX7_setBounds_134 : decode bX7_setBounds 134 = .ok (.iinc 4 1, 3) := by decide +kernel
theorem dX7_setBounds_137 : decode bX7_setBounds 137 = .ok (.goto (-88), 3) := by decide +kernel
theorem dX7_setBounds_140 : decode bX7_setBounds 140 = .ok (.return_, 1) := by decide +kernel
section
variable {p : Program} {l : Launch} {e : Env} {s : State} {m : MethodId} {args : Array Value} {below : List Frame} {meth : Method} {c : Code} {G : GG} {n : Nat} {h' : Hp} {rv : Unit}
set_option maxHeartbeats 4000000
set_option maxRecDepth 100000
theorem j_X7_setBounds_101 (C0 : Cx p s m args meth c G bX7_setBounds RX7 5 none "setBounds") (hN : NX ≤ n) {k49 : Hp → Nat → Int32 → Int32 → Int32 → Int32 → Option (Unit × Hp)} (ih49 : ∀ {H : Heap} {locs : List Loc} {ls : Array Slot} {h : Hp} {x0 : Nat} {x1 : Int32} {x2 : Int32} {x3 : Int32} {x4 : Int32}, XW G n h s 0 H locs → lv_has ls 5 [(0, .ref (bs G + x0)), (1, .int x1), (2, .int x2), (3, .int x3), (4, .int x4)] → kd x0 = 7 → k49 h x0 x1 x2 x3 x4 = some (rv, h') → W p l e (rmC 1 0 0) s m args below meth c H locs 0 0 (MQ below (QP G n h' none) args s 0 0 (Ab G)) (F0 m 49 ls [])) {H : Heap} {locs : List Loc} {ls : Array Slot} {h : Hp} {x0 : Nat} {x1 : Int32} {x2 : Int32} {x3 : Int32} {x4 : Int32} {t0 : Nat} {t1 : Int32} {t2 : Int32} {t3 : Int32} (X : XW G n h s 0 H locs) (hl : lv_has ls 5 [(0, .ref (bs G + x0)), (1, .int x1), (2, .int x2), (3, .int x3), (4, .int x4)]) (o0 : kd x0 = 7) (ot0 : kd t0 = 13) (hf : f_X7_setBounds_101 k49 h x0 x1 x2 x3 x4 t0 t1 t2 t3 = some (rv, h')) : W p l e (rmC 1 0 0) s m args below meth c H locs 0 0 (MQ below (QP G n h' none) args s 0 0 (Ab G)) (F0 m 101 ls [.int t3, .int t2, .int t1, .ref (bs G + t0)]) := by
  obtain ⟨hx, hb, hr, hml, hown, hts, hK, hlocks, hnm⟩ := id C0
  unfold f_X7_setBounds_101 at hf
  refine g_mmin hx hb (hml.trans hl.1.symm) hown hts lm_X7_98 (by decide) (Nat.le_of_ble_eq_true rfl) dX7_setBounds_101 ?_
  obtain ⟨g1, hf⟩ := gd_e hf
  refine g_is hx hb hK X ot0 hN g1 (by decide) dX7_setBounds_104 (fun H locs X => ?_)
  obtain ⟨h2, e3, hf⟩ := lt_e hf
  rw [← e3] at X
  refine lv_iload hx hb dX7_setBounds_105 (lv_at hl 4 rfl) ?_
  refine lv_aload_n hx hb dX7_setBounds_107 rfl (lv_at hl 0 rfl) ?_
  refine g_I hx hb hts hown hK X o0 hN fl_X7_46 (by decide) rfl dX7_setBounds_108 ?_
  refine lv_icmp_ge (tgt := 134) hx hb dX7_setBounds_111 (by decide) (fun c111 => ?_) (fun c111 => ?_)
  · have hf := ite_t hf c111
    refine lv_iinc (v := (x4 + (1 : Int32))) (lv' := [(4, .int (x4 + (1 : Int32))), (0, .ref (bs G + x0)), (1, .int x1), (2, .int x2), (3, .int x3)]) hx hb dX7_setBounds_134 hl (k := 4) rfl rfl (by decide) rfl (fun ls hl => ?_)
    refine lv_goto (tgt := 49) hx hb dX7_setBounds_137 (by decide) ?_
    exact ih49 X (lv_sub hl [1, 2, 3, 4, 0] rfl) o0 hf
  · have hf := ite_f hf c111
    refine lv_iload_n hx hb dX7_setBounds_114 rfl (lv_at hl 2 rfl) ?_
    refine lv_aload_n hx hb dX7_setBounds_115 rfl (lv_at hl 0 rfl) ?_
    obtain ⟨g4, hf⟩ := gd_e hf
    refine g_R hx hb hts hown hK X o0 hN g4 fl_X7_21 (by decide) rfl (by decide) dX7_setBounds_116 ?_
    refine lv_iload hx hb dX7_setBounds_119 (lv_at hl 4 rfl) ?_
    obtain ⟨g5, hf⟩ := gd_e hf
    refine g_ia hx hb hK X g4 hN g5 (by decide) dX7_setBounds_121 ?_
    refine lv_isub hx hb dX7_setBounds_122 ?_
    refine lv_istore_n (lv' := [(2, .int (x2 - (h2.1 (h2.2 x0 7) x4.toNatClampNeg))), (0, .ref (bs G + x0)), (1, .int x1), (3, .int x3), (4, .int x4)]) hx hb dX7_setBounds_123 rfl hl (by decide) rfl (fun ls hl => ?_)
    refine lv_iload_n hx hb dX7_setBounds_124 rfl (lv_at hl 3 rfl) ?_
    refine lv_aload_n hx hb dX7_setBounds_125 rfl (lv_at hl 1 rfl) ?_
    obtain ⟨g6, hf⟩ := gd_e hf
    refine g_R hx hb hts hown hK X o0 hN g6 fl_X7_21 (by decide) rfl (by decide) dX7_setBounds_126 ?_
    refine lv_iload hx hb dX7_setBounds_129 (lv_at hl 4 rfl) ?_
    obtain ⟨g7, hf⟩ := gd_e hf
    refine g_ia hx hb hK X g6 hN g7 (by decide) dX7_setBounds_131 ?_
    refine lv_iadd hx hb dX7_setBounds_132 ?_
    refine lv_istore_n (lv' := [(3, .int (x3 + (h2.1 (h2.2 x0 7) x4.toNatClampNeg))), (2, .int (x2 - (h2.1 (h2.2 x0 7) x4.toNatClampNeg))), (0, .ref (bs G + x0)), (1, .int x1), (4, .int x4)]) hx hb dX7_setBounds_133 rfl hl (by decide) rfl (fun ls hl => ?_)
    refine lv_iinc (v := (x4 + (1 : Int32))) (lv' := [(4, .int (x4 + (1 : Int32))), (3, .int (x3 + (h2.1 (h2.2 x0 7) x4.toNatClampNeg))), (2, .int (x2 - (h2.1 (h2.2 x0 7) x4.toNatClampNeg))), (0, .ref (bs G + x0)), (1, .int x1)]) hx hb dX7_setBounds_134 hl (k := 4) rfl rfl (by decide) rfl (fun ls hl => ?_)
    refine lv_goto (tgt := 49) hx hb dX7_setBounds_137 (by decide) ?_
    exact ih49 X (lv_sub hl [3, 4, 2, 1, 0] rfl) o0 hf
theorem j_X7_setBounds_80 (C0 : Cx p s m args meth c G bX7_setBounds RX7 5 none "setBounds") (hN : NX ≤ n) {k49 : Hp → Nat → Int32 → Int32 → Int32 → Int32 → Option (Unit × Hp)} (ih49 : ∀ {H : Heap} {locs : List Loc} {ls : Array Slot} {h : Hp} {x0 : Nat} {x1 : Int32} {x2 : Int32} {x3 : Int32} {x4 : Int32}, XW G n h s 0 H locs → lv_has ls 5 [(0, .ref (bs G + x0)), (1, .int x1), (2, .int x2), (3, .int x3), (4, .int x4)] → kd x0 = 7 → k49 h x0 x1 x2 x3 x4 = some (rv, h') → W p l e (rmC 1 0 0) s m args below meth c H locs 0 0 (MQ below (QP G n h' none) args s 0 0 (Ab G)) (F0 m 49 ls [])) {H : Heap} {locs : List Loc} {ls : Array Slot} {h : Hp} {x0 : Nat} {x1 : Int32} {x2 : Int32} {x3 : Int32} {x4 : Int32} {t0 : Nat} {t1 : Int32} {t2 : Int32} (X : XW G n h s 0 H locs) (hl : lv_has ls 5 [(0, .ref (bs G + x0)), (1, .int x1), (2, .int x2), (3, .int x3), (4, .int x4)]) (o0 : kd x0 = 7) (ot0 : kd t0 = 13) (hf : f_X7_setBounds_80 k49 h x0 x1 x2 x3 x4 t0 t1 t2 = some (rv, h')) : W p l e (rmC 1 0 0) s m args below meth c H locs 0 0 (MQ below (QP G n h' none) args s 0 0 (Ab G)) (F0 m 80 ls [.int t2, .int t1, .ref (bs G + t0)]) := by
  obtain ⟨hx, hb, hr, hml, hown, hts, hK, hlocks, hnm⟩ := id C0
  unfold f_X7_setBounds_80 at hf
  obtain ⟨g1, hf⟩ := gd_e hf
  refine g_is hx hb hK X ot0 hN g1 (by decide) dX7_setBounds_80 (fun H locs X => ?_)
  obtain ⟨h2, e3, hf⟩ := lt_e hf
  rw [← e3] at X
  refine lv_aload_n hx hb dX7_setBounds_81 rfl (lv_at hl 0 rfl) ?_
  obtain ⟨g4, hf⟩ := gd_e hf
  refine g_R hx hb hts hown hK X o0 hN g4 fl_X7_18 (by decide) rfl (by decide) dX7_setBounds_82 ?_
  refine lv_iload hx hb dX7_setBounds_85 (lv_at hl 4 rfl) ?_
  refine lv_iload_n hx hb dX7_setBounds_87 rfl (lv_at hl 2 rfl) ?_
  refine lv_iload_n hx hb dX7_setBounds_88 rfl (lv_at hl 1 rfl) ?_
  refine lv_if_eq (tgt := 99) hx hb dX7_setBounds_89 (by decide) (fun c89 => ?_) (fun c89 => ?_)
  · have hf := ite_t hf c89
    refine lv_bipush (v := (99 : Int32)) hx hb dX7_setBounds_99 (by decide) ?_
    exact j_X7_setBounds_101 C0 hN @ih49 X (lv_sub hl [0, 1, 2, 3, 4] rfl) o0 g4 hf
  · have hf := ite_f hf c89
    refine lv_bipush (v := (99 : Int32)) hx hb dX7_setBounds_92 (by decide) ?_
    refine lv_iload_n hx hb dX7_setBounds_94 rfl (lv_at hl 3 rfl) ?_
    refine lv_iadd hx hb dX7_setBounds_95 ?_
    refine lv_goto (tgt := 101) hx hb dX7_setBounds_96 (by decide) ?_
    exact j_X7_setBounds_101 C0 hN @ih49 X (lv_sub hl [0, 1, 2, 3, 4] rfl) o0 g4 hf
theorem j_X7_setBounds_49 (C0 : Cx p s m args meth c G bX7_setBounds RX7 5 none "setBounds") (hN : NX ≤ n) : ∀ (fu : Nat), ∀ {H : Heap} {locs : List Loc} {ls : Array Slot} {h : Hp} {x0 : Nat} {x1 : Int32} {x2 : Int32} {x3 : Int32} {x4 : Int32}, XW G n h s 0 H locs → lv_has ls 5 [(0, .ref (bs G + x0)), (1, .int x1), (2, .int x2), (3, .int x3), (4, .int x4)] → kd x0 = 7 → f_X7_setBounds_49 fu h x0 x1 x2 x3 x4 = some (rv, h') → W p l e (rmC 1 0 0) s m args below meth c H locs 0 0 (MQ below (QP G n h' none) args s 0 0 (Ab G)) (F0 m 49 ls []) := by
  obtain ⟨hx, hb, hr, hml, hown, hts, hK, hlocks, hnm⟩ := id C0
  intro fu
  induction fu with
  | zero => intro H locs ls h x0 x1 x2 x3 x4 X hl o0 hf; cases hf
  | succ fu ih =>
    intro H locs ls h x0 x1 x2 x3 x4 X hl o0 hf
    rw [f_X7_setBounds_49] at hf
    refine lv_iload hx hb dX7_setBounds_49 (lv_at hl 4 rfl) ?_
    refine lv_aload_n hx hb dX7_setBounds_51 rfl (lv_at hl 0 rfl) ?_
    refine g_I hx hb hts hown hK X o0 hN fl_X7_46 (by decide) rfl dX7_setBounds_52 ?_
    refine lv_icmp_gt (tgt := 140) hx hb dX7_setBounds_55 (by decide) (fun c55 => ?_) (fun c55 => ?_)
    · have hf := ite_t hf c55
      exact r_V hx hb hr hlocks X hf dX7_setBounds_140
    · have hf := ite_f hf c55
      refine lv_aload_n hx hb dX7_setBounds_58 rfl (lv_at hl 0 rfl) ?_
      obtain ⟨g1, hf⟩ := gd_e hf
      refine g_R hx hb hts hown hK X o0 hN g1 fl_X7_15 (by decide) rfl (by decide) dX7_setBounds_59 ?_
      refine lv_iload hx hb dX7_setBounds_62 (lv_at hl 4 rfl) ?_
      refine lv_iload_n hx hb dX7_setBounds_64 rfl (lv_at hl 1 rfl) ?_
      refine lv_if_eq (tgt := 79) hx hb dX7_setBounds_65 (by decide) (fun c65 => ?_) (fun c65 => ?_)
      · have hf := ite_t hf c65
        refine lv_iconst (v := (0 : Int32)) hx hb dX7_setBounds_79 (by decide) ?_
        exact j_X7_setBounds_80 C0 hN @ih X (lv_sub hl [0, 1, 2, 3, 4] rfl) o0 g1 hf
      · have hf := ite_f hf c65
        refine lv_iload_n hx hb dX7_setBounds_68 rfl (lv_at hl 2 rfl) ?_
        refine lv_ineg hx hb dX7_setBounds_69 ?_
        refine lv_iconst (v := (1 : Int32)) hx hb dX7_setBounds_70 (by decide) ?_
        refine lv_iload_n hx hb dX7_setBounds_71 rfl (lv_at hl 3 rfl) ?_
        refine lv_isub hx hb dX7_setBounds_72 ?_
        refine g_mmax hx hb (hml.trans hl.1.symm) hown hts lm_X7_93 (by decide) (Nat.le_of_ble_eq_true rfl) dX7_setBounds_73 ?_
        refine lv_goto (tgt := 80) hx hb dX7_setBounds_76 (by decide) ?_
        exact j_X7_setBounds_80 C0 hN @ih X (lv_sub hl [0, 1, 2, 3, 4] rfl) o0 g1 hf
theorem j_X7_setBounds_21 (C0 : Cx p s m args meth c G bX7_setBounds RX7 5 none "setBounds") (hN : NX ≤ n) : ∀ (fu : Nat), ∀ {H : Heap} {locs : List Loc} {ls : Array Slot} {h : Hp} {x0 : Nat} {x1 : Int32} {x2 : Int32} {x3 : Int32} {x4 : Int32}, XW G n h s 0 H locs → lv_has ls 5 [(0, .ref (bs G + x0)), (1, .int x1), (2, .int x2), (3, .int x3), (4, .int x4)] → kd x0 = 7 → f_X7_setBounds_21 fu h x0 x1 x2 x3 x4 = some (rv, h') → W p l e (rmC 1 0 0) s m args below meth c H locs 0 0 (MQ below (QP G n h' none) args s 0 0 (Ab G)) (F0 m 21 ls []) := by
  obtain ⟨hx, hb, hr, hml, hown, hts, hK, hlocks, hnm⟩ := id C0
  intro fu
  induction fu with
  | zero => intro H locs ls h x0 x1 x2 x3 x4 X hl o0 hf; cases hf
  | succ fu ih =>
    intro H locs ls h x0 x1 x2 x3 x4 X hl o0 hf
    rw [f_X7_setBounds_21] at hf
    refine lv_iload hx hb dX7_setBounds_21 (lv_at hl 4 rfl) ?_
    refine lv_aload_n hx hb dX7_setBounds_23 rfl (lv_at hl 0 rfl) ?_
    refine g_I hx hb hts hown hK X o0 hN fl_X7_46 (by decide) rfl dX7_setBounds_24 ?_
    refine lv_icmp_ge (tgt := 46) hx hb dX7_setBounds_27 (by decide) (fun c27 => ?_) (fun c27 => ?_)
    · have hf := ite_t hf c27
      refine lv_iconst (v := (0 : Int32)) hx hb dX7_setBounds_46 (by decide) ?_
      refine lv_istore (lv' := [(4, .int (0 : Int32)), (0, .ref (bs G + x0)), (1, .int x1), (2, .int x2), (3, .int x3)]) hx hb dX7_setBounds_47 hl (by decide) rfl (fun ls hl => ?_)
      exact j_X7_setBounds_49 C0 hN FU X (lv_sub hl [1, 2, 3, 4, 0] rfl) o0 hf
    · have hf := ite_f hf c27
      refine lv_iload_n hx hb dX7_setBounds_30 rfl (lv_at hl 2 rfl) ?_
      refine lv_aload_n hx hb dX7_setBounds_31 rfl (lv_at hl 0 rfl) ?_
      obtain ⟨g1, hf⟩ := gd_e hf
      refine g_R hx hb hts hown hK X o0 hN g1 fl_X7_21 (by decide) rfl (by decide) dX7_setBounds_32 ?_
      refine lv_iload hx hb dX7_setBounds_35 (lv_at hl 4 rfl) ?_
      obtain ⟨g2, hf⟩ := gd_e hf
      refine g_ia hx hb hK X g1 hN g2 (by decide) dX7_setBounds_37 ?_
      refine lv_iadd hx hb dX7_setBounds_38 ?_
      refine lv_istore_n (lv' := [(2, .int (x2 + (h.1 (h.2 x0 7) x4.toNatClampNeg))), (0, .ref (bs G + x0)), (1, .int x1), (3, .int x3), (4, .int x4)]) hx hb dX7_setBounds_39 rfl hl (by decide) rfl (fun ls hl => ?_)
      refine lv_iinc (v := (x4 + (1 : Int32))) (lv' := [(4, .int (x4 + (1 : Int32))), (2, .int (x2 + (h.1 (h.2 x0 7) x4.toNatClampNeg))), (0, .ref (bs G + x0)), (1, .int x1), (3, .int x3)]) hx hb dX7_setBounds_40 hl (k := 4) rfl rfl (by decide) rfl (fun ls hl => ?_)
      refine lv_goto (tgt := 21) hx hb dX7_setBounds_43 (by decide) ?_
      exact ih X (lv_sub hl [2, 3, 1, 4, 0] rfl) o0 hf
theorem j_X7_setBounds_13 (C0 : Cx p s m args meth c G bX7_setBounds RX7 5 none "setBounds") (hN : NX ≤ n) {H : Heap} {locs : List Loc} {ls : Array Slot} {h : Hp} {x0 : Nat} {t0 : Int32} (X : XW G n h s 0 H locs) (hl : lv_has ls 5 [(0, .ref (bs G + x0))]) (o0 : kd x0 = 7) (hf : f_X7_setBounds_13 h x0 t0 = some (rv, h')) : W p l e (rmC 1 0 0) s m args below meth c H locs 0 0 (MQ below (QP G n h' none) args s 0 0 (Ab G)) (F0 m 13 ls [.int t0]) := by
  obtain ⟨hx, hb, hr, hml, hown, hts, hK, hlocks, hnm⟩ := id C0
  unfold f_X7_setBounds_13 at hf
  refine lv_istore_n (lv' := [(1, .int t0), (0, .ref (bs G + x0))]) hx hb dX7_setBounds_13 rfl hl (by decide) rfl (fun ls hl => ?_)
  refine lv_iconst (v := (0 : Int32)) hx hb dX7_setBounds_14 (by decide) ?_
  refine lv_istore_n (lv' := [(2, .int (0 : Int32)), (1, .int t0), (0, .ref (bs G + x0))]) hx hb dX7_setBounds_15 rfl hl (by decide) rfl (fun ls hl => ?_)
  refine lv_iconst (v := (0 : Int32)) hx hb dX7_setBounds_16 (by decide) ?_
  refine lv_istore_n (lv' := [(3, .int (0 : Int32)), (2, .int (0 : Int32)), (1, .int t0), (0, .ref (bs G + x0))]) hx hb dX7_setBounds_17 rfl hl (by decide) rfl (fun ls hl => ?_)
  refine lv_iconst (v := (0 : Int32)) hx hb dX7_setBounds_18 (by decide) ?_
  refine lv_istore (lv' := [(4, .int (0 : Int32)), (3, .int (0 : Int32)), (2, .int (0 : Int32)), (1, .int t0), (0, .ref (bs G + x0))]) hx hb dX7_setBounds_19 hl (by decide) rfl (fun ls hl => ?_)
  exact j_X7_setBounds_21 C0 hN FU X (lv_sub hl [4, 3, 2, 1, 0] rfl) o0 hf
theorem k_X7_setBounds (l : Launch) (G : GG) (n : Nat) (hN : NX ≤ n) {h h' : Hp} {x0 : Nat} {rv : Unit} (hf : f_X7_setBounds h x0 = some (rv, h')) : CT l G n n yX7_setBounds (.code yX7_setBounds bX7_setBounds 5 none) 1 0 0 [.ref (bs G + x0)] h h' none := by
  refine ct_of (maxL := 5) (ret := none) (bytes := bX7_setBounds) (by decide) (Nat.le_of_ble_eq_true rfl) (fun p e s m below meth c C0 X ls hl => ?_)
  have hl : lv_has ls 5 [(0, .ref (bs G + x0))] := hl
  obtain ⟨hx, hb, hr, hml, hown, hts, hK, hlocks, hnm⟩ := id C0
  unfold f_X7_setBounds at hf
  obtain ⟨o0, hf⟩ := gd_e hf
  refine lv_aload_n hx hb dX7_setBounds_0 rfl (lv_at hl 0 rfl) ?_
  refine g_I hx hb hts hown hK X o0 hN fl_X7_27 (by decide) rfl dX7_setBounds_1 ?_
  refine lv_iconst (v := (2 : Int32)) hx hb dX7_setBounds_4 (by decide) ?_
  refine lv_icmp_lt (tgt := 12) hx hb dX7_setBounds_5 (by decide) (fun c5 => ?_) (fun c5 => ?_)
  · have hf := ite_t hf c5
    refine lv_iconst (v := (0 : Int32)) hx hb dX7_setBounds_12 (by decide) ?_
    exact j_X7_setBounds_13 C0 hN X (lv_sub hl [0] rfl) o0 hf
  · have hf := ite_f hf c5
    refine lv_iconst (v := (1 : Int32)) hx hb dX7_setBounds_8 (by decide) ?_
    refine lv_goto (tgt := 13) hx hb dX7_setBounds_9 (by decide) ?_
    exact j_X7_setBounds_13 C0 hN X (lv_sub hl [0] rfl) o0 hf
end
