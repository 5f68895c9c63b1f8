theorem dX12_by_0 : decode bX12_by 0 = .ok (.iload_n 2, 1) := by decide +kernel
theorem dX12_by_1 : decode bX12_by 1 = .ok (.iconst 1, 1) := by decide +kernel
theorem dX12_by_2 : decode bX12_by 2 = .ok (.if_icmp .eq 31, 3) := by decide +kernel
theorem dX12_by_5 : decode bX12_by 5 = .ok (.iload_n 2, 1) := by decide +kernel
theorem dX12_by_6 : decode bX12_by 6 = .ok (.iconst 2, 1) := by decide +kernel
theorem dX12_by_7 : decode bX12_by 7 = .ok (.if_icmp .ne 9, 3) := by decide +kernel
theorem dX12_by_10 : decode bX12_by 10 = .ok (.iload 4, 2) := by decide +kernel
theorem dX12_by_12 : decode bX12_by 12 = .ok (.iconst 2, 1) := by decide +kernel
theorem dX12_by_13 : decode bX12_by 13 = .ok (.if_icmp .ge 20, 3) := by decide +kernel
theorem dX12_by_16 : decode bX12_by 16 = .ok (.iload_n 2, 1) := by decide +kernel
theorem dX12_by_17 : decode bX12_by 17 = .ok (.iconst 3, 1) := by decide +kernel
theorem dX12_by_18 : decode bX12_by 18 = .ok (.if_icmp .ne 19, 3) := by decide +kernel
theorem dX12_by_21 : decode bX12_by 21 = .ok (.iload 4, 2) := by decide +kernel
theorem dX12_by_23 : decode bX12_by 23 = .ok (.iconst 3, 1) := by decide +kernel
theorem dX12_by_24 : decode bX12_by 24 = .ok (.if_icmp .ne 13, 3) := by decide +kernel
theorem dX12_by_27 : decode bX12_by 27 = .ok (.iload_n 1, 1) := by decide +kernel
theorem dX12_by_28 : decode bX12_by 28 = .ok (.iconst 2, 1) := by decide +kernel
theorem dX12_by_29 : decode bX12_by 29 = .ok (.irem, 1) := by decide +kernel
theorem dX12_by_30 : decode bX12_by 30 = .ok (.ifCond .ne 7, 3) := by decide +kernel
theorem dX12_by_33 : decode bX12_by 33 = .ok (.iconst 1, 1) := by decide +kernel
theorem dX12_by_34 : decode bX12_by 34 = .ok (.goto 4, 3) := by decide +kernel
theorem dX12_by_37 : decode bX12_by 37 = .ok (.iconst 0, 1) := by decide +kernel
theorem dX12_by_38 : decode bX12_by 38 = .ok (.istore 5, 2) := by decide +kernel
theorem dX12_by_40 : decode bX12_by 40 = .ok (.iload 5, 2) := by decide +kernel
theorem dX12_by_42 : decode bX12_by 42 = .ok (.ifCond .ne 6, 3) := by decide +kernel
theorem dX12_by_45 : decode bX12_by 45 = .ok (.ldc 166, 2) := by decide +kernel
theorem dX12_by_47 : decode bX12_by 47 = .ok (.ireturn, 1) := by decide +kernel
theorem dX12_by_48 : decode bX12_by 48 = .ok (.aload_n 0, 1) := by decide +kernel
theorem dX12_by_49 : decode bX12_by 49 = .ok (.iload_n 1, 1) := by decide +kernel
theorem dX12_by_50 : decode bX12_by 50 = .ok (.iconst 1, 1) := by decide +kernel
theorem dX12_by_51 : decode bX12_by 51 = .ok (.iadd, 1) := by decide +kernel
theorem dX12_by_52 : decode bX12_by 52 = .ok (.iload_n 3, 1) := by decide +kernel
theorem dX12_by_53 : decode bX12_by 53 = .ok (.iload_n 1, 1) := by decide +kernel
theorem dX12_by_54 : decode bX12_by 54 = .ok (.iload_n 2, 1) := by decide +kernel
theorem dX12_by_55 : decode bX12_by 55 = .ok (.invokestatic 146, 3) := by decide +kernel
theorem dX12_by_58 : decode bX12_by 58 = .ok (.isub, 1) := by decide +kernel
theorem dX12_by_59 : decode bX12_by 59 = .ok (.invokevirtual 167, 3) := by decide +kernel
theorem dX12_by_62 : decode bX12_by 62 = .ok (.istore 6, 2) := by decide +kernel
theorem dX12_by_64 : decode bX12_by 64 = .ok (.iload 6, 2) := by decide +kernel
theorem dX12_by_66 : decode bX12_by 66 = .ok (.ldc 166, 2) := by decide +kernel
theorem dX12_by_68 : decode bX12_by 68 = .ok (.if_icmp .lt 8, 3) := by decide +kernel
theorem dX12_by_71 : decode bX12_by 71 = .ok (.ldc 166, 2) := by decide +kernel
theorem dX12_by_73 : decode bX12_by 73 = .ok (.goto 16, 3) := by decide +kernel
theorem dX12_by_76 : decode bX12_by 76 = .ok (.iload 6, 2) := by decide +kernel
theorem dX12_by_78 : decode bX12_by 78 = .ok (.sipush 1000, 3) := by decide +kernel
theorem dX12_by_81 : decode bX12_by 81 = .ok (.iadd, 1) := by decide +kernel
theorem dX12_by_82 : decode bX12_by 82 = .ok (.aload_n 0, 1) := by decide +kernel
theorem dX12_by_83 : decode bX12_by 83 = .ok (.iload_n 1, 1) := by decide +kernel
theorem dX12_by_84 : decode bX12_by 84 = .ok (.iload_n 2, 1) := by decide +kernel
theorem dX12_by_85 : decode bX12_by 85 = .ok (.invokevirtual 150, 3) := by decide +kernel
theorem dX12_by_88 : decode bX12_by 88 = .ok (.iadd, 1) := by decide +kernel
theorem dX12_by_89 : decode bX12_by 89 = .ok (.ireturn, 1) := by decide +kernel
section
variable {p : Program} {l : Launch} {e : Env} {s : State} {m : MethodId} {args : Array Value} {below : List Frame} {meth : Method} {c : Code} {G : GG} {n : Nat} {h' : Hp} {rv : Int32}
set_option maxHeartbeats 4000000
set_option maxRecDepth 100000
theorem j_X12_by_38 (C0 : Cx p s m args meth c G bX12_by RX12 7 (some .int) "by") (hN : NT ≤ n) {H : Heap} {locs : List Loc} {ls : Array Slot} {h : Hp} {x0 : Nat} {x1 : Int32} {x2 : Int32} {x3 : Int32} {t0 : Int32} (X : XW G n h s 0 H locs) (hl : lv_has ls 7 [(0, .ref (bs G + x0)), (1, .int x1), (2, .int x2), (3, .int x3)]) (o0 : kd x0 = 12) (hf : f_X12_by_38 h x0 x1 x2 x3 t0 = some (rv, h')) : W p l e (rmC 2 0 0) s m args below meth c H locs 0 0 (MQ below (QP G n h' (some (.int rv))) args s 0 0 (Ab G)) (F0 m 38 ls [.int t0]) := by
  obtain ⟨hx, hb, hr, hml, hown, hts, hK, hlocks, hnm⟩ := id C0
  unfold f_X12_by_38 at hf
  refine lv_istore (lv' := [(5, .int t0), (0, .ref (bs G + x0)), (1, .int x1), (2, .int x2), (3, .int x3)]) hx hb dX12_by_38 hl (by decide) rfl (fun ls hl => ?_)
  refine lv_iload hx hb dX12_by_40 (lv_at hl 0 rfl) ?_
  refine lv_if_ne (tgt := 48) hx hb dX12_by_42 (by decide) (fun c42 => ?_) (fun c42 => ?_)
  · have hf := ite_f hf c42
    refine lv_aload_n hx hb dX12_by_48 rfl (lv_at hl 1 rfl) ?_
    refine lv_iload_n hx hb dX12_by_49 rfl (lv_at hl 2 rfl) ?_
    refine lv_iconst (v := (1 : Int32)) hx hb dX12_by_50 (by decide) ?_
    refine lv_iadd hx hb dX12_by_51 ?_
    refine lv_iload_n hx hb dX12_by_52 rfl (lv_at hl 4 rfl) ?_
    refine lv_iload_n hx hb dX12_by_53 rfl (lv_at hl 2 rfl) ?_
    refine lv_iload_n hx hb dX12_by_54 rfl (lv_at hl 3 rfl) ?_
    obtain ⟨r1, h2, q3, hf⟩ := bd_e hf
    refine c_S0 (As := [.int x1, .int x2]) (rest := [.int x3, .int (x1 + (1 : Int32)), .ref (bs G + x0)]) (st1 := [.int r1, .int x3, .int (x1 + (1 : Int32)), .ref (bs G + x0)]) hx hb hml hown hts hK X (k_X12_counts l G n hN q3) lc_X12_counts ls_X12_146 (by decide) rfl hl.1 (Nat.le_of_ble_eq_true rfl) dX12_by_55 rfl (fun H locs X => ?_)
    refine lv_isub hx hb dX12_by_58 ?_
    obtain ⟨r4, h5, q6, hf⟩ := bd_e hf
    refine c_V0 (As := [.int (x1 + (1 : Int32)), .int (x3 - r1)]) (rest := []) (st1 := [.int r4]) hx hb hml hown hts hK X (k_X12_laid l G n hN q6) o0 hN lc_X12_laid lv_X12_167 (ci := 12) rfl rfl (by decide) rfl hl.1 (Nat.le_of_ble_eq_true rfl) dX12_by_59 rfl (fun H locs X => ?_)
    refine lv_istore (lv' := [(6, .int r4), (5, .int t0), (0, .ref (bs G + x0)), (1, .int x1), (2, .int x2), (3, .int x3)]) hx hb dX12_by_62 hl (by decide) rfl (fun ls hl => ?_)
    refine lv_iload hx hb dX12_by_64 (lv_at hl 0 rfl) ?_
    refine lv_ldc hx hb hown (hts _ cn_X12_166) dX12_by_66 ?_
    refine lv_icmp_lt (tgt := 76) hx hb dX12_by_68 (by decide) (fun c68 => ?_) (fun c68 => ?_)
    · have hf := ite_t hf c68
      refine lv_iload hx hb dX12_by_76 (lv_at hl 0 rfl) ?_
      refine lv_sipush (v := (1000 : Int32)) hx hb dX12_by_78 (by decide) ?_
      refine lv_iadd hx hb dX12_by_81 ?_
      refine lv_aload_n hx hb dX12_by_82 rfl (lv_at hl 2 rfl) ?_
      refine lv_iload_n hx hb dX12_by_83 rfl (lv_at hl 3 rfl) ?_
      refine lv_iload_n hx hb dX12_by_84 rfl (lv_at hl 4 rfl) ?_
      obtain ⟨r7, h8, q9, hf⟩ := bd_e hf
      refine c_V0 (As := [.int x1, .int x2]) (rest := [.int (r4 + (1000 : Int32))]) (st1 := [.int r7, .int (r4 + (1000 : Int32))]) hx hb hml hown hts hK X (k_X12_priceOf l G n hN q9) o0 hN lc_X12_priceOf lv_X12_150 (ci := 12) rfl rfl (by decide) rfl hl.1 (Nat.le_of_ble_eq_true rfl) dX12_by_85 rfl (fun H locs X => ?_)
      refine lv_iadd hx hb dX12_by_88 ?_
      exact r_I hx hb hr hlocks X hf dX12_by_89
    · have hf := ite_f hf c68
      refine lv_ldc hx hb hown (hts _ cn_X12_166) dX12_by_71 ?_
      refine lv_goto (tgt := 89) hx hb dX12_by_73 (by decide) ?_
      exact r_I hx hb hr hlocks X hf dX12_by_89
  · have hf := ite_t hf c42
    refine lv_ldc hx hb hown (hts _ cn_X12_166) dX12_by_45 ?_
    exact r_I hx hb hr hlocks X hf dX12_by_47
theorem j_X12_by_37 (C0 : Cx p s m args meth c G bX12_by RX12 7 (some .int) "by") (hN : NT ≤ n) {H : Heap} {locs : List Loc} {ls : Array Slot} {h : Hp} {x0 : Nat} {x1 : Int32} {x2 : Int32} {x3 : Int32} (X : XW G n h s 0 H locs) (hl : lv_has ls 7 [(0, .ref (bs G + x0)), (1, .int x1), (2, .int x2), (3, .int x3)]) (o0 : kd x0 = 12) (hf : f_X12_by_37 h x0 x1 x2 x3 = some (rv, h')) : W p l e (rmC 2 0 0) s m args below meth c H locs 0 0 (MQ below (QP G n h' (some (.int rv))) args s 0 0 (Ab G)) (F0 m 37 ls []) := by
  obtain ⟨hx, hb, hr, hml, hown, hts, hK, hlocks, hnm⟩ := id C0
  unfold f_X12_by_37 at hf
  refine lv_iconst (v := (0 : Int32)) hx hb dX12_by_37 (by decide) ?_
  exact j_X12_by_38 C0 hN X (lv_sub hl [0, 1, 2, 3] rfl) o0 hf
theorem j_X12_by_33 (C0 : Cx p s m args meth c G bX12_by RX12 7 (some .int) "by") (hN : NT ≤ n) {H : Heap} {locs : List Loc} {ls : Array Slot} {h : Hp} {x0 : Nat} {x1 : Int32} {x2 : Int32} {x3 : Int32} (X : XW G n h s 0 H locs) (hl : lv_has ls 7 [(0, .ref (bs G + x0)), (1, .int x1), (2, .int x2), (3, .int x3)]) (o0 : kd x0 = 12) (hf : f_X12_by_33 h x0 x1 x2 x3 = some (rv, h')) : W p l e (rmC 2 0 0) s m args below meth c H locs 0 0 (MQ below (QP G n h' (some (.int rv))) args s 0 0 (Ab G)) (F0 m 33 ls []) := by
  obtain ⟨hx, hb, hr, hml, hown, hts, hK, hlocks, hnm⟩ := id C0
  unfold f_X12_by_33 at hf
  refine lv_iconst (v := (1 : Int32)) hx hb dX12_by_33 (by decide) ?_
  refine lv_goto (tgt := 38) hx hb dX12_by_34 (by decide) ?_
  exact j_X12_by_38 C0 hN X (lv_sub hl [0, 1, 2, 3] rfl) o0 hf
theorem j_X12_by_16 (C0 : Cx p s m args meth c G bX12_by RX12 7 (some .int) "by") (hN : NT ≤ n) {H : Heap} {locs : List Loc} {ls : Array Slot} {h : Hp} {x0 : Nat} {x1 : Int32} {x2 : Int32} {x3 : Int32} {x4 : Int32} (X : XW G n h s 0 H locs) (hl : lv_has ls 7 [(0, .ref (bs G + x0)), (1, .int x1), (2, .int x2), (3, .int x3), (4, .int x4)]) (o0 : kd x0 = 12) (hf : f_X12_by_16 h x0 x1 x2 x3 x4 = some (rv, h')) : W p l e (rmC 2 0 0) s m args below meth c H locs 0 0 (MQ below (QP G n h' (some (.int rv))) args s 0 0 (Ab G)) (F0 m 16 ls []) := by
  obtain ⟨hx, hb, hr, hml, hown, hts, hK, hlocks, hnm⟩ := id C0
  unfold f_X12_by_16 at hf
  refine lv_iload_n hx hb dX12_by_16 rfl (lv_at hl 2 rfl) ?_
  refine lv_iconst (v := (3 : Int32)) hx hb dX12_by_17 (by decide) ?_
  refine lv_icmp_ne (tgt := 37) hx hb dX12_by_18 (by decide) (fun c18 => ?_) (fun c18 => ?_)
  · have hf := ite_f hf c18
    exact j_X12_by_37 C0 hN X (lv_sub hl [0, 1, 2, 3] rfl) o0 hf
  · have hf := ite_t hf c18
    refine lv_iload hx hb dX12_by_21 (lv_at hl 4 rfl) ?_
    refine lv_iconst (v := (3 : Int32)) hx hb dX12_by_23 (by decide) ?_
    refine lv_icmp_ne (tgt := 37) hx hb dX12_by_24 (by decide) (fun c24 => ?_) (fun c24 => ?_)
    · have hf := ite_f hf c24
      exact j_X12_by_37 C0 hN X (lv_sub hl [0, 1, 2, 3] rfl) o0 hf
    · have hf := ite_t hf c24
      refine lv_iload_n hx hb dX12_by_27 rfl (lv_at hl 1 rfl) ?_
      refine lv_iconst (v := (2 : Int32)) hx hb dX12_by_28 (by decide) ?_
      refine lv_irem hx hb dX12_by_29 (by decide) ?_
      refine lv_if_ne (tgt := 37) hx hb dX12_by_30 (by decide) (fun c30 => ?_) (fun c30 => ?_)
      · have hf := ite_f hf c30
        exact j_X12_by_37 C0 hN X (lv_sub hl [0, 1, 2, 3] rfl) o0 hf
      · have hf := ite_t hf c30
        exact j_X12_by_33 C0 hN X (lv_sub hl [0, 1, 2, 3] rfl) o0 hf
theorem k_X12_by (l : Launch) (G : GG) (n : Nat) (hN : NT ≤ n) {h h' : Hp} {x0 : Nat} {x1 : Int32} {x2 : Int32} {x3 : Int32} {x4 : Int32} {rv : Int32} (hf : f_X12_by h x0 x1 x2 x3 x4 = some (rv, h')) : CT l G n n yX12_by (.code yX12_by bX12_by 7 (some .int)) 2 0 0 [.ref (bs G + x0), .int x1, .int x2, .int x3, .int x4] h h' (some (.int rv)) := by
  refine ct_of (maxL := 7) (ret := (some .int)) (bytes := bX12_by) (by decide) (Nat.le_of_ble_eq_true rfl) (fun p e s m below meth c C0 X ls hl => ?_)
  have hl : lv_has ls 7 [(0, .ref (bs G + x0)), (1, .int x1), (2, .int x2), (3, .int x3), (4, .int x4)] := hl
  obtain ⟨hx, hb, hr, hml, hown, hts, hK, hlocks, hnm⟩ := id C0
  unfold f_X12_by at hf
  obtain ⟨o0, hf⟩ := gd_e hf
  refine lv_iload_n hx hb dX12_by_0 rfl (lv_at hl 2 rfl) ?_
  refine lv_iconst (v := (1 : Int32)) hx hb dX12_by_1 (by decide) ?_
  refine lv_icmp_eq (tgt := 33) hx hb dX12_by_2 (by decide) (fun c2 => ?_) (fun c2 => ?_)
  · have hf := ite_t hf c2
    exact j_X12_by_33 C0 hN X (lv_sub hl [0, 1, 2, 3] rfl) o0 hf
  · have hf := ite_f hf c2
    refine lv_iload_n hx hb dX12_by_5 rfl (lv_at hl 2 rfl) ?_
    refine lv_iconst (v := (2 : Int32)) hx hb dX12_by_6 (by decide) ?_
    refine lv_icmp_ne (tgt := 16) hx hb dX12_by_7 (by decide) (fun c7 => ?_) (fun c7 => ?_)
    · have hf := ite_f hf c7
      exact j_X12_by_16 C0 hN X (lv_sub hl [0, 1, 2, 3, 4] rfl) o0 hf
    · have hf := ite_t hf c7
      refine lv_iload hx hb dX12_by_10 (lv_at hl 4 rfl) ?_
      refine lv_iconst (v := (2 : Int32)) hx hb dX12_by_12 (by decide) ?_
      refine lv_icmp_ge (tgt := 33) hx hb dX12_by_13 (by decide) (fun c13 => ?_) (fun c13 => ?_)
      · have hf := ite_t hf c13
        exact j_X12_by_33 C0 hN X (lv_sub hl [0, 1, 2, 3] rfl) o0 hf
      · have hf := ite_f hf c13
        exact j_X12_by_16 C0 hN X (lv_sub hl [0, 1, 2, 3, 4] rfl) o0 hf
end
theorem dX12_layTable_0 : decode bX12_layTable 0 = .ok (.aload_n 0, 1) := by decide +kernel
theorem dX12_layTable_1 : decode bX12_layTable 1 = .ok (.getfield 13, 3) := by decide +kernel
theorem dX12_layTable_4 : decode bX12_layTable 4 = .ok (.iconst 0, 1) := by decide +kernel
theorem dX12_layTable_5 : decode bX12_layTable 5 = .ok (.iaload, 1) := by decide +kernel
theorem dX12_layTable_6 : decode bX12_layTable 6 = .ok (.istore_n 3, 1) := by decide +kernel
theorem dX12_layTable_7 : decode bX12_layTable 7 = .ok (.iconst 0, 1) := by decide +kernel
theorem dX12_layTable_8 : decode bX12_layTable 8 = .ok (.istore 4, 2) := by decide +kernel
theorem dX12_layTable_10 : decode bX12_layTable 10 = .ok (.iload 4, 2) := by decide +kernel
theorem dX12_layTable_12 : decode bX12_layTable 12 = .ok (.sipush 601, 3) := by decide +kernel
theorem dX12_layTable_15 : decode bX12_layTable 15 = .ok (.if_icmp .ge 36, 3) := by decide +kernel
theorem dX12_layTable_18 : decode bX12_layTable 18 = .ok (.aload_n 0, 1) := by decide +kernel
theorem dX12_layTable_19 : decode bX12_layTable 19 = .ok (.getfield 38, 3) := by decide +kernel
theorem dX12_layTable_22 : decode bX12_layTable 22 = .ok (.sipush 601, 3) := by decide +kernel
theorem dX12_layTable_25 : decode bX12_layTable 25 = .ok (.iload_n 3, 1) := by decide +kernel
theorem dX12_layTable_26 : decode bX12_layTable 26 = .ok (.imul, 1) := by decide +kernel
theorem dX12_layTable_27 : decode bX12_layTable 27 = .ok (.iload 4, 2) := by decide +kernel
theorem dX12_layTable_29 : decode bX12_layTable 29 = .ok (.iadd, 1) := by decide +kernel
theorem dX12_layTable_30 : decode bX12_layTable 30 = .ok (.iload 4, 2) := by decide +kernel
theorem dX12_layTable_32 : decode bX12_layTable 32 = .ok (.sipush 300, 3) := by decide +kernel
theorem dX12_layTable_35 : decode bX12_layTable 35 = .ok (.if_icmp .ne 7, 3) := by decide +kernel
theorem dX12_layTable_38 : decode bX12_layTable 38 = .ok (.iconst 0, 1) := by decide +kernel
theorem dX12_layTable_39 : decode bX12_layTable 39 = .ok (.goto 5, 3) := by decide +kernel
theorem dX12_layTable_42 : decode bX12_layTable 42 = .ok (.ldc 166, 2) := by decide +kernel
theorem dX12_layTable_44 : decode bX12_layTable 44 = .ok (.iastore, 1) := by decide +kernel
theorem dX12_layTable_45 : decode bX12_layTable 45 = .ok (.iinc 4 1, 3) := by decide +kernel
theorem dX12_layTable_48 : decode bX12_layTable 48 = .ok (.goto (-38), 3) := by decide +kernel
theorem dX12_layTable_51 : decode bX12_layTable 51 = .ok (.iload_n 3, 1) := by decide +kernel
theorem dX12_layTable_52 : decode bX12_layTable 52 = .ok (.istore 4, 2) := by decide +kernel
theorem dX12_layTable_54 : decode bX12_layTable 54 = .ok (.iload 4, 2) := by decide +kernel
theorem dX12_layTable_56 : decode bX12_layTable 56 = .ok (.ifCond .le 117, 3) := by decide +kernel
theorem dX12_layTable_59 : decode bX12_layTable 59 = .ok (.sipush (-300), 3) := by decide +kernel
theorem dX12_layTable_62 : decode bX12_layTable 62 = .ok (.istore 5, 2) := by decide +kernel
theorem dX12_layTable_64 : decode bX12_layTable 64 = .ok (.iload 5, 2) := by decide +kernel
theorem dX12_layTable_66 : decode bX12_layTable 66 = .ok (.sipush 300, 3) := by decide +kernel
theorem dX12_layTable_69 : decode bX12_layTable 69 = .ok (.if_icmp .gt 98, 3) := by decide +kernel
theorem dX12_layTable_72 : decode bX12_layTable 72 = .ok (.aload_n 0, 1) := by decide +kernel
theorem dX12_layTable_73 : decode bX12_layTable 73 = .ok (.iload 4, 2) := by decide +kernel
theorem dX12_layTable_75 : decode bX12_layTable 75 = .ok (.iconst 1, 1) := by decide +kernel
theorem dX12_layTable_76 : decode bX12_layTable 76 = .ok (.iadd, 1) := by decide +kernel
theorem dX12_layTable_77 : decode bX12_layTable 77 = .ok (.iload 5, 2) := by decide +kernel
theorem dX12_layTable_79 : decode bX12_layTable 79 = .ok (.invokevirtual 167, 3) := by decide +kernel
theorem dX12_layTable_82 : decode bX12_layTable 82 = .ok (.istore 6, 2) := by decide +kernel
theorem dX12_layTable_84 : decode bX12_layTable 84 = .ok (.iconst 1, 1) := by decide +kernel
theorem dX12_layTable_85 : decode bX12_layTable 85 = .ok (.istore 7, 2) := by decide +kernel
theorem dX12_layTable_87 : decode bX12_layTable 87 = .ok (.iload 7, 2) := by decide +kernel
theorem dX12_layTable_89 : decode bX12_layTable 89 = .ok (.iconst 3, 1) := by decide +kernel
theorem dX12_layTable_90 : decode bX12_layTable 90 = .ok (.if_icmp .gt 49, 3) := by decide +kernel
theorem dX12_layTable_93 : decode bX12_layTable 93 = .ok (.iload_n 1, 1) := by decide +kernel
theorem dX12_layTable_94 : decode bX12_layTable 94 = .ok (.iload 4, 2) := by decide +kernel
theorem dX12_layTable_96 : decode bX12_layTable 96 = .ok (.iconst 1, 1) := by decide +kernel
theorem dX12_layTable_97 : decode bX12_layTable 97 = .ok (.isub, 1) := by decide +kernel
theorem dX12_layTable_98 : decode bX12_layTable 98 = .ok (.invokestatic 170, 3) := by decide +kernel
theorem dX12_layTable_101 : decode bX12_layTable 101 = .ok (.ifCond .eq 38, 3) := by decide +kernel
theorem dX12_layTable_104 : decode bX12_layTable 104 = .ok (.aload_n 0, 1) := by decide +kernel
theorem dX12_layTable_105 : decode bX12_layTable 105 = .ok (.iload 4, 2) := by decide +kernel
theorem dX12_layTable_107 : decode bX12_layTable 107 = .ok (.iload 7, 2) := by decide +kernel
theorem dX12_layTable_109 : decode bX12_layTable 109 = .ok (.iload 5, 2) := by decide +kernel
theorem dX12_layTable_111 : decode bX12_layTable 111 = .ok (.iload_n 2, 1) := by decide +kernel
theorem dX12_layTable_112 : decode bX12_layTable 112 = .ok (.invokevirtual 174, 3) := by decide +kernel
theorem dX12_layTable_115 : decode bX12_layTable 115 = .ok (.istore 8, 2) := by decide +kernel
theorem dX12_layTable_117 : decode bX12_layTable 117 = .ok (.iload 8, 2) := by decide +kernel
theorem dX12_layTable_119 : decode bX12_layTable 119 = .ok (.iload 6, 2) := by decide +kernel
theorem dX12_layTable_121 : decode bX12_layTable 121 = .ok (.if_icmp .ge 8, 3) := by decide +kernel
theorem dX12_layTable_124 : decode bX12_layTable 124 = .ok (.iload 8, 2) := by decide +kernel
theorem dX12_layTable_126 : decode bX12_layTable 126 = .ok (.goto 5, 3) := by decide +kernel
theorem dX12_layTable_129 : decode bX12_layTable 129 = .ok (.iload 6, 2) := by decide +kernel
theorem dX12_layTable_131 : decode bX12_layTable 131 = .ok (.istore 6, 2) := by decide +kernel
theorem dX12_layTable_133 : decode bX12_layTable 133 = .ok (.iinc 7 1, 3) := by decide +kernel
theorem dX12_layTable_136 : decode bX12_layTable 136 = .ok (.goto (-49), 3) := by decide +kernel
theorem dX12_layTable_139 : decode bX12_layTable 139 = .ok (.aload_n 0, 1) := by decide +kernel
theorem dX12_layTable_140 : decode bX12_layTable 140 = .ok (.getfield 38, 3) := by decide +kernel
theorem dX12_layTable_143 : decode bX12_layTable 143 = .ok (.sipush 601, 3) := by decide +kernel
theorem dX12_layTable_146 : decode bX12_layTable 146 = .ok (.iload 4, 2) := by decide +kernel
theorem dX12_layTable_148 : decode bX12_layTable 148 = .ok (.iconst 1, 1) := by decide +kernel
theorem dX12_layTable_149 : decode bX12_layTable 149 = .ok (.isub, 1) := by decide +kernel
theorem dX12_layTable_150 : decode bX12_layTable 150 = .ok (.imul, 1) := by decide +kernel
theorem dX12_layTable_151 : decode bX12_layTable 151 = .ok (.iload 5, 2) := by decide +kernel
theorem dX12_layTable_153 : decode bX12_layTable 153 = .ok (.iadd, 1) := by decide +kernel
theorem dX12_layTable_154 : decode bX12_layTable 154 = .ok (.sipush 300, 3) := by decide +kernel
theorem dX12_layTable_157 : decode bX12_layTable 157 = .ok (.iadd, 1) := by decide +kernel
theorem dX12_layTable_158 : decode bX12_layTable 158 = .ok (.iload 6, 2) := by decide +kernel
theorem dX12_layTable_160 : decode bX12_layTable 160 = .ok (.iastore, 1) := by decide +kernel
theorem dX12_layTable_161 : decode bX12_layTable 161 = .ok (.iinc 5 1, 3) := by decide +kernel
theorem dX12_layTable_164 : decode bX12_layTable 164 = .ok (.goto (-100), 3) := by decide +kernel
theorem dX12_layTable_167 : decode bX12_layTable 167 = .ok (.iinc 4 (-1), 3) := by decide +kernel
theorem dX12_layTable_170 : decode bX12_layTable 170 = .ok (.goto (-116), 3) := by decide +kernel
theorem dX12_layTable_173 : decode bX12_layTable 173 = .ok (.return_, 1) := by decide +kernel
section
variable {p : Program} {l : Launch} {e : Env} {s : State} {m : MethodId} {args : Array Value} {below : List Frame} {meth : Method} {c : Code} {G : GG} {n : Nat} {h' : Hp} {rv : Unit}
set_option maxHeartbeats 4000000
set_option maxRecDepth 100000
theorem j_X12_layTable_139 (C0 : Cx p s m args meth c G bX12_layTable RX12 9 none "layTable") (hN : NT ≤ n) {k54 : Hp → Nat → Int32 → Int32 → Int32 → Option (Unit × Hp)} {k64 : Hp → Nat → Int32 → Int32 → Int32 → Int32 → Option (Unit × Hp)} (ih54 : ∀ {H : Heap} {locs : List Loc} {ls : Array Slot} {h : Hp} {x0 : Nat} {x1 : Int32} {x2 : Int32} {x4 : Int32}, XW G n h s 0 H locs → lv_has ls 9 [(0, .ref (bs G + x0)), (1, .int x1), (2, .int x2), (4, .int x4)] → kd x0 = 12 → k54 h x0 x1 x2 x4 = some (rv, h') → W p l e (rmC 3 0 0) s m args below meth c H locs 0 0 (MQ below (QP G n h' none) args s 0 0 (Ab G)) (F0 m 54 ls [])) (ih64 : ∀ {H : Heap} {locs : List Loc} {ls : Array Slot} {h : Hp} {x0 : Nat} {x1 : Int32} {x2 : Int32} {x4 : Int32} {x5 : Int32}, XW G n h s 0 H locs → lv_has ls 9 [(0, .ref (bs G + x0)), (1, .int x1), (2, .int x2), (4, .int x4), (5, .int x5)] → kd x0 = 12 → k64 h x0 x1 x2 x4 x5 = some (rv, h') → W p l e (rmC 3 0 0) s m args below meth c H locs 0 0 (MQ below (QP G n h' none) args s 0 0 (Ab G)) (F0 m 64 ls [])) {H : Heap} {locs : List Loc} {ls : Array Slot} {h : Hp} {x0 : Nat} {x1 : Int32} {x2 : Int32} {x4 : Int32} {x5 : Int32} {x6 : Int32} (X : XW G n h s 0 H locs) (hl : lv_has ls 9 [(0, .ref (bs G + x0)), (1, .int x1), (2, .int x2), (4, .int x4), (5, .int x5), (6, .int x6)]) (o0 : kd x0 = 12) (hf : f_X12_layTable_139 k54 k64 h x0 x1 x2 x4 x5 x6 = some (rv, h')) : W p l e (rmC 3 0 0) s m args below meth c H locs 0 0 (MQ below (QP G n h' none) args s 0 0 (Ab G)) (F0 m 139 ls []) := by
  obtain ⟨hx, hb, hr, hml, hown, hts, hK, hlocks, hnm⟩ := id C0
  unfold f_X12_layTable_139 at hf
  refine lv_aload_n hx hb dX12_layTable_139 rfl (lv_at hl 0 rfl) ?_
  obtain ⟨g1, hf⟩ := gd_e hf
  refine g_R hx hb hts hown hK X o0 hN g1 fl_X12_38 (by decide) rfl (by decide) dX12_layTable_140 ?_
  refine lv_sipush (v := (601 : Int32)) hx hb dX12_layTable_143 (by decide) ?_
  refine lv_iload hx hb dX12_layTable_146 (lv_at hl 3 rfl) ?_
  refine lv_iconst (v := (1 : Int32)) hx hb dX12_layTable_148 (by decide) ?_
  refine lv_isub hx hb dX12_layTable_149 ?_
  refine lv_imul hx hb dX12_layTable_150 ?_
  refine lv_iload hx hb dX12_layTable_151 (lv_at hl 4 rfl) ?_
  refine lv_iadd hx hb dX12_layTable_153 ?_
  refine lv_sipush (v := (300 : Int32)) hx hb dX12_layTable_154 (by decide) ?_
  refine lv_iadd hx hb dX12_layTable_157 ?_
  refine lv_iload hx hb dX12_layTable_158 (lv_at hl 5 rfl) ?_
  obtain ⟨g2, hf⟩ := gd_e hf
  refine g_is hx hb hK X g1 hN g2 (by decide) dX12_layTable_160 (fun H locs X => ?_)
  obtain ⟨h3, e4, hf⟩ := lt_e hf
  rw [← e4] at X
  refine lv_iinc (v := (x5 + (1 : Int32))) (lv' := [(5, .int (x5 + (1 : Int32))), (0, .ref (bs G + x0)), (1, .int x1), (2, .int x2), (4, .int x4), (6, .int x6)]) hx hb dX12_layTable_161 hl (k := 4) rfl rfl (by decide) rfl (fun ls hl => ?_)
  refine lv_goto (tgt := 64) hx hb dX12_layTable_164 (by decide) ?_
  exact ih64 X (lv_sub hl [1, 2, 3, 4, 0] rfl) o0 hf
theorem j_X12_layTable_87 (C0 : Cx p s m args meth c G bX12_layTable RX12 9 none "layTable") (hN : NT ≤ n) {k54 : Hp → Nat → Int32 → Int32 → Int32 → Option (Unit × Hp)} {k64 : Hp → Nat → Int32 → Int32 → Int32 → Int32 → Option (Unit × Hp)} (ih54 : ∀ {H : Heap} {locs : List Loc} {ls : Array Slot} {h : Hp} {x0 : Nat} {x1 : Int32} {x2 : Int32} {x4 : Int32}, XW G n h s 0 H locs → lv_has ls 9 [(0, .ref (bs G + x0)), (1, .int x1), (2, .int x2), (4, .int x4)] → kd x0 = 12 → k54 h x0 x1 x2 x4 = some (rv, h') → W p l e (rmC 3 0 0) s m args below meth c H locs 0 0 (MQ below (QP G n h' none) args s 0 0 (Ab G)) (F0 m 54 ls [])) (ih64 : ∀ {H : Heap} {locs : List Loc} {ls : Array Slot} {h : Hp} {x0 : Nat} {x1 : Int32} {x2 : Int32} {x4 : Int32} {x5 : Int32}, XW G n h s 0 H locs → lv_has ls 9 [(0, .ref (bs G + x0)), (1, .int x1), (2, .int x2), (4, .int x4), (5, .int x5)] → kd x0 = 12 → k64 h x0 x1 x2 x4 x5 = some (rv, h') → W p l e (rmC 3 0 0) s m args below meth c H locs 0 0 (MQ below (QP G n h' none) args s 0 0 (Ab G)) (F0 m 64 ls [])) : ∀ (fu : Nat), ∀ {H : Heap} {locs : List Loc} {ls : Array Slot} {h : Hp} {x0 : Nat} {x1 : Int32} {x2 : Int32} {x4 : Int32} {x5 : Int32} {x6 : Int32} {x7 : Int32}, XW G n h s 0 H locs → lv_has ls 9 [(0, .ref (bs G + x0)), (1, .int x1), (2, .int x2), (4, .int x4), (5, .int x5), (6, .int x6), (7, .int x7)] → kd x0 = 12 → f_X12_layTable_87 k54 k64 fu h x0 x1 x2 x4 x5 x6 x7 = some (rv, h') → W p l e (rmC 3 0 0) s m args below meth c H locs 0 0 (MQ below (QP G n h' none) args s 0 0 (Ab G)) (F0 m 87 ls []) := by
  obtain ⟨hx, hb, hr, hml, hown, hts, hK, hlocks, hnm⟩ := id C0
  intro fu
  induction fu with
  | zero => intro H locs ls h x0 x1 x2 x4 x5 x6 x7 X hl o0 hf; cases hf
  | succ fu ih =>
    intro H locs ls h x0 x1 x2 x4 x5 x6 x7 X hl o0 hf
    rw [f_X12_layTable_87] at hf
    refine lv_iload hx hb dX12_layTable_87 (lv_at hl 6 rfl) ?_
    refine lv_iconst (v := (3 : Int32)) hx hb dX12_layTable_89 (by decide) ?_
    refine lv_icmp_gt (tgt := 139) hx hb dX12_layTable_90 (by decide) (fun c90 => ?_) (fun c90 => ?_)
    · have hf := ite_t hf c90
      exact j_X12_layTable_139 C0 hN @ih54 @ih64 X (lv_sub hl [0, 1, 2, 3, 4, 5] rfl) o0 hf
    · have hf := ite_f hf c90
      refine lv_iload_n hx hb dX12_layTable_93 rfl (lv_at hl 1 rfl) ?_
      refine lv_iload hx hb dX12_layTable_94 (lv_at hl 3 rfl) ?_
      refine lv_iconst (v := (1 : Int32)) hx hb dX12_layTable_96 (by decide) ?_
      refine lv_isub hx hb dX12_layTable_97 ?_
      obtain ⟨r1, h2, q3, hf⟩ := bd_e hf
      refine c_S0 (As := [.int x1, .int (x4 - (1 : Int32))]) (rest := []) (st1 := [.int r1]) hx hb hml hown hts hK X (k_X12_has l G n hN q3) lc_X12_has ls_X12_170 (by decide) rfl hl.1 (Nat.le_of_ble_eq_true rfl) dX12_layTable_98 rfl (fun H locs X => ?_)
      refine lv_if_eq (tgt := 139) hx hb dX12_layTable_101 (by decide) (fun c101 => ?_) (fun c101 => ?_)
      · have hf := ite_t hf c101
        exact j_X12_layTable_139 C0 hN @ih54 @ih64 X (lv_sub hl [0, 1, 2, 3, 4, 5] rfl) o0 hf
      · have hf := ite_f hf c101
        refine lv_aload_n hx hb dX12_layTable_104 rfl (lv_at hl 0 rfl) ?_
        refine lv_iload hx hb dX12_layTable_105 (lv_at hl 3 rfl) ?_
        refine lv_iload hx hb dX12_layTable_107 (lv_at hl 6 rfl) ?_
        refine lv_iload hx hb dX12_layTable_109 (lv_at hl 4 rfl) ?_
        refine lv_iload_n hx hb dX12_layTable_111 rfl (lv_at hl 2 rfl) ?_
        obtain ⟨r4, h5, q6, hf⟩ := bd_e hf
        refine c_V0 (As := [.int x4, .int x7, .int x5, .int x2]) (rest := []) (st1 := [.int r4]) hx hb hml hown hts hK X (k_X12_by l G n hN q6) o0 hN lc_X12_by lv_X12_174 (ci := 12) rfl rfl (by decide) rfl hl.1 (Nat.le_of_ble_eq_true rfl) dX12_layTable_112 rfl (fun H locs X => ?_)
        refine lv_istore (lv' := [(8, .int r4), (0, .ref (bs G + x0)), (1, .int x1), (2, .int x2), (4, .int x4), (5, .int x5), (6, .int x6), (7, .int x7)]) hx hb dX12_layTable_115 hl (by decide) rfl (fun ls hl => ?_)
        refine lv_iload hx hb dX12_layTable_117 (lv_at hl 0 rfl) ?_
        refine lv_iload hx hb dX12_layTable_119 (lv_at hl 6 rfl) ?_
        refine lv_icmp_ge (tgt := 129) hx hb dX12_layTable_121 (by decide) (fun c121 => ?_) (fun c121 => ?_)
        · have hf := ite_t hf c121
          refine lv_iload hx hb dX12_layTable_129 (lv_at hl 6 rfl) ?_
          refine lv_istore (lv' := [(6, .int x6), (8, .int r4), (0, .ref (bs G + x0)), (1, .int x1), (2, .int x2), (4, .int x4), (5, .int x5), (7, .int x7)]) hx hb dX12_layTable_131 hl (by decide) rfl (fun ls hl => ?_)
          refine lv_iinc (v := (x7 + (1 : Int32))) (lv' := [(7, .int (x7 + (1 : Int32))), (6, .int x6), (8, .int r4), (0, .ref (bs G + x0)), (1, .int x1), (2, .int x2), (4, .int x4), (5, .int x5)]) hx hb dX12_layTable_133 hl (k := 7) rfl rfl (by decide) rfl (fun ls hl => ?_)
          refine lv_goto (tgt := 87) hx hb dX12_layTable_136 (by decide) ?_
          exact ih X (lv_sub hl [3, 4, 5, 6, 7, 1, 0] rfl) o0 hf
        · have hf := ite_f hf c121
          refine lv_iload hx hb dX12_layTable_124 (lv_at hl 0 rfl) ?_
          refine lv_goto (tgt := 131) hx hb dX12_layTable_126 (by decide) ?_
          refine lv_istore (lv' := [(6, .int r4), (8, .int r4), (0, .ref (bs G + x0)), (1, .int x1), (2, .int x2), (4, .int x4), (5, .int x5), (7, .int x7)]) hx hb dX12_layTable_131 hl (by decide) rfl (fun ls hl => ?_)
          refine lv_iinc (v := (x7 + (1 : Int32))) (lv' := [(7, .int (x7 + (1 : Int32))), (6, .int r4), (8, .int r4), (0, .ref (bs G + x0)), (1, .int x1), (2, .int x2), (4, .int x4), (5, .int x5)]) hx hb dX12_layTable_133 hl (k := 7) rfl rfl (by decide) rfl (fun ls hl => ?_)
          refine lv_goto (tgt := 87) hx hb dX12_layTable_136 (by decide) ?_
          exact ih X (lv_sub hl [3, 4, 5, 6, 7, 1, 0] rfl) o0 hf
theorem j_X12_layTable_64 (C0 : Cx p s m args meth c G bX12_layTable RX12 9 none "layTable") (hN : NT ≤ n) {k54 : Hp → Nat → Int32 → Int32 → Int32 → Option (Unit × Hp)} (ih54 : ∀ {H : Heap} {locs : List Loc} {ls : Array Slot} {h : Hp} {x0 : Nat} {x1 : Int32} {x2 : Int32} {x4 : Int32}, XW G n h s 0 H locs → lv_has ls 9 [(0, .ref (bs G + x0)), (1, .int x1), (2, .int x2), (4, .int x4)] → kd x0 = 12 → k54 h x0 x1 x2 x4 = some (rv, h') → W p l e (rmC 3 0 0) s m args below meth c H locs 0 0 (MQ below (QP G n h' none) args s 0 0 (Ab G)) (F0 m 54 ls [])) : ∀ (fu : Nat), ∀ {H : Heap} {locs : List Loc} {ls : Array Slot} {h : Hp} {x0 : Nat} {x1 : Int32} {x2 : Int32} {x4 : Int32} {x5 : Int32}, XW G n h s 0 H locs → lv_has ls 9 [(0, .ref (bs G + x0)), (1, .int x1), (2, .int x2), (4, .int x4), (5, .int x5)] → kd x0 = 12 → f_X12_layTable_64 k54 fu h x0 x1 x2 x4 x5 = some (rv, h') → W p l e (rmC 3 0 0) s m args below meth c H locs 0 0 (MQ below (QP G n h' none) args s 0 0 (Ab G)) (F0 m 64 ls []) := by
  obtain ⟨hx, hb, hr, hml, hown, hts, hK, hlocks, hnm⟩ := id C0
  intro fu
  induction fu with
  | zero => intro H locs ls h x0 x1 x2 x4 x5 X hl o0 hf; cases hf
  | succ fu ih =>
    intro H locs ls h x0 x1 x2 x4 x5 X hl o0 hf
    rw [f_X12_layTable_64] at hf
    refine lv_iload hx hb dX12_layTable_64 (lv_at hl 4 rfl) ?_
    refine lv_sipush (v := (300 : Int32)) hx hb dX12_layTable_66 (by decide) ?_
    refine lv_icmp_gt (tgt := 167) hx hb dX12_layTable_69 (by decide) (fun c69 => ?_) (fun c69 => ?_)
    · have hf := ite_t hf c69
      refine lv_iinc (v := (x4 + (-1 : Int32))) (lv' := [(4, .int (x4 + (-1 : Int32))), (0, .ref (bs G + x0)), (1, .int x1), (2, .int x2), (5, .int x5)]) hx hb dX12_layTable_167 hl (k := 3) rfl rfl (by decide) rfl (fun ls hl => ?_)
      refine lv_goto (tgt := 54) hx hb dX12_layTable_170 (by decide) ?_
      exact ih54 X (lv_sub hl [1, 2, 3, 0] rfl) o0 hf
    · have hf := ite_f hf c69
      refine lv_aload_n hx hb dX12_layTable_72 rfl (lv_at hl 0 rfl) ?_
      refine lv_iload hx hb dX12_layTable_73 (lv_at hl 3 rfl) ?_
      refine lv_iconst (v := (1 : Int32)) hx hb dX12_layTable_75 (by decide) ?_
      refine lv_iadd hx hb dX12_layTable_76 ?_
      refine lv_iload hx hb dX12_layTable_77 (lv_at hl 4 rfl) ?_
      obtain ⟨r1, h2, q3, hf⟩ := bd_e hf
      refine c_V0 (As := [.int (x4 + (1 : Int32)), .int x5]) (rest := []) (st1 := [.int r1]) hx hb hml hown hts hK X (k_X12_laid l G n hN q3) o0 hN lc_X12_laid lv_X12_167 (ci := 12) rfl rfl (by decide) rfl hl.1 (Nat.le_of_ble_eq_true rfl) dX12_layTable_79 rfl (fun H locs X => ?_)
      refine lv_istore (lv' := [(6, .int r1), (0, .ref (bs G + x0)), (1, .int x1), (2, .int x2), (4, .int x4), (5, .int x5)]) hx hb dX12_layTable_82 hl (by decide) rfl (fun ls hl => ?_)
      refine lv_iconst (v := (1 : Int32)) hx hb dX12_layTable_84 (by decide) ?_
      refine lv_istore (lv' := [(7, .int (1 : Int32)), (6, .int r1), (0, .ref (bs G + x0)), (1, .int x1), (2, .int x2), (4, .int x4), (5, .int x5)]) hx hb dX12_layTable_85 hl (by decide) rfl (fun ls hl => ?_)
      exact j_X12_layTable_87 C0 hN @ih54 @ih FU X (lv_sub hl [2, 3, 4, 5, 6, 1, 0] rfl) o0 hf
theorem j_X12_layTable_54 (C0 : Cx p s m args meth c G bX12_layTable RX12 9 none "layTable") (hN : NT ≤ n) : ∀ (fu : Nat), ∀ {H : Heap} {locs : List Loc} {ls : Array Slot} {h : Hp} {x0 : Nat} {x1 : Int32} {x2 : Int32} {x4 : Int32}, XW G n h s 0 H locs → lv_has ls 9 [(0, .ref (bs G + x0)), (1, .int x1), (2, .int x2), (4, .int x4)] → kd x0 = 12 → f_X12_layTable_54 fu h x0 x1 x2 x4 = some (rv, h') → W p l e (rmC 3 0 0) s m args below meth c H locs 0 0 (MQ below (QP G n h' none) args s 0 0 (Ab G)) (F0 m 54 ls []) := by
  obtain ⟨hx, hb, hr, hml, hown, hts, hK, hlocks, hnm⟩ := id C0
  intro fu
  induction fu with
  | zero => intro H locs ls h x0 x1 x2 x4 X hl o0 hf; cases hf
  | succ fu ih =>
    intro H locs ls h x0 x1 x2 x4 X hl o0 hf
    rw [f_X12_layTable_54] at hf
    refine lv_iload hx hb dX12_layTable_54 (lv_at hl 3 rfl) ?_
    refine lv_if_le (tgt := 173) hx hb dX12_layTable_56 (by decide) (fun c56 => ?_) (fun c56 => ?_)
    · have hf := ite_t hf c56
      exact r_V hx hb hr hlocks X hf dX12_layTable_173
    · have hf := ite_f hf c56
      refine lv_sipush (v := (-300 : Int32)) hx hb dX12_layTable_59 (by decide) ?_
      refine lv_istore (lv' := [(5, .int (-300 : Int32)), (0, .ref (bs G + x0)), (1, .int x1), (2, .int x2), (4, .int x4)]) hx hb dX12_layTable_62 hl (by decide) rfl (fun ls hl => ?_)
      exact j_X12_layTable_64 C0 hN @ih FU X (lv_sub hl [1, 2, 3, 4, 0] rfl) o0 hf
theorem j_X12_layTable_44 (C0 : Cx p s m args meth c G bX12_layTable RX12 9 none "layTable") (hN : NT ≤ n) {k10 : Hp → Nat → Int32 → Int32 → Int32 → Int32 → Option (Unit × Hp)} (ih10 : ∀ {H : Heap} {locs : List Loc} {ls : Array Slot} {h : Hp} {x0 : Nat} {x1 : Int32} {x2 : Int32} {x3 : Int32} {x4 : Int32}, XW G n h s 0 H locs → lv_has ls 9 [(0, .ref (bs G + x0)), (1, .int x1), (2, .int x2), (3, .int x3), (4, .int x4)] → kd x0 = 12 → k10 h x0 x1 x2 x3 x4 = some (rv, h') → W p l e (rmC 3 0 0) s m args below meth c H locs 0 0 (MQ below (QP G n h' none) args s 0 0 (Ab G)) (F0 m 10 ls [])) {H : Heap} {locs : List Loc} {ls : Array Slot} {h : Hp} {x0 : Nat} {x1 : Int32} {x2 : Int32} {x3 : Int32} {x4 : Int32} {t0 : Nat} {t1 : Int32} {t2 : Int32} (X : XW G n h s 0 H locs) (hl : lv_has ls 9 [(0, .ref (bs G + x0)), (1, .int x1), (2, .int x2), (3, .int x3), (4, .int x4)]) (o0 : kd x0 = 12) (ot0 : kd t0 = 16) (hf : f_X12_layTable_44 k10 h x0 x1 x2 x3 x4 t0 t1 t2 = some (rv, h')) : W p l e (rmC 3 0 0) s m args below meth c H locs 0 0 (MQ below (QP G n h' none) args s 0 0 (Ab G)) (F0 m 44 ls [.int t2, .int t1, .ref (bs G + t0)]) := by
  obtain ⟨hx, hb, hr, hml, hown, hts, hK, hlocks, hnm⟩ := id C0
  unfold f_X12_layTable_44 at hf
  obtain ⟨g1, hf⟩ := gd_e hf
  refine g_is hx hb hK X ot0 hN g1 (by decide) dX12_layTable_44 (fun H locs X => ?_)
  obtain ⟨h2, e3, hf⟩ := lt_e hf
  rw [← e3] at X
  refine lv_iinc (v := (x4 + (1 : Int32))) (lv' := [(4, .int (x4 + (1 : Int32))), (0, .ref (bs G + x0)), (1, .int x1), (2, .int x2), (3, .int x3)]) hx hb dX12_layTable_45 hl (k := 4) rfl rfl (by decide) rfl (fun ls hl => ?_)
  refine lv_goto (tgt := 10) hx hb dX12_layTable_48 (by decide) ?_
  exact ih10 X (lv_sub hl [1, 2, 3, 4, 0] rfl) o0 hf
theorem j_X12_layTable_10 (C0 : Cx p s m args meth c G bX12_layTable RX12 9 none "layTable") (hN : NT ≤ n) : ∀ (fu : Nat), ∀ {H : Heap} {locs : List Loc} {ls : Array Slot} {h : Hp} {x0 : Nat} {x1 : Int32} {x2 : Int32} {x3 : Int32} {x4 : Int32}, XW G n h s 0 H locs → lv_has ls 9 [(0, .ref (bs G + x0)), (1, .int x1), (2, .int x2), (3, .int x3), (4, .int x4)] → kd x0 = 12 → f_X12_layTable_10 fu h x0 x1 x2 x3 x4 = some (rv, h') → W p l e (rmC 3 0 0) s m args below meth c H locs 0 0 (MQ below (QP G n h' none) args s 0 0 (Ab G)) (F0 m 10 ls []) := by
  obtain ⟨hx, hb, hr, hml, hown, hts, hK, hlocks, hnm⟩ := id C0
  intro fu
  induction fu with
  | zero => intro H locs ls h x0 x1 x2 x3 x4 X hl o0 hf; cases hf
  | succ fu ih =>
    intro H locs ls h x0 x1 x2 x3 x4 X hl o0 hf
    rw [f_X12_layTable_10] at hf
    refine lv_iload hx hb dX12_layTable_10 (lv_at hl 4 rfl) ?_
    refine lv_sipush (v := (601 : Int32)) hx hb dX12_layTable_12 (by decide) ?_
    refine lv_icmp_ge (tgt := 51) hx hb dX12_layTable_15 (by decide) (fun c15 => ?_) (fun c15 => ?_)
    · have hf := ite_t hf c15
      refine lv_iload_n hx hb dX12_layTable_51 rfl (lv_at hl 3 rfl) ?_
      refine lv_istore (lv' := [(4, .int x3), (0, .ref (bs G + x0)), (1, .int x1), (2, .int x2), (3, .int x3)]) hx hb dX12_layTable_52 hl (by decide) rfl (fun ls hl => ?_)
      exact j_X12_layTable_54 C0 hN FU X (lv_sub hl [1, 2, 3, 0] rfl) o0 hf
    · have hf := ite_f hf c15
      refine lv_aload_n hx hb dX12_layTable_18 rfl (lv_at hl 0 rfl) ?_
      obtain ⟨g1, hf⟩ := gd_e hf
      refine g_R hx hb hts hown hK X o0 hN g1 fl_X12_38 (by decide) rfl (by decide) dX12_layTable_19 ?_
      refine lv_sipush (v := (601 : Int32)) hx hb dX12_layTable_22 (by decide) ?_
      refine lv_iload_n hx hb dX12_layTable_25 rfl (lv_at hl 3 rfl) ?_
      refine lv_imul hx hb dX12_layTable_26 ?_
      refine lv_iload hx hb dX12_layTable_27 (lv_at hl 4 rfl) ?_
      refine lv_iadd hx hb dX12_layTable_29 ?_
      refine lv_iload hx hb dX12_layTable_30 (lv_at hl 4 rfl) ?_
      refine lv_sipush (v := (300 : Int32)) hx hb dX12_layTable_32 (by decide) ?_
      refine lv_icmp_ne (tgt := 42) hx hb dX12_layTable_35 (by decide) (fun c35 => ?_) (fun c35 => ?_)
      · have hf := ite_f hf c35
        refine lv_ldc hx hb hown (hts _ cn_X12_166) dX12_layTable_42 ?_
        exact j_X12_layTable_44 C0 hN @ih X (lv_sub hl [0, 1, 2, 3, 4] rfl) o0 g1 hf
      · have hf := ite_t hf c35
        refine lv_iconst (v := (0 : Int32)) hx hb dX12_layTable_38 (by decide) ?_
        refine lv_goto (tgt := 44) hx hb dX12_layTable_39 (by decide) ?_
        exact j_X12_layTable_44 C0 hN @ih X (lv_sub hl [0, 1, 2, 3, 4] rfl) o0 g1 hf
theorem k_X12_layTable (l : Launch) (G : GG) (n : Nat) (hN : NT ≤ n) {h h' : Hp} {x0 : Nat} {x1 : Int32} {x2 : Int32} {rv : Unit} (hf : f_X12_layTable h x0 x1 x2 = some (rv, h')) : CT l G n n yX12_layTable (.code yX12_layTable bX12_layTable 9 none) 3 0 0 [.ref (bs G + x0), .int x1, .int x2] h h' none := by
  refine ct_of (maxL := 9) (ret := none) (bytes := bX12_layTable) (by decide) (Nat.le_of_ble_eq_true rfl) (fun p e s m below meth c C0 X ls hl => ?_)
  have hl : lv_has ls 9 [(0, .ref (bs G + x0)), (1, .int x1), (2, .int x2)] := hl
  obtain ⟨hx, hb, hr, hml, hown, hts, hK, hlocks, hnm⟩ := id C0
  unfold f_X12_layTable at hf
  obtain ⟨o0, hf⟩ := gd_e hf
  refine lv_aload_n hx hb dX12_layTable_0 rfl (lv_at hl 0 rfl) ?_
  obtain ⟨g1, hf⟩ := gd_e hf
  refine g_R hx hb hts hown hK X o0 hN g1 fl_X12_13 (by decide) rfl (by decide) dX12_layTable_1 ?_
  refine lv_iconst (v := (0 : Int32)) hx hb dX12_layTable_4 (by decide) ?_
  obtain ⟨g2, hf⟩ := gd_e hf
  refine g_ia hx hb hK X g1 hN g2 (by decide) dX12_layTable_5 ?_
  refine lv_istore_n (lv' := [(3, .int (h.1 (h.2 x0 1) (0 : Int32).toNatClampNeg)), (0, .ref (bs G + x0)), (1, .int x1), (2, .int x2)]) hx hb dX12_layTable_6 rfl hl (by decide) rfl (fun ls hl => ?_)
  refine lv_iconst (v := (0 : Int32)) hx hb dX12_layTable_7 (by decide) ?_
  refine lv_istore (lv' := [(4, .int (0 : Int32)), (3, .int (h.1 (h.2 x0 1) (0 : Int32).toNatClampNeg)), (0, .ref (bs G + x0)), (1, .int x1), (2, .int x2)]) hx hb dX12_layTable_8 hl (by decide) rfl (fun ls hl => ?_)
  exact j_X12_layTable_10 C0 hN FU X (lv_sub hl [2, 3, 4, 1, 0] rfl) o0 hf
end
theorem dX12_bestOf_0 : decode bX12_bestOf 0 = .ok (.aload_n 0, 1) := by decide +kernel
theorem dX12_bestOf_1 : decode bX12_bestOf 1 = .ok (.iconst 0, 1) := by decide +kernel
theorem dX12_bestOf_2 : decode bX12_bestOf 2 = .ok (.putfield 178, 3) := by decide +kernel
theorem dX12_bestOf_5 : decode bX12_bestOf 5 = .ok (.aload_n 0, 1) := by decide +kernel
theorem dX12_bestOf_6 : decode bX12_bestOf 6 = .ok (.iconst 0, 1) := by decide +kernel
theorem dX12_bestOf_7 : decode bX12_bestOf 7 = .ok (.putfield 181, 3) := by decide +kernel
theorem dX12_bestOf_10 : decode bX12_bestOf 10 = .ok (.aload_n 0, 1) := by decide +kernel
theorem dX12_bestOf_11 : decode bX12_bestOf 11 = .ok (.iconst 0, 1) := by decide +kernel
theorem dX12_bestOf_12 : decode bX12_bestOf 12 = .ok (.putfield 184, 3) := by decide +kernel
theorem dX12_bestOf_15 : decode bX12_bestOf 15 = .ok (.iload_n 3, 1) := by decide +kernel
theorem dX12_bestOf_16 : decode bX12_bestOf 16 = .ok (.ifCond .ne 71, 3) := by decide +kernel
theorem dX12_bestOf_19 : decode bX12_bestOf 19 = .ok (.iload_n 2, 1) := by decide +kernel
theorem dX12_bestOf_20 : decode bX12_bestOf 20 = .ok (.aload_n 0, 1) := by decide +kernel
theorem dX12_bestOf_21 : decode bX12_bestOf 21 = .ok (.getfield 13, 3) := by decide +kernel
theorem dX12_bestOf_24 : decode bX12_bestOf 24 = .ok (.iconst 0, 1) := by decide +kernel
theorem dX12_bestOf_25 : decode bX12_bestOf 25 = .ok (.iaload, 1) := by decide +kernel
theorem dX12_bestOf_26 : decode bX12_bestOf 26 = .ok (.if_icmp .gt 17, 3) := by decide +kernel
theorem dX12_bestOf_29 : decode bX12_bestOf 29 = .ok (.iload_n 1, 1) := by decide +kernel
theorem dX12_bestOf_30 : decode bX12_bestOf 30 = .ok (.iload_n 2, 1) := by decide +kernel
theorem dX12_bestOf_31 : decode bX12_bestOf 31 = .ok (.iconst 1, 1) := by decide +kernel
theorem dX12_bestOf_32 : decode bX12_bestOf 32 = .ok (.isub, 1) := by decide +kernel
theorem dX12_bestOf_33 : decode bX12_bestOf 33 = .ok (.invokestatic 170, 3) := by decide +kernel
theorem dX12_bestOf_36 : decode bX12_bestOf 36 = .ok (.ifCond .eq 7, 3) := by decide +kernel
theorem dX12_bestOf_39 : decode bX12_bestOf 39 = .ok (.iconst 1, 1) := by decide +kernel
theorem dX12_bestOf_40 : decode bX12_bestOf 40 = .ok (.goto 4, 3) := by decide +kernel
theorem dX12_bestOf_43 : decode bX12_bestOf 43 = .ok (.iconst 0, 1) := by decide +kernel
theorem dX12_bestOf_44 : decode bX12_bestOf 44 = .ok (.istore 4, 2) := by decide +kernel
theorem dX12_bestOf_46 : decode bX12_bestOf 46 = .ok (.aload_n 0, 1) := by decide +kernel
theorem dX12_bestOf_47 : decode bX12_bestOf 47 = .ok (.iload 4, 2) := by decide +kernel
theorem dX12_bestOf_49 : decode bX12_bestOf 49 = .ok (.ifCond .eq 11, 3) := by decide +kernel
theorem dX12_bestOf_52 : decode bX12_bestOf 52 = .ok (.iconst 1, 1) := by decide +kernel
theorem dX12_bestOf_53 : decode bX12_bestOf 53 = .ok (.iload_n 2, 1) := by decide +kernel
theorem dX12_bestOf_54 : decode bX12_bestOf 54 = .ok (.iconst 1, 1) := by decide +kernel
theorem dX12_bestOf_55 : decode bX12_bestOf 55 = .ok (.isub, 1) := by decide +kernel
theorem dX12_bestOf_56 : decode bX12_bestOf 56 = .ok (.ishl, 1) := by decide +kernel
theorem dX12_bestOf_57 : decode bX12_bestOf 57 = .ok (.goto 4, 3) := by decide +kernel
theorem dX12_bestOf_60 : decode bX12_bestOf 60 = .ok (.iconst 0, 1) := by decide +kernel
theorem dX12_bestOf_61 : decode bX12_bestOf 61 = .ok (.putfield 178, 3) := by decide +kernel
theorem dX12_bestOf_64 : decode bX12_bestOf 64 = .ok (.iload 4, 2) := by decide +kernel
theorem dX12_bestOf_66 : decode bX12_bestOf 66 = .ok (.ifCond .eq 18, 3) := by decide +kernel
theorem dX12_bestOf_69 : decode bX12_bestOf 69 = .ok (.sipush 1000, 3) := by decide +kernel
theorem dX12_bestOf_72 : decode bX12_bestOf 72 = .ok (.aload_n 0, 1) := by decide +kernel
theorem dX12_bestOf_73 : decode bX12_bestOf 73 = .ok (.getfield 13, 3) := by decide +kernel
theorem dX12_bestOf_76 : decode bX12_bestOf 76 = .ok (.iconst 4, 1) := by decide +kernel
theorem dX12_bestOf_77 : decode bX12_bestOf 77 = .ok (.iload_n 2, 1) := by decide +kernel
theorem dX12_bestOf_78 : decode bX12_bestOf 78 = .ok (.iadd, 1) := by decide +kernel
theorem dX12_bestOf_79 : decode bX12_bestOf 79 = .ok (.iaload, 1) := by decide +kernel
theorem dX12_bestOf_80 : decode bX12_bestOf 80 = .ok (.iadd, 1) := by decide +kernel
theorem dX12_bestOf_81 : decode bX12_bestOf 81 = .ok (.goto 5, 3) := by decide +kernel
theorem dX12_bestOf_84 : decode bX12_bestOf 84 = .ok (.bipush (-4), 2) := by decide +kernel
theorem dX12_bestOf_86 : decode bX12_bestOf 86 = .ok (.ireturn, 1) := by decide +kernel
theorem dX12_bestOf_87 : decode bX12_bestOf 87 = .ok (.aload_n 0, 1) := by decide +kernel
theorem dX12_bestOf_88 : decode bX12_bestOf 88 = .ok (.iload_n 1, 1) := by decide +kernel
theorem dX12_bestOf_89 : decode bX12_bestOf 89 = .ok (.iload_n 3, 1) := by decide +kernel
theorem dX12_bestOf_90 : decode bX12_bestOf 90 = .ok (.invokevirtual 187, 3) := by decide +kernel
theorem dX12_bestOf_93 : decode bX12_bestOf 93 = .ok (.aload_n 0, 1) := by decide +kernel
theorem dX12_bestOf_94 : decode bX12_bestOf 94 = .ok (.iconst 1, 1) := by decide +kernel
theorem dX12_bestOf_95 : decode bX12_bestOf 95 = .ok (.iload_n 2, 1) := by decide +kernel
theorem dX12_bestOf_96 : decode bX12_bestOf 96 = .ok (.invokevirtual 167, 3) := by decide +kernel
theorem dX12_bestOf_99 : decode bX12_bestOf 99 = .ok (.istore 4, 2) := by decide +kernel
theorem dX12_bestOf_101 : decode bX12_bestOf 101 = .ok (.iload 4, 2) := by decide +kernel
theorem dX12_bestOf_103 : decode bX12_bestOf 103 = .ok (.ldc 166, 2) := by decide +kernel
theorem dX12_bestOf_105 : decode bX12_bestOf 105 = .ok (.if_icmp .lt 6, 3) := by decide +kernel
theorem dX12_bestOf_108 : decode bX12_bestOf 108 = .ok (.bipush (-4), 2) := by decide +kernel
theorem dX12_bestOf_110 : decode bX12_bestOf 110 = .ok (.ireturn, 1) := by decide +kernel
theorem dX12_bestOf_111 : decode bX12_bestOf 111 = .ok (.iload_n 2, 1) := by decide +kernel
theorem dX12_bestOf_112 : decode bX12_bestOf 112 = .ok (.istore 5, 2) := by decide +kernel
theorem dX12_bestOf_114 : decode bX12_bestOf 114 = .ok (.iload 4, 2) := by decide +kernel
theorem dX12_bestOf_116 : decode bX12_bestOf 116 = .ok (.istore 6, 2) := by decide +kernel
theorem dX12_bestOf_118 : decode bX12_bestOf 118 = .ok (.iconst 1, 1) := by decide +kernel
theorem dX12_bestOf_119 : decode bX12_bestOf 119 = .ok (.istore 7, 2) := by decide +kernel
theorem dX12_bestOf_121 : decode bX12_bestOf 121 = .ok (.iload 7, 2) := by decide +kernel
theorem dX12_bestOf_123 : decode bX12_bestOf 123 = .ok (.aload_n 0, 1) := by decide +kernel
theorem dX12_bestOf_124 : decode bX12_bestOf 124 = .ok (.getfield 13, 3) := by decide +kernel
theorem dX12_bestOf_127 : decode bX12_bestOf 127 = .ok (.iconst 0, 1) := by decide +kernel
theorem dX12_bestOf_128 : decode bX12_bestOf 128 = .ok (.iaload, 1) := by decide +kernel
theorem dX12_bestOf_129 : decode bX12_bestOf 129 = .ok (.if_icmp .gt 175, 3) := by decide +kernel
theorem dX12_bestOf_132 : decode bX12_bestOf 132 = .ok (.iconst 1, 1) := by decide +kernel
theorem dX12_bestOf_133 : decode bX12_bestOf 133 = .ok (.istore 8, 2) := by decide +kernel
theorem dX12_bestOf_135 : decode bX12_bestOf 135 = .ok (.iload 8, 2) := by decide +kernel
theorem dX12_bestOf_137 : decode bX12_bestOf 137 = .ok (.iconst 3, 1) := by decide +kernel
theorem dX12_bestOf_138 : decode bX12_bestOf 138 = .ok (.if_icmp .gt 36, 3) := by decide +kernel
theorem dX12_bestOf_141 : decode bX12_bestOf 141 = .ok (.iload_n 1, 1) := by decide +kernel
theorem dX12_bestOf_142 : decode bX12_bestOf 142 = .ok (.iload 7, 2) := by decide +kernel
theorem dX12_bestOf_144 : decode bX12_bestOf 144 = .ok (.iconst 1, 1) := by decide +kernel
theorem dX12_bestOf_145 : decode bX12_bestOf 145 = .ok (.isub, 1) := by decide +kernel
theorem dX12_bestOf_146 : decode bX12_bestOf 146 = .ok (.invokestatic 170, 3) := by decide +kernel
theorem dX12_bestOf_149 : decode bX12_bestOf 149 = .ok (.ifCond .eq 19, 3) := by decide +kernel
theorem dX12_bestOf_152 : decode bX12_bestOf 152 = .ok (.aload_n 0, 1) := by decide +kernel
theorem dX12_bestOf_153 : decode bX12_bestOf 153 = .ok (.iload 7, 2) := by decide +kernel
theorem dX12_bestOf_155 : decode bX12_bestOf 155 = .ok (.iload 8, 2) := by decide +kernel
theorem dX12_bestOf_157 : decode bX12_bestOf 157 = .ok (.iload 5, 2) := by decide +kernel
theorem dX12_bestOf_159 : decode bX12_bestOf 159 = .ok (.iload_n 3, 1) := by decide +kernel
theorem dX12_bestOf_160 : decode bX12_bestOf 160 = .ok (.invokevirtual 174, 3) := by decide +kernel
theorem dX12_bestOf_163 : decode bX12_bestOf 163 = .ok (.iload 6, 2) := by decide +kernel
theorem dX12_bestOf_165 : decode bX12_bestOf 165 = .ok (.if_icmp .eq 9, 3) := by decide +kernel
theorem dX12_bestOf_168 : decode bX12_bestOf 168 = .ok (.iinc 8 1, 3) := by decide +kernel
theorem dX12_bestOf_171 : decode bX12_bestOf 171 = .ok (.goto (-36), 3) := by decide +kernel
theorem dX12_bestOf_174 : decode bX12_bestOf 174 = .ok (.aload_n 0, 1) := by decide +kernel
theorem dX12_bestOf_175 : decode bX12_bestOf 175 = .ok (.dup, 1) := by decide +kernel
theorem dX12_bestOf_176 : decode bX12_bestOf 176 = .ok (.getfield 178, 3) := by decide +kernel
theorem dX12_bestOf_179 : decode bX12_bestOf 179 = .ok (.iload 8, 2) := by decide +kernel
theorem dX12_bestOf_181 : decode bX12_bestOf 181 = .ok (.iconst 1, 1) := by decide +kernel
theorem dX12_bestOf_182 : decode bX12_bestOf 182 = .ok (.if_icmp .ne 12, 3) := by decide +kernel
theorem dX12_bestOf_185 : decode bX12_bestOf 185 = .ok (.iconst 1, 1) := by decide +kernel
theorem dX12_bestOf_186 : decode bX12_bestOf 186 = .ok (.iload 7, 2) := by decide +kernel
theorem dX12_bestOf_188 : decode bX12_bestOf 188 = .ok (.iconst 1, 1) := by decide +kernel
theorem dX12_bestOf_189 : decode bX12_bestOf 189 = .ok (.isub, 1) := by decide +kernel
theorem dX12_bestOf_190 : decode bX12_bestOf 190 = .ok (.ishl, 1) := by decide +kernel
theorem dX12_bestOf_191 : decode bX12_bestOf 191 = .ok (.goto 4, 3) := by decide +kernel
theorem dX12_bestOf_194 : decode bX12_bestOf 194 = .ok (.iconst 0, 1) := by decide +kernel
theorem dX12_bestOf_195 : decode bX12_bestOf 195 = .ok (.ior, 1) := by decide +kernel
theorem dX12_bestOf_196 : decode bX12_bestOf 196 = .ok (.putfield 178, 3) := by decide +kernel
theorem dX12_bestOf_199 : decode bX12_bestOf 199 = .ok (.aload_n 0, 1) := by decide +kernel
theorem dX12_bestOf_200 : decode bX12_bestOf 200 = .ok (.dup, 1) := by decide +kernel
theorem dX12_bestOf_201 : decode bX12_bestOf 201 = .ok (.getfield 181, 3) := by decide +kernel
theorem dX12_bestOf_204 : decode bX12_bestOf 204 = .ok (.iload 8, 2) := by decide +kernel
theorem dX12_bestOf_206 : decode bX12_bestOf 206 = .ok (.iconst 2, 1) := by decide +kernel
theorem dX12_bestOf_207 : decode bX12_bestOf 207 = .ok (.if_icmp .ne 12, 3) := by decide +kernel
theorem dX12_bestOf_210 : decode bX12_bestOf 210 = .ok (.iconst 1, 1) := by decide +kernel
theorem dX12_bestOf_211 : decode bX12_bestOf 211 = .ok (.iload 7, 2) := by decide +kernel
theorem dX12_bestOf_213 : decode bX12_bestOf 213 = .ok (.iconst 1, 1) := by decide +kernel
theorem dX12_bestOf_214 : decode bX12_bestOf 214 = .ok (.isub, 1) := by decide +kernel
theorem dX12_bestOf_215 : decode bX12_bestOf 215 = .ok (.ishl, 1) := by decide +kernel
theorem dX12_bestOf_216 : decode bX12_bestOf 216 = .ok (.goto 4, 3) := by decide +kernel
theorem dX12_bestOf_219 : decode bX12_bestOf 219 = .ok (.iconst 0, 1) := by decide +kernel
theorem dX12_bestOf_220 : decode bX12_bestOf 220 = .ok (.ior, 1) := by decide +kernel
theorem dX12_bestOf_221 : decode bX12_bestOf 221 = .ok (.putfield 181, 3) := by decide +kernel
theorem dX12_bestOf_224 : decode bX12_bestOf 224 = .ok (.aload_n 0, 1) := by decide +kernel
theorem dX12_bestOf_225 : decode bX12_bestOf 225 = .ok (.dup, 1) := by decide +kernel
theorem dX12_bestOf_226 : decode bX12_bestOf 226 = .ok (.getfield 184, 3) := by decide +kernel
theorem dX12_bestOf_229 : decode bX12_bestOf 229 = .ok (.iload 8, 2) := by decide +kernel
theorem dX12_bestOf_231 : decode bX12_bestOf 231 = .ok (.iconst 3, 1) := by decide +kernel
theorem dX12_bestOf_232 : decode bX12_bestOf 232 = .ok (.if_icmp .ne 12, 3) := by decide +kernel
theorem dX12_bestOf_235 : decode bX12_bestOf 235 = .ok (.iconst 1, 1) := by decide +kernel
theorem dX12_bestOf_236 : decode bX12_bestOf 236 = .ok (.iload 7, 2) := by decide +kernel
theorem dX12_bestOf_238 : decode bX12_bestOf 238 = .ok (.iconst 1, 1) := by decide +kernel
theorem dX12_bestOf_239 : decode bX12_bestOf 239 = .ok (.isub, 1) := by decide +kernel
theorem dX12_bestOf_240 : decode bX12_bestOf 240 = .ok (.ishl, 1) := by decide +kernel
theorem dX12_bestOf_241 : decode bX12_bestOf 241 = .ok (.goto 4, 3) := by decide +kernel
theorem dX12_bestOf_244 : decode bX12_bestOf 244 = .ok (.iconst 0, 1) := by decide +kernel
theorem dX12_bestOf_245 : decode bX12_bestOf 245 = .ok (.ior, 1) := by decide +kernel
theorem dX12_bestOf_246 : decode bX12_bestOf 246 = .ok (.putfield 184, 3) := by decide +kernel
theorem dX12_bestOf_249 : decode bX12_bestOf 249 = .ok (.iload 6, 2) := by decide +kernel
theorem dX12_bestOf_251 : decode bX12_bestOf 251 = .ok (.iload 8, 2) := by decide +kernel
theorem dX12_bestOf_253 : decode bX12_bestOf 253 = .ok (.iconst 3, 1) := by decide +kernel
theorem dX12_bestOf_254 : decode bX12_bestOf 254 = .ok (.if_icmp .gt 18, 3) := by decide +kernel
theorem dX12_bestOf_257 : decode bX12_bestOf 257 = .ok (.sipush 1000, 3) := by decide +kernel
theorem dX12_bestOf_260 : decode bX12_bestOf 260 = .ok (.aload_n 0, 1) := by decide +kernel
theorem dX12_bestOf_261 : decode bX12_bestOf 261 = .ok (.iload 7, 2) := by decide +kernel
theorem dX12_bestOf_263 : decode bX12_bestOf 263 = .ok (.iload 8, 2) := by decide +kernel
theorem dX12_bestOf_265 : decode bX12_bestOf 265 = .ok (.invokevirtual 150, 3) := by decide +kernel
theorem dX12_bestOf_268 : decode bX12_bestOf 268 = .ok (.iadd, 1) := by decide +kernel
theorem dX12_bestOf_269 : decode bX12_bestOf 269 = .ok (.goto 4, 3) := by decide +kernel
theorem dX12_bestOf_272 : decode bX12_bestOf 272 = .ok (.iconst 0, 1) := by decide +kernel
theorem dX12_bestOf_273 : decode bX12_bestOf 273 = .ok (.isub, 1) := by decide +kernel
theorem dX12_bestOf_274 : decode bX12_bestOf 274 = .ok (.istore 6, 2) := by decide +kernel
theorem dX12_bestOf_276 : decode bX12_bestOf 276 = .ok (.iload 5, 2) := by decide +kernel
theorem dX12_bestOf_278 : decode bX12_bestOf 278 = .ok (.iload 8, 2) := by decide +kernel
theorem dX12_bestOf_280 : decode bX12_bestOf 280 = .ok (.iconst 3, 1) := by decide +kernel
theorem dX12_bestOf_281 : decode bX12_bestOf 281 = .ok (.if_icmp .gt 13, 3) := by decide +kernel
theorem dX12_bestOf_284 : decode bX12_bestOf 284 = .ok (.iload 7, 2) := by decide +kernel
theorem dX12_bestOf_286 : decode bX12_bestOf 286 = .ok (.iload 8, 2) := by decide +kernel
theorem dX12_bestOf_288 : decode bX12_bestOf 288 = .ok (.invokestatic 146, 3) := by decide +kernel
theorem dX12_bestOf_291 : decode bX12_bestOf 291 = .ok (.goto 4, 3) := by decide +kernel
theorem dX12_bestOf_294 : decode bX12_bestOf 294 = .ok (.iconst 0, 1) := by decide +kernel
theorem dX12_bestOf_295 : decode bX12_bestOf 295 = .ok (.isub, 1) := by decide +kernel
theorem dX12_bestOf_296 : decode bX12_bestOf 296 = .ok (.istore 5, 2) := by decide +kernel
theorem dX12_bestOf_298 : decode bX12_bestOf 298 = .ok (.iinc 7 1, 3) := by decide +kernel
theorem dX12_bestOf_301 : decode bX12_bestOf 301 = .ok (.goto (-180), 3) := by decide +kernel
theorem dX12_bestOf_304 : decode bX12_bestOf 304 = .ok (.iload 4, 2) := by decide +kernel
theorem dX12_bestOf_306 : decode bX12_bestOf 306 = .ok (.ireturn, 1) := by decide +kernel
section
variable {p : Program} {l : Launch} {e : Env} {s : State} {m : MethodId} {args : Array Value} {below : List Frame} {meth : Method} {c : Code} {G : GG} {n : Nat} {h' : Hp} {rv : Int32}
set_option maxHeartbeats 4000000
set_option maxRecDepth 100000
theorem j_X12_bestOf_273 (C0 : Cx p s m args meth c G bX12_bestOf RX12 9 (some .int) "bestOf") (hN : NT ≤ n) {k121 : Hp → Nat → Int32 → Int32 → Int32 → Int32 → Int32 → Int32 → Option (Int32 × Hp)} (ih121 : ∀ {H : Heap} {locs : List Loc} {ls : Array Slot} {h : Hp} {x0 : Nat} {x1 : Int32} {x3 : Int32} {x4 : Int32} {x5 : Int32} {x6 : Int32} {x7 : Int32}, XW G n h s 0 H locs → lv_has ls 9 [(0, .ref (bs G + x0)), (1, .int x1), (3, .int x3), (4, .int x4), (5, .int x5), (6, .int x6), (7, .int x7)] → kd x0 = 12 → k121 h x0 x1 x3 x4 x5 x6 x7 = some (rv, h') → W p l e (rmC 4 0 0) s m args below meth c H locs 0 0 (MQ below (QP G n h' (some (.int rv))) args s 0 0 (Ab G)) (F0 m 121 ls [])) {H : Heap} {locs : List Loc} {ls : Array Slot} {h : Hp} {x0 : Nat} {x1 : Int32} {x3 : Int32} {x4 : Int32} {x5 : Int32} {x7 : Int32} {x8 : Int32} {t0 : Int32} {t1 : Int32} (X : XW G n h s 0 H locs) (hl : lv_has ls 9 [(0, .ref (bs G + x0)), (1, .int x1), (3, .int x3), (4, .int x4), (5, .int x5), (7, .int x7), (8, .int x8)]) (o0 : kd x0 = 12) (hf : f_X12_bestOf_273 k121 h x0 x1 x3 x4 x5 x7 x8 t0 t1 = some (rv, h')) : W p l e (rmC 4 0 0) s m args below meth c H locs 0 0 (MQ below (QP G n h' (some (.int rv))) args s 0 0 (Ab G)) (F0 m 273 ls [.int t1, .int t0]) := by
  obtain ⟨hx, hb, hr, hml, hown, hts, hK, hlocks, hnm⟩ := id C0
  unfold f_X12_bestOf_273 at hf
  refine lv_isub hx hb dX12_bestOf_273 ?_
  refine lv_istore (lv' := [(6, .int (t0 - t1)), (0, .ref (bs G + x0)), (1, .int x1), (3, .int x3), (4, .int x4), (5, .int x5), (7, .int x7), (8, .int x8)]) hx hb dX12_bestOf_274 hl (by decide) rfl (fun ls hl => ?_)
  refine lv_iload hx hb dX12_bestOf_276 (lv_at hl 5 rfl) ?_
  refine lv_iload hx hb dX12_bestOf_278 (lv_at hl 7 rfl) ?_
  refine lv_iconst (v := (3 : Int32)) hx hb dX12_bestOf_280 (by decide) ?_
  refine lv_icmp_gt (tgt := 294) hx hb dX12_bestOf_281 (by decide) (fun c281 => ?_) (fun c281 => ?_)
  · have hf := ite_t hf c281
    refine lv_iconst (v := (0 : Int32)) hx hb dX12_bestOf_294 (by decide) ?_
    refine lv_isub hx hb dX12_bestOf_295 ?_
    refine lv_istore (lv' := [(5, .int (x5 - (0 : Int32))), (6, .int (t0 - t1)), (0, .ref (bs G + x0)), (1, .int x1), (3, .int x3), (4, .int x4), (7, .int x7), (8, .int x8)]) hx hb dX12_bestOf_296 hl (by decide) rfl (fun ls hl => ?_)
    refine lv_iinc (v := (x7 + (1 : Int32))) (lv' := [(7, .int (x7 + (1 : Int32))), (5, .int (x5 - (0 : Int32))), (6, .int (t0 - t1)), (0, .ref (bs G + x0)), (1, .int x1), (3, .int x3), (4, .int x4), (8, .int x8)]) hx hb dX12_bestOf_298 hl (k := 6) rfl rfl (by decide) rfl (fun ls hl => ?_)
    refine lv_goto (tgt := 121) hx hb dX12_bestOf_301 (by decide) ?_
    exact ih121 X (lv_sub hl [3, 4, 5, 6, 1, 2, 0] rfl) o0 hf
  · have hf := ite_f hf c281
    refine lv_iload hx hb dX12_bestOf_284 (lv_at hl 6 rfl) ?_
    refine lv_iload hx hb dX12_bestOf_286 (lv_at hl 7 rfl) ?_
    obtain ⟨r1, h2, q3, hf⟩ := bd_e hf
    refine c_S0 (As := [.int x7, .int x8]) (rest := [.int x5]) (st1 := [.int r1, .int x5]) hx hb hml hown hts hK X (k_X12_counts l G n hN q3) lc_X12_counts ls_X12_146 (by decide) rfl hl.1 (Nat.le_of_ble_eq_true rfl) dX12_bestOf_288 rfl (fun H locs X => ?_)
    refine lv_goto (tgt := 295) hx hb dX12_bestOf_291 (by decide) ?_
    refine lv_isub hx hb dX12_bestOf_295 ?_
    refine lv_istore (lv' := [(5, .int (x5 - r1)), (6, .int (t0 - t1)), (0, .ref (bs G + x0)), (1, .int x1), (3, .int x3), (4, .int x4), (7, .int x7), (8, .int x8)]) hx hb dX12_bestOf_296 hl (by decide) rfl (fun ls hl => ?_)
    refine lv_iinc (v := (x7 + (1 : Int32))) (lv' := [(7, .int (x7 + (1 : Int32))), (5, .int (x5 - r1)), (6, .int (t0 - t1)), (0, .ref (bs G + x0)), (1, .int x1), (3, .int x3), (4, .int x4), (8, .int x8)]) hx hb dX12_bestOf_298 hl (k := 6) rfl rfl (by decide) rfl (fun ls hl => ?_)
    refine lv_goto (tgt := 121) hx hb dX12_bestOf_301 (by decide) ?_
    exact ih121 X (lv_sub hl [3, 4, 5, 6, 1, 2, 0] rfl) o0 hf
theorem j_X12_bestOf_245 (C0 : Cx p s m args meth c G bX12_bestOf RX12 9 (some .int) "bestOf") (hN : NT ≤ n) {k121 : Hp → Nat → Int32 → Int32 → Int32 → Int32 → Int32 → Int32 → Option (Int32 × Hp)} (ih121 : ∀ {H : Heap} {locs : List Loc} {ls : Array Slot} {h : Hp} {x0 : Nat} {x1 : Int32} {x3 : Int32} {x4 : Int32} {x5 : Int32} {x6 : Int32} {x7 : Int32}, XW G n h s 0 H locs → lv_has ls 9 [(0, .ref (bs G + x0)), (1, .int x1), (3, .int x3), (4, .int x4), (5, .int x5), (6, .int x6), (7, .int x7)] → kd x0 = 12 → k121 h x0 x1 x3 x4 x5 x6 x7 = some (rv, h') → W p l e (rmC 4 0 0) s m args below meth c H locs 0 0 (MQ below (QP G n h' (some (.int rv))) args s 0 0 (Ab G)) (F0 m 121 ls [])) {H : Heap} {locs : List Loc} {ls : Array Slot} {h : Hp} {x0 : Nat} {x1 : Int32} {x3 : Int32} {x4 : Int32} {x5 : Int32} {x6 : Int32} {x7 : Int32} {x8 : Int32} {t0 : Nat} {t1 : Int32} {t2 : Int32} (X : XW G n h s 0 H locs) (hl : lv_has ls 9 [(0, .ref (bs G + x0)), (1, .int x1), (3, .int x3), (4, .int x4), (5, .int x5), (6, .int x6), (7, .int x7), (8, .int x8)]) (o0 : kd x0 = 12) (ot0 : kd t0 = 12) (hf : f_X12_bestOf_245 k121 h x0 x1 x3 x4 x5 x6 x7 x8 t0 t1 t2 = some (rv, h')) : W p l e (rmC 4 0 0) s m args below meth c H locs 0 0 (MQ below (QP G n h' (some (.int rv))) args s 0 0 (Ab G)) (F0 m 245 ls [.int t2, .int t1, .ref (bs G + t0)]) := by
  obtain ⟨hx, hb, hr, hml, hown, hts, hK, hlocks, hnm⟩ := id C0
  unfold f_X12_bestOf_245 at hf
  refine lv_ior hx hb dX12_bestOf_245 ?_
  refine g_PI hx hb hts hown hK X ot0 hN fl_X12_184 ft_12_18 (by decide) rfl dX12_bestOf_246 (fun H locs X => ?_)
  obtain ⟨h1, e2, hf⟩ := lt_e hf
  rw [← e2] at X
  refine lv_iload hx hb dX12_bestOf_249 (lv_at hl 5 rfl) ?_
  refine lv_iload hx hb dX12_bestOf_251 (lv_at hl 7 rfl) ?_
  refine lv_iconst (v := (3 : Int32)) hx hb dX12_bestOf_253 (by decide) ?_
  refine lv_icmp_gt (tgt := 272) hx hb dX12_bestOf_254 (by decide) (fun c254 => ?_) (fun c254 => ?_)
  · have hf := ite_t hf c254
    refine lv_iconst (v := (0 : Int32)) hx hb dX12_bestOf_272 (by decide) ?_
    exact j_X12_bestOf_273 C0 hN @ih121 X (lv_sub hl [0, 1, 2, 3, 4, 6, 7] rfl) o0 hf
  · have hf := ite_f hf c254
    refine lv_sipush (v := (1000 : Int32)) hx hb dX12_bestOf_257 (by decide) ?_
    refine lv_aload_n hx hb dX12_bestOf_260 rfl (lv_at hl 0 rfl) ?_
    refine lv_iload hx hb dX12_bestOf_261 (lv_at hl 6 rfl) ?_
    refine lv_iload hx hb dX12_bestOf_263 (lv_at hl 7 rfl) ?_
    obtain ⟨r3, h4, q5, hf⟩ := bd_e hf
    refine c_V0 (As := [.int x7, .int x8]) (rest := [.int (1000 : Int32), .int x6]) (st1 := [.int r3, .int (1000 : Int32), .int x6]) hx hb hml hown hts hK X (k_X12_priceOf l G n hN q5) o0 hN lc_X12_priceOf lv_X12_150 (ci := 12) rfl rfl (by decide) rfl hl.1 (Nat.le_of_ble_eq_true rfl) dX12_bestOf_265 rfl (fun H locs X => ?_)
    refine lv_iadd hx hb dX12_bestOf_268 ?_
    refine lv_goto (tgt := 273) hx hb dX12_bestOf_269 (by decide) ?_
    exact j_X12_bestOf_273 C0 hN @ih121 X (lv_sub hl [0, 1, 2, 3, 4, 6, 7] rfl) o0 hf
theorem j_X12_bestOf_220 (C0 : Cx p s m args meth c G bX12_bestOf RX12 9 (some .int) "bestOf") (hN : NT ≤ n) {k121 : Hp → Nat → Int32 → Int32 → Int32 → Int32 → Int32 → Int32 → Option (Int32 × Hp)} (ih121 : ∀ {H : Heap} {locs : List Loc} {ls : Array Slot} {h : Hp} {x0 : Nat} {x1 : Int32} {x3 : Int32} {x4 : Int32} {x5 : Int32} {x6 : Int32} {x7 : Int32}, XW G n h s 0 H locs → lv_has ls 9 [(0, .ref (bs G + x0)), (1, .int x1), (3, .int x3), (4, .int x4), (5, .int x5), (6, .int x6), (7, .int x7)] → kd x0 = 12 → k121 h x0 x1 x3 x4 x5 x6 x7 = some (rv, h') → W p l e (rmC 4 0 0) s m args below meth c H locs 0 0 (MQ below (QP G n h' (some (.int rv))) args s 0 0 (Ab G)) (F0 m 121 ls [])) {H : Heap} {locs : List Loc} {ls : Array Slot} {h : Hp} {x0 : Nat} {x1 : Int32} {x3 : Int32} {x4 : Int32} {x5 : Int32} {x6 : Int32} {x7 : Int32} {x8 : Int32} {t0 : Nat} {t1 : Int32} {t2 : Int32} (X : XW G n h s 0 H locs) (hl : lv_has ls 9 [(0, .ref (bs G + x0)), (1, .int x1), (3, .int x3), (4, .int x4), (5, .int x5), (6, .int x6), (7, .int x7), (8, .int x8)]) (o0 : kd x0 = 12) (ot0 : kd t0 = 12) (hf : f_X12_bestOf_220 k121 h x0 x1 x3 x4 x5 x6 x7 x8 t0 t1 t2 = some (rv, h')) : W p l e (rmC 4 0 0) s m args below meth c H locs 0 0 (MQ below (QP G n h' (some (.int rv))) args s 0 0 (Ab G)) (F0 m 220 ls [.int t2, .int t1, .ref (bs G + t0)]) := by
  obtain ⟨hx, hb, hr, hml, hown, hts, hK, hlocks, hnm⟩ := id C0
  unfold f_X12_bestOf_220 at hf
  refine lv_ior hx hb dX12_bestOf_220 ?_
  refine g_PI hx hb hts hown hK X ot0 hN fl_X12_181 ft_12_17 (by decide) rfl dX12_bestOf_221 (fun H locs X => ?_)
  obtain ⟨h1, e2, hf⟩ := lt_e hf
  rw [← e2] at X
  refine lv_aload_n hx hb dX12_bestOf_224 rfl (lv_at hl 0 rfl) ?_
  refine lv_dup hx hb dX12_bestOf_225 rfl ?_
  refine g_I hx hb hts hown hK X o0 hN fl_X12_184 (by decide) rfl dX12_bestOf_226 ?_
  refine lv_iload hx hb dX12_bestOf_229 (lv_at hl 7 rfl) ?_
  refine lv_iconst (v := (3 : Int32)) hx hb dX12_bestOf_231 (by decide) ?_
  refine lv_icmp_ne (tgt := 244) hx hb dX12_bestOf_232 (by decide) (fun c232 => ?_) (fun c232 => ?_)
  · have hf := ite_f hf c232
    refine lv_iconst (v := (0 : Int32)) hx hb dX12_bestOf_244 (by decide) ?_
    exact j_X12_bestOf_245 C0 hN @ih121 X (lv_sub hl [0, 1, 2, 3, 4, 5, 6, 7] rfl) o0 o0 hf
  · have hf := ite_t hf c232
    refine lv_iconst (v := (1 : Int32)) hx hb dX12_bestOf_235 (by decide) ?_
    refine lv_iload hx hb dX12_bestOf_236 (lv_at hl 6 rfl) ?_
    refine lv_iconst (v := (1 : Int32)) hx hb dX12_bestOf_238 (by decide) ?_
    refine lv_isub hx hb dX12_bestOf_239 ?_
    refine lv_ishl hx hb dX12_bestOf_240 ?_
    refine lv_goto (tgt := 245) hx hb dX12_bestOf_241 (by decide) ?_
    exact j_X12_bestOf_245 C0 hN @ih121 X (lv_sub hl [0, 1, 2, 3, 4, 5, 6, 7] rfl) o0 o0 hf
theorem j_X12_bestOf_195 (C0 : Cx p s m args meth c G bX12_bestOf RX12 9 (some .int) "bestOf") (hN : NT ≤ n) {k121 : Hp → Nat → Int32 → Int32 → Int32 → Int32 → Int32 → Int32 → Option (Int32 × Hp)} (ih121 : ∀ {H : Heap} {locs : List Loc} {ls : Array Slot} {h : Hp} {x0 : Nat} {x1 : Int32} {x3 : Int32} {x4 : Int32} {x5 : Int32} {x6 : Int32} {x7 : Int32}, XW G n h s 0 H locs → lv_has ls 9 [(0, .ref (bs G + x0)), (1, .int x1), (3, .int x3), (4, .int x4), (5, .int x5), (6, .int x6), (7, .int x7)] → kd x0 = 12 → k121 h x0 x1 x3 x4 x5 x6 x7 = some (rv, h') → W p l e (rmC 4 0 0) s m args below meth c H locs 0 0 (MQ below (QP G n h' (some (.int rv))) args s 0 0 (Ab G)) (F0 m 121 ls [])) {H : Heap} {locs : List Loc} {ls : Array Slot} {h : Hp} {x0 : Nat} {x1 : Int32} {x3 : Int32} {x4 : Int32} {x5 : Int32} {x6 : Int32} {x7 : Int32} {x8 : Int32} {t0 : Nat} {t1 : Int32} {t2 : Int32} (X : XW G n h s 0 H locs) (hl : lv_has ls 9 [(0, .ref (bs G + x0)), (1, .int x1), (3, .int x3), (4, .int x4), (5, .int x5), (6, .int x6), (7, .int x7), (8, .int x8)]) (o0 : kd x0 = 12) (ot0 : kd t0 = 12) (hf : f_X12_bestOf_195 k121 h x0 x1 x3 x4 x5 x6 x7 x8 t0 t1 t2 = some (rv, h')) : W p l e (rmC 4 0 0) s m args below meth c H locs 0 0 (MQ below (QP G n h' (some (.int rv))) args s 0 0 (Ab G)) (F0 m 195 ls [.int t2, .int t1, .ref (bs G + t0)]) := by
  obtain ⟨hx, hb, hr, hml, hown, hts, hK, hlocks, hnm⟩ := id C0
  unfold f_X12_bestOf_195 at hf
  refine lv_ior hx hb dX12_bestOf_195 ?_
  refine g_PI hx hb hts hown hK X ot0 hN fl_X12_178 ft_12_16 (by decide) rfl dX12_bestOf_196 (fun H locs X => ?_)
  obtain ⟨h1, e2, hf⟩ := lt_e hf
  rw [← e2] at X
  refine lv_aload_n hx hb dX12_bestOf_199 rfl (lv_at hl 0 rfl) ?_
  refine lv_dup hx hb dX12_bestOf_200 rfl ?_
  refine g_I hx hb hts hown hK X o0 hN fl_X12_181 (by decide) rfl dX12_bestOf_201 ?_
  refine lv_iload hx hb dX12_bestOf_204 (lv_at hl 7 rfl) ?_
  refine lv_iconst (v := (2 : Int32)) hx hb dX12_bestOf_206 (by decide) ?_
  refine lv_icmp_ne (tgt := 219) hx hb dX12_bestOf_207 (by decide) (fun c207 => ?_) (fun c207 => ?_)
  · have hf := ite_f hf c207
    refine lv_iconst (v := (0 : Int32)) hx hb dX12_bestOf_219 (by decide) ?_
    exact j_X12_bestOf_220 C0 hN @ih121 X (lv_sub hl [0, 1, 2, 3, 4, 5, 6, 7] rfl) o0 o0 hf
  · have hf := ite_t hf c207
    refine lv_iconst (v := (1 : Int32)) hx hb dX12_bestOf_210 (by decide) ?_
    refine lv_iload hx hb dX12_bestOf_211 (lv_at hl 6 rfl) ?_
    refine lv_iconst (v := (1 : Int32)) hx hb dX12_bestOf_213 (by decide) ?_
    refine lv_isub hx hb dX12_bestOf_214 ?_
    refine lv_ishl hx hb dX12_bestOf_215 ?_
    refine lv_goto (tgt := 220) hx hb dX12_bestOf_216 (by decide) ?_
    exact j_X12_bestOf_220 C0 hN @ih121 X (lv_sub hl [0, 1, 2, 3, 4, 5, 6, 7] rfl) o0 o0 hf
theorem j_X12_bestOf_174 (C0 : Cx p s m args meth c G bX12_bestOf RX12 9 (some .int) "bestOf") (hN : NT ≤ n) {k121 : Hp → Nat → Int32 → Int32 → Int32 → Int32 → Int32 → Int32 → Option (Int32 × Hp)} (ih121 : ∀ {H : Heap} {locs : List Loc} {ls : Array Slot} {h : Hp} {x0 : Nat} {x1 : Int32} {x3 : Int32} {x4 : Int32} {x5 : Int32} {x6 : Int32} {x7 : Int32}, XW G n h s 0 H locs → lv_has ls 9 [(0, .ref (bs G + x0)), (1, .int x1), (3, .int x3), (4, .int x4), (5, .int x5), (6, .int x6), (7, .int x7)] → kd x0 = 12 → k121 h x0 x1 x3 x4 x5 x6 x7 = some (rv, h') → W p l e (rmC 4 0 0) s m args below meth c H locs 0 0 (MQ below (QP G n h' (some (.int rv))) args s 0 0 (Ab G)) (F0 m 121 ls [])) {H : Heap} {locs : List Loc} {ls : Array Slot} {h : Hp} {x0 : Nat} {x1 : Int32} {x3 : Int32} {x4 : Int32} {x5 : Int32} {x6 : Int32} {x7 : Int32} {x8 : Int32} (X : XW G n h s 0 H locs) (hl : lv_has ls 9 [(0, .ref (bs G + x0)), (1, .int x1), (3, .int x3), (4, .int x4), (5, .int x5), (6, .int x6), (7, .int x7), (8, .int x8)]) (o0 : kd x0 = 12) (hf : f_X12_bestOf_174 k121 h x0 x1 x3 x4 x5 x6 x7 x8 = some (rv, h')) : W p l e (rmC 4 0 0) s m args below meth c H locs 0 0 (MQ below (QP G n h' (some (.int rv))) args s 0 0 (Ab G)) (F0 m 174 ls []) := by
  obtain ⟨hx, hb, hr, hml, hown, hts, hK, hlocks, hnm⟩ := id C0
  unfold f_X12_bestOf_174 at hf
  refine lv_aload_n hx hb dX12_bestOf_174 rfl (lv_at hl 0 rfl) ?_
  refine lv_dup hx hb dX12_bestOf_175 rfl ?_
  refine g_I hx hb hts hown hK X o0 hN fl_X12_178 (by decide) rfl dX12_bestOf_176 ?_
  refine lv_iload hx hb dX12_bestOf_179 (lv_at hl 7 rfl) ?_
  refine lv_iconst (v := (1 : Int32)) hx hb dX12_bestOf_181 (by decide) ?_
  refine lv_icmp_ne (tgt := 194) hx hb dX12_bestOf_182 (by decide) (fun c182 => ?_) (fun c182 => ?_)
  · have hf := ite_f hf c182
    refine lv_iconst (v := (0 : Int32)) hx hb dX12_bestOf_194 (by decide) ?_
    exact j_X12_bestOf_195 C0 hN @ih121 X (lv_sub hl [0, 1, 2, 3, 4, 5, 6, 7] rfl) o0 o0 hf
  · have hf := ite_t hf c182
    refine lv_iconst (v := (1 : Int32)) hx hb dX12_bestOf_185 (by decide) ?_
    refine lv_iload hx hb dX12_bestOf_186 (lv_at hl 6 rfl) ?_
    refine lv_iconst (v := (1 : Int32)) hx hb dX12_bestOf_188 (by decide) ?_
    refine lv_isub hx hb dX12_bestOf_189 ?_
    refine lv_ishl hx hb dX12_bestOf_190 ?_
    refine lv_goto (tgt := 195) hx hb dX12_bestOf_191 (by decide) ?_
    exact j_X12_bestOf_195 C0 hN @ih121 X (lv_sub hl [0, 1, 2, 3, 4, 5, 6, 7] rfl) o0 o0 hf
theorem j_X12_bestOf_135 (C0 : Cx p s m args meth c G bX12_bestOf RX12 9 (some .int) "bestOf") (hN : NT ≤ n) {k121 : Hp → Nat → Int32 → Int32 → Int32 → Int32 → Int32 → Int32 → Option (Int32 × Hp)} (ih121 : ∀ {H : Heap} {locs : List Loc} {ls : Array Slot} {h : Hp} {x0 : Nat} {x1 : Int32} {x3 : Int32} {x4 : Int32} {x5 : Int32} {x6 : Int32} {x7 : Int32}, XW G n h s 0 H locs → lv_has ls 9 [(0, .ref (bs G + x0)), (1, .int x1), (3, .int x3), (4, .int x4), (5, .int x5), (6, .int x6), (7, .int x7)] → kd x0 = 12 → k121 h x0 x1 x3 x4 x5 x6 x7 = some (rv, h') → W p l e (rmC 4 0 0) s m args below meth c H locs 0 0 (MQ below (QP G n h' (some (.int rv))) args s 0 0 (Ab G)) (F0 m 121 ls [])) : ∀ (fu : Nat), ∀ {H : Heap} {locs : List Loc} {ls : Array Slot} {h : Hp} {x0 : Nat} {x1 : Int32} {x3 : Int32} {x4 : Int32} {x5 : Int32} {x6 : Int32} {x7 : Int32} {x8 : Int32}, XW G n h s 0 H locs → lv_has ls 9 [(0, .ref (bs G + x0)), (1, .int x1), (3, .int x3), (4, .int x4), (5, .int x5), (6, .int x6), (7, .int x7), (8, .int x8)] → kd x0 = 12 → f_X12_bestOf_135 k121 fu h x0 x1 x3 x4 x5 x6 x7 x8 = some (rv, h') → W p l e (rmC 4 0 0) s m args below meth c H locs 0 0 (MQ below (QP G n h' (some (.int rv))) args s 0 0 (Ab G)) (F0 m 135 ls []) := by
  obtain ⟨hx, hb, hr, hml, hown, hts, hK, hlocks, hnm⟩ := id C0
  intro fu
  induction fu with
  | zero => intro H locs ls h x0 x1 x3 x4 x5 x6 x7 x8 X hl o0 hf; cases hf
  | succ fu ih =>
    intro H locs ls h x0 x1 x3 x4 x5 x6 x7 x8 X hl o0 hf
    rw [f_X12_bestOf_135] at hf
    refine lv_iload hx hb dX12_bestOf_135 (lv_at hl 7 rfl) ?_
    refine lv_iconst (v := (3 : Int32)) hx hb dX12_bestOf_137 (by decide) ?_
    refine lv_icmp_gt (tgt := 174) hx hb dX12_bestOf_138 (by decide) (fun c138 => ?_) (fun c138 => ?_)
    · have hf := ite_t hf c138
      exact j_X12_bestOf_174 C0 hN @ih121 X (lv_sub hl [0, 1, 2, 3, 4, 5, 6, 7] rfl) o0 hf
    · have hf := ite_f hf c138
      refine lv_iload_n hx hb dX12_bestOf_141 rfl (lv_at hl 1 rfl) ?_
      refine lv_iload hx hb dX12_bestOf_142 (lv_at hl 6 rfl) ?_
      refine lv_iconst (v := (1 : Int32)) hx hb dX12_bestOf_144 (by decide) ?_
      refine lv_isub hx hb dX12_bestOf_145 ?_
      obtain ⟨r1, h2, q3, hf⟩ := bd_e hf
      refine c_S0 (As := [.int x1, .int (x7 - (1 : Int32))]) (rest := []) (st1 := [.int r1]) hx hb hml hown hts hK X (k_X12_has l G n hN q3) lc_X12_has ls_X12_170 (by decide) rfl hl.1 (Nat.le_of_ble_eq_true rfl) dX12_bestOf_146 rfl (fun H locs X => ?_)
      refine lv_if_eq (tgt := 168) hx hb dX12_bestOf_149 (by decide) (fun c149 => ?_) (fun c149 => ?_)
      · have hf := ite_t hf c149
        refine lv_iinc (v := (x8 + (1 : Int32))) (lv' := [(8, .int (x8 + (1 : Int32))), (0, .ref (bs G + x0)), (1, .int x1), (3, .int x3), (4, .int x4), (5, .int x5), (6, .int x6), (7, .int x7)]) hx hb dX12_bestOf_168 hl (k := 7) rfl rfl (by decide) rfl (fun ls hl => ?_)
        refine lv_goto (tgt := 135) hx hb dX12_bestOf_171 (by decide) ?_
        exact ih X (lv_sub hl [1, 2, 3, 4, 5, 6, 7, 0] rfl) o0 hf
      · have hf := ite_f hf c149
        refine lv_aload_n hx hb dX12_bestOf_152 rfl (lv_at hl 0 rfl) ?_
        refine lv_iload hx hb dX12_bestOf_153 (lv_at hl 6 rfl) ?_
        refine lv_iload hx hb dX12_bestOf_155 (lv_at hl 7 rfl) ?_
        refine lv_iload hx hb dX12_bestOf_157 (lv_at hl 4 rfl) ?_
        refine lv_iload_n hx hb dX12_bestOf_159 rfl (lv_at hl 2 rfl) ?_
        obtain ⟨r4, h5, q6, hf⟩ := bd_e hf
        refine c_V0 (As := [.int x7, .int x8, .int x5, .int x3]) (rest := []) (st1 := [.int r4]) hx hb hml hown hts hK X (k_X12_by l G n hN q6) o0 hN lc_X12_by lv_X12_174 (ci := 12) rfl rfl (by decide) rfl hl.1 (Nat.le_of_ble_eq_true rfl) dX12_bestOf_160 rfl (fun H locs X => ?_)
        refine lv_iload hx hb dX12_bestOf_163 (lv_at hl 5 rfl) ?_
        refine lv_icmp_eq (tgt := 174) hx hb dX12_bestOf_165 (by decide) (fun c165 => ?_) (fun c165 => ?_)
        · have hf := ite_t hf c165
          exact j_X12_bestOf_174 C0 hN @ih121 X (lv_sub hl [0, 1, 2, 3, 4, 5, 6, 7] rfl) o0 hf
        · have hf := ite_f hf c165
          refine lv_iinc (v := (x8 + (1 : Int32))) (lv' := [(8, .int (x8 + (1 : Int32))), (0, .ref (bs G + x0)), (1, .int x1), (3, .int x3), (4, .int x4), (5, .int x5), (6, .int x6), (7, .int x7)]) hx hb dX12_bestOf_168 hl (k := 7) rfl rfl (by decide) rfl (fun ls hl => ?_)
          refine lv_goto (tgt := 135) hx hb dX12_bestOf_171 (by decide) ?_
          exact ih X (lv_sub hl [1, 2, 3, 4, 5, 6, 7, 0] rfl) o0 hf
theorem j_X12_bestOf_121 (C0 : Cx p s m args meth c G bX12_bestOf RX12 9 (some .int) "bestOf") (hN : NT ≤ n) : ∀ (fu : Nat), ∀ {H : Heap} {locs : List Loc} {ls : Array Slot} {h : Hp} {x0 : Nat} {x1 : Int32} {x3 : Int32} {x4 : Int32} {x5 : Int32} {x6 : Int32} {x7 : Int32}, XW G n h s 0 H locs → lv_has ls 9 [(0, .ref (bs G + x0)), (1, .int x1), (3, .int x3), (4, .int x4), (5, .int x5), (6, .int x6), (7, .int x7)] → kd x0 = 12 → f_X12_bestOf_121 fu h x0 x1 x3 x4 x5 x6 x7 = some (rv, h') → W p l e (rmC 4 0 0) s m args below meth c H locs 0 0 (MQ below (QP G n h' (some (.int rv))) args s 0 0 (Ab G)) (F0 m 121 ls []) := by
  obtain ⟨hx, hb, hr, hml, hown, hts, hK, hlocks, hnm⟩ := id C0
  intro fu
  induction fu with
  | zero => intro H locs ls h x0 x1 x3 x4 x5 x6 x7 X hl o0 hf; cases hf
  | succ fu ih =>
    intro H locs ls h x0 x1 x3 x4 x5 x6 x7 X hl o0 hf
    rw [f_X12_bestOf_121] at hf
    refine lv_iload hx hb dX12_bestOf_121 (lv_at hl 6 rfl) ?_
    refine lv_aload_n hx hb dX12_bestOf_123 rfl (lv_at hl 0 rfl) ?_
    obtain ⟨g1, hf⟩ := gd_e hf
    refine g_R hx hb hts hown hK X o0 hN g1 fl_X12_13 (by decide) rfl (by decide) dX12_bestOf_124 ?_
    refine lv_iconst (v := (0 : Int32)) hx hb dX12_bestOf_127 (by decide) ?_
    obtain ⟨g2, hf⟩ := gd_e hf
    refine g_ia hx hb hK X g1 hN g2 (by decide) dX12_bestOf_128 ?_
    refine lv_icmp_gt (tgt := 304) hx hb dX12_bestOf_129 (by decide) (fun c129 => ?_) (fun c129 => ?_)
    · have hf := ite_t hf c129
      refine lv_iload hx hb dX12_bestOf_304 (lv_at hl 3 rfl) ?_
      exact r_I hx hb hr hlocks X hf dX12_bestOf_306
    · have hf := ite_f hf c129
      refine lv_iconst (v := (1 : Int32)) hx hb dX12_bestOf_132 (by decide) ?_
      refine lv_istore (lv' := [(8, .int (1 : Int32)), (0, .ref (bs G + x0)), (1, .int x1), (3, .int x3), (4, .int x4), (5, .int x5), (6, .int x6), (7, .int x7)]) hx hb dX12_bestOf_133 hl (by decide) rfl (fun ls hl => ?_)
      exact j_X12_bestOf_135 C0 hN @ih FU X (lv_sub hl [1, 2, 3, 4, 5, 6, 7, 0] rfl) o0 hf
theorem j_X12_bestOf_61 (C0 : Cx p s m args meth c G bX12_bestOf RX12 9 (some .int) "bestOf") (hN : NT ≤ n) {H : Heap} {locs : List Loc} {ls : Array Slot} {h : Hp} {x0 : Nat} {x2 : Int32} {x4 : Int32} {t0 : Nat} {t1 : Int32} (X : XW G n h s 0 H locs) (hl : lv_has ls 9 [(0, .ref (bs G + x0)), (2, .int x2), (4, .int x4)]) (o0 : kd x0 = 12) (ot0 : kd t0 = 12) (hf : f_X12_bestOf_61 h x0 x2 x4 t0 t1 = some (rv, h')) : W p l e (rmC 4 0 0) s m args below meth c H locs 0 0 (MQ below (QP G n h' (some (.int rv))) args s 0 0 (Ab G)) (F0 m 61 ls [.int t1, .ref (bs G + t0)]) := by
  obtain ⟨hx, hb, hr, hml, hown, hts, hK, hlocks, hnm⟩ := id C0
  unfold f_X12_bestOf_61 at hf
  refine g_PI hx hb hts hown hK X ot0 hN fl_X12_178 ft_12_16 (by decide) rfl dX12_bestOf_61 (fun H locs X => ?_)
  obtain ⟨h1, e2, hf⟩ := lt_e hf
  rw [← e2] at X
  refine lv_iload hx hb dX12_bestOf_64 (lv_at hl 2 rfl) ?_
  refine lv_if_eq (tgt := 84) hx hb dX12_bestOf_66 (by decide) (fun c66 => ?_) (fun c66 => ?_)
  · have hf := ite_t hf c66
    refine lv_bipush (v := (-4 : Int32)) hx hb dX12_bestOf_84 (by decide) ?_
    exact r_I hx hb hr hlocks X hf dX12_bestOf_86
  · have hf := ite_f hf c66
    refine lv_sipush (v := (1000 : Int32)) hx hb dX12_bestOf_69 (by decide) ?_
    refine lv_aload_n hx hb dX12_bestOf_72 rfl (lv_at hl 0 rfl) ?_
    obtain ⟨g3, hf⟩ := gd_e hf
    refine g_R hx hb hts hown hK X o0 hN g3 fl_X12_13 (by decide) rfl (by decide) dX12_bestOf_73 ?_
    refine lv_iconst (v := (4 : Int32)) hx hb dX12_bestOf_76 (by decide) ?_
    refine lv_iload_n hx hb dX12_bestOf_77 rfl (lv_at hl 1 rfl) ?_
    refine lv_iadd hx hb dX12_bestOf_78 ?_
    obtain ⟨g4, hf⟩ := gd_e hf
    refine g_ia hx hb hK X g3 hN g4 (by decide) dX12_bestOf_79 ?_
    refine lv_iadd hx hb dX12_bestOf_80 ?_
    refine lv_goto (tgt := 86) hx hb dX12_bestOf_81 (by decide) ?_
    exact r_I hx hb hr hlocks X hf dX12_bestOf_86
theorem j_X12_bestOf_44 (C0 : Cx p s m args meth c G bX12_bestOf RX12 9 (some .int) "bestOf") (hN : NT ≤ n) {H : Heap} {locs : List Loc} {ls : Array Slot} {h : Hp} {x0 : Nat} {x2 : Int32} {t0 : Int32} (X : XW G n h s 0 H locs) (hl : lv_has ls 9 [(0, .ref (bs G + x0)), (2, .int x2)]) (o0 : kd x0 = 12) (hf : f_X12_bestOf_44 h x0 x2 t0 = some (rv, h')) : W p l e (rmC 4 0 0) s m args below meth c H locs 0 0 (MQ below (QP G n h' (some (.int rv))) args s 0 0 (Ab G)) (F0 m 44 ls [.int t0]) := by
  obtain ⟨hx, hb, hr, hml, hown, hts, hK, hlocks, hnm⟩ := id C0
  unfold f_X12_bestOf_44 at hf
  refine lv_istore (lv' := [(4, .int t0), (0, .ref (bs G + x0)), (2, .int x2)]) hx hb dX12_bestOf_44 hl (by decide) rfl (fun ls hl => ?_)
  refine lv_aload_n hx hb dX12_bestOf_46 rfl (lv_at hl 1 rfl) ?_
  refine lv_iload hx hb dX12_bestOf_47 (lv_at hl 0 rfl) ?_
  refine lv_if_eq (tgt := 60) hx hb dX12_bestOf_49 (by decide) (fun c49 => ?_) (fun c49 => ?_)
  · have hf := ite_t hf c49
    refine lv_iconst (v := (0 : Int32)) hx hb dX12_bestOf_60 (by decide) ?_
    exact j_X12_bestOf_61 C0 hN X (lv_sub hl [1, 2, 0] rfl) o0 o0 hf
  · have hf := ite_f hf c49
    refine lv_iconst (v := (1 : Int32)) hx hb dX12_bestOf_52 (by decide) ?_
    refine lv_iload_n hx hb dX12_bestOf_53 rfl (lv_at hl 2 rfl) ?_
    refine lv_iconst (v := (1 : Int32)) hx hb dX12_bestOf_54 (by decide) ?_
    refine lv_isub hx hb dX12_bestOf_55 ?_
    refine lv_ishl hx hb dX12_bestOf_56 ?_
    refine lv_goto (tgt := 61) hx hb dX12_bestOf_57 (by decide) ?_
    exact j_X12_bestOf_61 C0 hN X (lv_sub hl [1, 2, 0] rfl) o0 o0 hf
theorem j_X12_bestOf_43 (C0 : Cx p s m args meth c G bX12_bestOf RX12 9 (some .int) "bestOf") (hN : NT ≤ n) {H : Heap} {locs : List Loc} {ls : Array Slot} {h : Hp} {x0 : Nat} {x2 : Int32} (X : XW G n h s 0 H locs) (hl : lv_has ls 9 [(0, .ref (bs G + x0)), (2, .int x2)]) (o0 : kd x0 = 12) (hf : f_X12_bestOf_43 h x0 x2 = some (rv, h')) : W p l e (rmC 4 0 0) s m args below meth c H locs 0 0 (MQ below (QP G n h' (some (.int rv))) args s 0 0 (Ab G)) (F0 m 43 ls []) := by
  obtain ⟨hx, hb, hr, hml, hown, hts, hK, hlocks, hnm⟩ := id C0
  unfold f_X12_bestOf_43 at hf
  refine lv_iconst (v := (0 : Int32)) hx hb dX12_bestOf_43 (by decide) ?_
  exact j_X12_bestOf_44 C0 hN X (lv_sub hl [0, 1] rfl) o0 hf
theorem k_X12_bestOf (l : Launch) (G : GG) (n : Nat) (hN : NT ≤ n) {h h' : Hp} {x0 : Nat} {x1 : Int32} {x2 : Int32} {x3 : Int32} {rv : Int32} (hf : f_X12_bestOf h x0 x1 x2 x3 = some (rv, h')) : CT l G n n yX12_bestOf (.code yX12_bestOf bX12_bestOf 9 (some .int)) 4 0 0 [.ref (bs G + x0), .int x1, .int x2, .int x3] h h' (some (.int rv)) := by
  refine ct_of (maxL := 9) (ret := (some .int)) (bytes := bX12_bestOf) (by decide) (Nat.le_of_ble_eq_true rfl) (fun p e s m below meth c C0 X ls hl => ?_)
  have hl : lv_has ls 9 [(0, .ref (bs G + x0)), (1, .int x1), (2, .int x2), (3, .int x3)] := hl
  obtain ⟨hx, hb, hr, hml, hown, hts, hK, hlocks, hnm⟩ := id C0
  unfold f_X12_bestOf at hf
  obtain ⟨o0, hf⟩ := gd_e hf
  refine lv_aload_n hx hb dX12_bestOf_0 rfl (lv_at hl 0 rfl) ?_
  refine lv_iconst (v := (0 : Int32)) hx hb dX12_bestOf_1 (by decide) ?_
  refine g_PI hx hb hts hown hK X o0 hN fl_X12_178 ft_12_16 (by decide) rfl dX12_bestOf_2 (fun H locs X => ?_)
  obtain ⟨h1, e2, hf⟩ := lt_e hf
  rw [← e2] at X
  refine lv_aload_n hx hb dX12_bestOf_5 rfl (lv_at hl 0 rfl) ?_
  refine lv_iconst (v := (0 : Int32)) hx hb dX12_bestOf_6 (by decide) ?_
  refine g_PI hx hb hts hown hK X o0 hN fl_X12_181 ft_12_17 (by decide) rfl dX12_bestOf_7 (fun H locs X => ?_)
  obtain ⟨h3, e4, hf⟩ := lt_e hf
  rw [← e4] at X
  refine lv_aload_n hx hb dX12_bestOf_10 rfl (lv_at hl 0 rfl) ?_
  refine lv_iconst (v := (0 : Int32)) hx hb dX12_bestOf_11 (by decide) ?_
  refine g_PI hx hb hts hown hK X o0 hN fl_X12_184 ft_12_18 (by decide) rfl dX12_bestOf_12 (fun H locs X => ?_)
  obtain ⟨h5, e6, hf⟩ := lt_e hf
  rw [← e6] at X
  refine lv_iload_n hx hb dX12_bestOf_15 rfl (lv_at hl 3 rfl) ?_
  refine lv_if_ne (tgt := 87) hx hb dX12_bestOf_16 (by decide) (fun c16 => ?_) (fun c16 => ?_)
  · have hf := ite_f hf c16
    refine lv_aload_n hx hb dX12_bestOf_87 rfl (lv_at hl 0 rfl) ?_
    refine lv_iload_n hx hb dX12_bestOf_88 rfl (lv_at hl 1 rfl) ?_
    refine lv_iload_n hx hb dX12_bestOf_89 rfl (lv_at hl 3 rfl) ?_
    obtain ⟨r7, h8, q9, hf⟩ := bd_e hf
    refine c_V0 (As := [.int x1, .int x3]) (rest := []) (st1 := []) hx hb hml hown hts hK X (k_X12_layTable l G n hN q9) o0 hN lc_X12_layTable lv_X12_187 (ci := 12) rfl rfl (by decide) rfl hl.1 (Nat.le_of_ble_eq_true rfl) dX12_bestOf_90 rfl (fun H locs X => ?_)
    refine lv_aload_n hx hb dX12_bestOf_93 rfl (lv_at hl 0 rfl) ?_
    refine lv_iconst (v := (1 : Int32)) hx hb dX12_bestOf_94 (by decide) ?_
    refine lv_iload_n hx hb dX12_bestOf_95 rfl (lv_at hl 2 rfl) ?_
    obtain ⟨r10, h11, q12, hf⟩ := bd_e hf
    refine c_V0 (As := [.int (1 : Int32), .int x2]) (rest := []) (st1 := [.int r10]) hx hb hml hown hts hK X (k_X12_laid l G n hN q12) o0 hN lc_X12_laid lv_X12_167 (ci := 12) rfl rfl (by decide) rfl hl.1 (Nat.le_of_ble_eq_true rfl) dX12_bestOf_96 rfl (fun H locs X => ?_)
    refine lv_istore (lv' := [(4, .int r10), (0, .ref (bs G + x0)), (1, .int x1), (2, .int x2), (3, .int x3)]) hx hb dX12_bestOf_99 hl (by decide) rfl (fun ls hl => ?_)
    refine lv_iload hx hb dX12_bestOf_101 (lv_at hl 0 rfl) ?_
    refine lv_ldc hx hb hown (hts _ cn_X12_166) dX12_bestOf_103 ?_
    refine lv_icmp_lt (tgt := 111) hx hb dX12_bestOf_105 (by decide) (fun c105 => ?_) (fun c105 => ?_)
    · have hf := ite_t hf c105
      refine lv_iload_n hx hb dX12_bestOf_111 rfl (lv_at hl 3 rfl) ?_
      refine lv_istore (lv' := [(5, .int x2), (4, .int r10), (0, .ref (bs G + x0)), (1, .int x1), (2, .int x2), (3, .int x3)]) hx hb dX12_bestOf_112 hl (by decide) rfl (fun ls hl => ?_)
      refine lv_iload hx hb dX12_bestOf_114 (lv_at hl 1 rfl) ?_
      refine lv_istore (lv' := [(6, .int r10), (5, .int x2), (4, .int r10), (0, .ref (bs G + x0)), (1, .int x1), (2, .int x2), (3, .int x3)]) hx hb dX12_bestOf_116 hl (by decide) rfl (fun ls hl => ?_)
      refine lv_iconst (v := (1 : Int32)) hx hb dX12_bestOf_118 (by decide) ?_
      refine lv_istore (lv' := [(7, .int (1 : Int32)), (6, .int r10), (5, .int x2), (4, .int r10), (0, .ref (bs G + x0)), (1, .int x1), (2, .int x2), (3, .int x3)]) hx hb dX12_bestOf_119 hl (by decide) rfl (fun ls hl => ?_)
      exact j_X12_bestOf_121 C0 hN FU X (lv_sub hl [4, 5, 7, 3, 2, 1, 0] rfl) o0 hf
    · have hf := ite_f hf c105
      refine lv_bipush (v := (-4 : Int32)) hx hb dX12_bestOf_108 (by decide) ?_
      exact r_I hx hb hr hlocks X hf dX12_bestOf_110
  · have hf := ite_t hf c16
    refine lv_iload_n hx hb dX12_bestOf_19 rfl (lv_at hl 2 rfl) ?_
    refine lv_aload_n hx hb dX12_bestOf_20 rfl (lv_at hl 0 rfl) ?_
    obtain ⟨g13, hf⟩ := gd_e hf
    refine g_R hx hb hts hown hK X o0 hN g13 fl_X12_13 (by decide) rfl (by decide) dX12_bestOf_21 ?_
    refine lv_iconst (v := (0 : Int32)) hx hb dX12_bestOf_24 (by decide) ?_
    obtain ⟨g14, hf⟩ := gd_e hf
    refine g_ia hx hb hK X g13 hN g14 (by decide) dX12_bestOf_25 ?_
    refine lv_icmp_gt (tgt := 43) hx hb dX12_bestOf_26 (by decide) (fun c26 => ?_) (fun c26 => ?_)
    · have hf := ite_t hf c26
      exact j_X12_bestOf_43 C0 hN X (lv_sub hl [0, 2] rfl) o0 hf
    · have hf := ite_f hf c26
      refine lv_iload_n hx hb dX12_bestOf_29 rfl (lv_at hl 1 rfl) ?_
      refine lv_iload_n hx hb dX12_bestOf_30 rfl (lv_at hl 2 rfl) ?_
      refine lv_iconst (v := (1 : Int32)) hx hb dX12_bestOf_31 (by decide) ?_
      refine lv_isub hx hb dX12_bestOf_32 ?_
      obtain ⟨r15, h16, q17, hf⟩ := bd_e hf
      refine c_S0 (As := [.int x1, .int (x2 - (1 : Int32))]) (rest := []) (st1 := [.int r15]) hx hb hml hown hts hK X (k_X12_has l G n hN q17) lc_X12_has ls_X12_170 (by decide) rfl hl.1 (Nat.le_of_ble_eq_true rfl) dX12_bestOf_33 rfl (fun H locs X => ?_)
      refine lv_if_eq (tgt := 43) hx hb dX12_bestOf_36 (by decide) (fun c36 => ?_) (fun c36 => ?_)
      · have hf := ite_t hf c36
        exact j_X12_bestOf_43 C0 hN X (lv_sub hl [0, 2] rfl) o0 hf
      · have hf := ite_f hf c36
        refine lv_iconst (v := (1 : Int32)) hx hb dX12_bestOf_39 (by decide) ?_
        refine lv_goto (tgt := 44) hx hb dX12_bestOf_40 (by decide) ?_
        exact j_X12_bestOf_44 C0 hN X (lv_sub hl [0, 2] rfl) o0 hf
end
theorem dX12_hasBest_0 : decode bX12_hasBest 0 = .ok (.aload_n 0, 1) := by decide +kernel
theorem dX12_hasBest_1 : decode bX12_hasBest 1 = .ok (.aload_n 0, 1) := by decide +kernel
theorem dX12_hasBest_2 : decode bX12_hasBest 2 = .ok (.iload_n 1, 1) := by decide +kernel
theorem dX12_hasBest_3 : decode bX12_hasBest 3 = .ok (.invokevirtual 131, 3) := by decide +kernel
theorem dX12_hasBest_6 : decode bX12_hasBest 6 = .ok (.iload_n 2, 1) := by decide +kernel
theorem dX12_hasBest_7 : decode bX12_hasBest 7 = .ok (.iconst (-1), 1) := by decide +kernel
theorem dX12_hasBest_8 : decode bX12_hasBest 8 = .ok (.ixor, 1) := by decide +kernel
theorem dX12_hasBest_9 : decode bX12_hasBest 9 = .ok (.iand, 1) := by decide +kernel
theorem dX12_hasBest_10 : decode bX12_hasBest 10 = .ok (.aload_n 0, 1) := by decide +kernel
theorem dX12_hasBest_11 : decode bX12_hasBest 11 = .ok (.getfield 13, 3) := by decide +kernel
theorem dX12_hasBest_14 : decode bX12_hasBest 14 = .ok (.bipush 53, 2) := by decide +kernel
theorem dX12_hasBest_16 : decode bX12_hasBest 16 = .ok (.iload_n 1, 1) := by decide +kernel
theorem dX12_hasBest_17 : decode bX12_hasBest 17 = .ok (.iadd, 1) := by decide +kernel
theorem dX12_hasBest_18 : decode bX12_hasBest 18 = .ok (.iaload, 1) := by decide +kernel
theorem dX12_hasBest_19 : decode bX12_hasBest 19 = .ok (.iload_n 3, 1) := by decide +kernel
theorem dX12_hasBest_20 : decode bX12_hasBest 20 = .ok (.invokevirtual 191, 3) := by decide +kernel
theorem dX12_hasBest_23 : decode bX12_hasBest 23 = .ok (.bipush (-4), 2) := by decide +kernel
theorem dX12_hasBest_25 : decode bX12_hasBest 25 = .ok (.if_icmp .eq 7, 3) := by decide +kernel
theorem dX12_hasBest_28 : decode bX12_hasBest 28 = .ok (.iconst 1, 1) := by decide +kernel
theorem dX12_hasBest_29 : decode bX12_hasBest 29 = .ok (.goto 4, 3) := by decide +kernel
theorem dX12_hasBest_32 : decode bX12_hasBest 32 = .ok (.iconst 0, 1) := by decide +kernel
theorem dX12_hasBest_33 : decode bX12_hasBest 33 = .ok (.ireturn, 1) := by decide +kernel
section
variable {p : Program} {l : Launch} {e : Env} {s : State} {m : MethodId} {args : Array Value} {below : List Frame} {meth : Method} {c : Code} {G : GG} {n : Nat} {h' : Hp} {rv : Int32}
set_option maxHeartbeats 4000000
set_option maxRecDepth 100000
theorem k_X12_hasBest (l : Launch) (G : GG) (n : Nat) (hN : NT ≤ n) {h h' : Hp} {x0 : Nat} {x1 : Int32} {x2 : Int32} {x3 : Int32} {rv : Int32} (hf : f_X12_hasBest h x0 x1 x2 x3 = some (rv, h')) : CT l G n n yX12_hasBest (.code yX12_hasBest bX12_hasBest 4 (some .boolean)) 5 0 0 [.ref (bs G + x0), .int x1, .int x2, .int x3] h h' (some (.int rv)) := by
  refine ct_of (maxL := 4) (ret := (some .boolean)) (bytes := bX12_hasBest) (by decide) (Nat.le_of_ble_eq_true rfl) (fun p e s m below meth c C0 X ls hl => ?_)
  have hl : lv_has ls 4 [(0, .ref (bs G + x0)), (1, .int x1), (2, .int x2), (3, .int x3)] := hl
  obtain ⟨hx, hb, hr, hml, hown, hts, hK, hlocks, hnm⟩ := id C0
  unfold f_X12_hasBest at hf
  obtain ⟨o0, hf⟩ := gd_e hf
  refine lv_aload_n hx hb dX12_hasBest_0 rfl (lv_at hl 0 rfl) ?_
  refine lv_aload_n hx hb dX12_hasBest_1 rfl (lv_at hl 0 rfl) ?_
  refine lv_iload_n hx hb dX12_hasBest_2 rfl (lv_at hl 1 rfl) ?_
  obtain ⟨r1, h2, q3, hf⟩ := bd_e hf
  refine c_V0 (As := [.int x1]) (rest := [.ref (bs G + x0)]) (st1 := [.int r1, .ref (bs G + x0)]) hx hb hml hown hts hK X (k_X12_ofOne l G n hN q3) o0 hN lc_X12_ofOne lv_X12_131 (ci := 12) rfl rfl (by decide) rfl hl.1 (Nat.le_of_ble_eq_true rfl) dX12_hasBest_3 rfl (fun H locs X => ?_)
  refine lv_iload_n hx hb dX12_hasBest_6 rfl (lv_at hl 2 rfl) ?_
  refine lv_iconst (v := (-1 : Int32)) hx hb dX12_hasBest_7 (by decide) ?_
  refine lv_ixor hx hb dX12_hasBest_8 ?_
  refine lv_iand hx hb dX12_hasBest_9 ?_
  refine lv_aload_n hx hb dX12_hasBest_10 rfl (lv_at hl 0 rfl) ?_
  obtain ⟨g4, hf⟩ := gd_e hf
  refine g_R hx hb hts hown hK X o0 hN g4 fl_X12_13 (by decide) rfl (by decide) dX12_hasBest_11 ?_
  refine lv_bipush (v := (53 : Int32)) hx hb dX12_hasBest_14 (by decide) ?_
  refine lv_iload_n hx hb dX12_hasBest_16 rfl (lv_at hl 1 rfl) ?_
  refine lv_iadd hx hb dX12_hasBest_17 ?_
  obtain ⟨g5, hf⟩ := gd_e hf
  refine g_ia hx hb hK X g4 hN g5 (by decide) dX12_hasBest_18 ?_
  refine lv_iload_n hx hb dX12_hasBest_19 rfl (lv_at hl 3 rfl) ?_
  obtain ⟨r6, h7, q8, hf⟩ := bd_e hf
  refine c_V0 (As := [.int (r1 &&& (x2 ^^^ (-1 : Int32))), .int (h2.1 (h2.2 x0 1) ((53 : Int32) + x1).toNatClampNeg), .int x3]) (rest := []) (st1 := [.int r6]) hx hb hml hown hts hK X (k_X12_bestOf l G n hN q8) o0 hN lc_X12_bestOf lv_X12_191 (ci := 12) rfl rfl (by decide) rfl hl.1 (Nat.le_of_ble_eq_true rfl) dX12_hasBest_20 rfl (fun H locs X => ?_)
  refine lv_bipush (v := (-4 : Int32)) hx hb dX12_hasBest_23 (by decide) ?_
  refine lv_icmp_eq (tgt := 32) hx hb dX12_hasBest_25 (by decide) (fun c25 => ?_) (fun c25 => ?_)
  · have hf := ite_t hf c25
    refine lv_iconst (v := (0 : Int32)) hx hb dX12_hasBest_32 (by decide) ?_
    exact r_Z hx hb hr hlocks X rfl hf dX12_hasBest_33
  · have hf := ite_f hf c25
    refine lv_iconst (v := (1 : Int32)) hx hb dX12_hasBest_28 (by decide) ?_
    refine lv_goto (tgt := 33) hx hb dX12_hasBest_29 (by decide) ?_
    exact r_Z hx hb hr hlocks X rfl hf dX12_hasBest_33
end
theorem dX12_usedSet_0 : decode bX12_usedSet 0 = .ok (.aload_n 0, 1) := by decide +kernel
theorem dX12_usedSet_1 : decode bX12_usedSet 1 = .ok (.getfield 178, 3) := by decide +kernel
theorem dX12_usedSet_4 : decode bX12_usedSet 4 = .ok (.aload_n 0, 1) := by decide +kernel
theorem dX12_usedSet_5 : decode bX12_usedSet 5 = .ok (.getfield 181, 3) := by decide +kernel
theorem dX12_usedSet_8 : decode bX12_usedSet 8 = .ok (.ior, 1) := by decide +kernel
theorem dX12_usedSet_9 : decode bX12_usedSet 9 = .ok (.aload_n 0, 1) := by decide +kernel
theorem dX12_usedSet_10 : decode bX12_usedSet 10 = .ok (.getfield 184, 3) := by decide +kernel
theorem dX12_usedSet_13 : decode bX12_usedSet 13 = .ok (.ior, 1) := by decide +kernel
theorem dX12_usedSet_14 : decode bX12_usedSet 14 = .ok (.ireturn, 1) := by decide +kernel
section
variable {p : Program} {l : Launch} {e : Env} {s : State} {m : MethodId} {args : Array Value} {below : List Frame} {meth : Method} {c : Code} {G : GG} {n : Nat} {h' : Hp} {rv : Int32}
set_option maxHeartbeats 4000000
set_option maxRecDepth 100000
theorem k_X12_usedSet (l : Launch) (G : GG) (n : Nat) (hN : NT ≤ n) {h h' : Hp} {x0 : Nat} {rv : Int32} (hf : f_X12_usedSet h x0 = some (rv, h')) : CT l G n n yX12_usedSet (.code yX12_usedSet bX12_usedSet 1 (some .int)) 0 0 0 [.ref (bs G + x0)] h h' (some (.int rv)) := by
  refine ct_of (maxL := 1) (ret := (some .int)) (bytes := bX12_usedSet) (by decide) (Nat.le_of_ble_eq_true rfl) (fun p e s m below meth c C0 X ls hl => ?_)
  have hl : lv_has ls 1 [(0, .ref (bs G + x0))] := hl
  obtain ⟨hx, hb, hr, hml, hown, hts, hK, hlocks, hnm⟩ := id C0
  unfold f_X12_usedSet at hf
  obtain ⟨o0, hf⟩ := gd_e hf
  refine lv_aload_n hx hb dX12_usedSet_0 rfl (lv_at hl 0 rfl) ?_
  refine g_I hx hb hts hown hK X o0 hN fl_X12_178 (by decide) rfl dX12_usedSet_1 ?_
  refine lv_aload_n hx hb dX12_usedSet_4 rfl (lv_at hl 0 rfl) ?_
  refine g_I hx hb hts hown hK X o0 hN fl_X12_181 (by decide) rfl dX12_usedSet_5 ?_
  refine lv_ior hx hb dX12_usedSet_8 ?_
  refine lv_aload_n hx hb dX12_usedSet_9 rfl (lv_at hl 0 rfl) ?_
  refine g_I hx hb hts hown hK X o0 hN fl_X12_184 (by decide) rfl dX12_usedSet_10 ?_
  refine lv_ior hx hb dX12_usedSet_13 ?_
  exact r_I hx hb hr hlocks X hf dX12_usedSet_14
end
theorem dX12_keepDay_0 : decode bX12_keepDay 0 = .ok (.aload_n 0, 1) := by decide +kernel
theorem dX12_keepDay_1 : decode bX12_keepDay 1 = .ok (.getfield 119, 3) := by decide +kernel
theorem dX12_keepDay_4 : decode bX12_keepDay 4 = .ok (.bipush 8, 2) := by decide +kernel
theorem dX12_keepDay_6 : decode bX12_keepDay 6 = .ok (.if_icmp .ne 43, 3) := by decide +kernel
theorem dX12_keepDay_9 : decode bX12_keepDay 9 = .ok (.iconst 0, 1) := by decide +kernel
theorem dX12_keepDay_10 : decode bX12_keepDay 10 = .ok (.istore_n 1, 1) := by decide +kernel
theorem dX12_keepDay_11 : decode bX12_keepDay 11 = .ok (.iload_n 1, 1) := by decide +kernel
theorem dX12_keepDay_12 : decode bX12_keepDay 12 = .ok (.sipush 357, 3) := by decide +kernel
theorem dX12_keepDay_15 : decode bX12_keepDay 15 = .ok (.if_icmp .ge 24, 3) := by decide +kernel
theorem dX12_keepDay_18 : decode bX12_keepDay 18 = .ok (.aload_n 0, 1) := by decide +kernel
theorem dX12_keepDay_19 : decode bX12_keepDay 19 = .ok (.getfield 23, 3) := by decide +kernel
theorem dX12_keepDay_22 : decode bX12_keepDay 22 = .ok (.iload_n 1, 1) := by decide +kernel
theorem dX12_keepDay_23 : decode bX12_keepDay 23 = .ok (.aload_n 0, 1) := by decide +kernel
theorem dX12_keepDay_24 : decode bX12_keepDay 24 = .ok (.getfield 23, 3) := by decide +kernel
theorem dX12_keepDay_27 : decode bX12_keepDay 27 = .ok (.iload_n 1, 1) := by decide +kernel
theorem dX12_keepDay_28 : decode bX12_keepDay 28 = .ok (.bipush 51, 2) := by decide +kernel
theorem dX12_keepDay_30 : decode bX12_keepDay 30 = .ok (.iadd, 1) := by decide +kernel
theorem dX12_keepDay_31 : decode bX12_keepDay 31 = .ok (.iaload, 1) := by decide +kernel
theorem dX12_keepDay_32 : decode bX12_keepDay 32 = .ok (.iastore, 1) := by decide +kernel
theorem dX12_keepDay_33 : decode bX12_keepDay 33 = .ok (.iinc 1 1, 3) := by decide +kernel
theorem dX12_keepDay_36 : decode bX12_keepDay 36 = .ok (.goto (-25), 3) := by decide +kernel
theorem dX12_keepDay_39 : decode bX12_keepDay 39 = .ok (.aload_n 0, 1) := by decide +kernel
theorem dX12_keepDay_40 : decode bX12_keepDay 40 = .ok (.dup, 1) := by decide +kernel
theorem dX12_keepDay_41 : decode bX12_keepDay 41 = .ok (.getfield 119, 3) := by decide +kernel
theorem dX12_keepDay_44 : decode bX12_keepDay 44 = .ok (.iconst 1, 1) := by decide +kernel
theorem dX12_keepDay_45 : decode bX12_keepDay 45 = .ok (.isub, 1) := by decide +kernel
theorem dX12_keepDay_46 : decode bX12_keepDay 46 = .ok (.putfield 119, 3) := by decide +kernel
theorem dX12_keepDay_49 : decode bX12_keepDay 49 = .ok (.iconst 0, 1) := by decide +kernel
theorem dX12_keepDay_50 : decode bX12_keepDay 50 = .ok (.istore_n 1, 1) := by decide +kernel
theorem dX12_keepDay_51 : decode bX12_keepDay 51 = .ok (.iload_n 1, 1) := by decide +kernel
theorem dX12_keepDay_52 : decode bX12_keepDay 52 = .ok (.bipush 51, 2) := by decide +kernel
theorem dX12_keepDay_54 : decode bX12_keepDay 54 = .ok (.if_icmp .ge 29, 3) := by decide +kernel
theorem dX12_keepDay_57 : decode bX12_keepDay 57 = .ok (.aload_n 0, 1) := by decide +kernel
theorem dX12_keepDay_58 : decode bX12_keepDay 58 = .ok (.getfield 23, 3) := by decide +kernel
theorem dX12_keepDay_61 : decode bX12_keepDay 61 = .ok (.bipush 51, 2) := by decide +kernel
theorem dX12_keepDay_63 : decode bX12_keepDay 63 = .ok (.aload_n 0, 1) := by decide +kernel
theorem dX12_keepDay_64 : decode bX12_keepDay 64 = .ok (.getfield 119, 3) := by decide +kernel
theorem dX12_keepDay_67 : decode bX12_keepDay 67 = .ok (.imul, 1) := by decide +kernel
theorem dX12_keepDay_68 : decode bX12_keepDay 68 = .ok (.iload_n 1, 1) := by decide +kernel
theorem dX12_keepDay_69 : decode bX12_keepDay 69 = .ok (.iadd, 1) := by decide +kernel
theorem dX12_keepDay_70 : decode bX12_keepDay 70 = .ok (.aload_n 0, 1) := by decide +kernel
theorem dX12_keepDay_71 : decode bX12_keepDay 71 = .ok (.getfield 20, 3) := by decide +kernel
theorem dX12_keepDay_74 : decode bX12_keepDay 74 = .ok (.iload_n 1, 1) := by decide +kernel
theorem dX12_keepDay_75 : decode bX12_keepDay 75 = .ok (.iaload, 1) := by decide +kernel
theorem dX12_keepDay_76 : decode bX12_keepDay 76 = .ok (.iastore, 1) := by decide +kernel
theorem dX12_keepDay_77 : decode bX12_keepDay 77 = .ok (.iinc 1 1, 3) := by decide +kernel
theorem dX12_keepDay_80 : decode bX12_keepDay 80 = .ok (.goto (-29), 3) := by decide +kernel
theorem dX12_keepDay_83 : decode bX12_keepDay 83 = .ok (.aload_n 0, 1) := by decide +kernel
theorem dX12_keepDay_84 : decode bX12_keepDay 84 = .ok (.dup, 1) := by decide +kernel
theorem dX12_keepDay_85 : decode bX12_keepDay 85 = .ok (.getfield 119, 3) := by decide +kernel
theorem dX12_keepDay_88 : decode bX12_keepDay 88 = .ok (.iconst 1, 1) := by decide +kernel
theorem dX12_keepDay_89 : decode bX12_keepDay 89 = .ok (.iadd, 1) := by decide +kernel
theorem dX12_keepDay_90 : decode bX12_keepDay 90 = .ok (.putfield 119, 3) := by decide +kernel
theorem dX12_keepDay_93 : decode bX12_keepDay 93 = .ok (.return_, 1) := by decide +kernel
section
variable {p : Program} {l : Launch} {e : Env} {s : State} {m : MethodId} {args : Array Value} {below : List Frame} {meth : Method} {c : Code} {G : GG} {n : Nat} {h' : Hp} {rv : Unit}
set_option maxHeartbeats 4000000
set_option maxRecDepth 100000
theorem j_X12_keepDay_51 (C0 : Cx p s m args meth c G bX12_keepDay RX12 2 none "keepDay") (hN : NT ≤ n) : ∀ (fu : Nat), ∀ {H : Heap} {locs : List Loc} {ls : Array Slot} {h : Hp} {x0 : Nat} {x1 : Int32}, XW G n h s 0 H locs → lv_has ls 2 [(0, .ref (bs G + x0)), (1, .int x1)] → kd x0 = 12 → f_X12_keepDay_51 fu h x0 x1 = some (rv, h') → W p l e (rmC 0 0 0) s m args below meth c H locs 0 0 (MQ below (QP G n h' none) args s 0 0 (Ab G)) (F0 m 51 ls []) := by
  obtain ⟨hx, hb, hr, hml, hown, hts, hK, hlocks, hnm⟩ := id C0
  intro fu
  induction fu with
  | zero => intro H locs ls h x0 x1 X hl o0 hf; cases hf
  | succ fu ih =>
    intro H locs ls h x0 x1 X hl o0 hf
    rw [f_X12_keepDay_51] at hf
    refine lv_iload_n hx hb dX12_keepDay_51 rfl (lv_at hl 1 rfl) ?_
    refine lv_bipush (v := (51 : Int32)) hx hb dX12_keepDay_52 (by decide) ?_
    refine lv_icmp_ge (tgt := 83) hx hb dX12_keepDay_54 (by decide) (fun c54 => ?_) (fun c54 => ?_)
    · have hf := ite_t hf c54
      refine lv_aload_n hx hb dX12_keepDay_83 rfl (lv_at hl 0 rfl) ?_
      refine lv_dup hx hb dX12_keepDay_84 rfl ?_
      refine g_I hx hb hts hown hK X o0 hN fl_X12_119 (by decide) rfl dX12_keepDay_85 ?_
      refine lv_iconst (v := (1 : Int32)) hx hb dX12_keepDay_88 (by decide) ?_
      refine lv_iadd hx hb dX12_keepDay_89 ?_
      refine g_PI hx hb hts hown hK X o0 hN fl_X12_119 ft_12_5 (by decide) rfl dX12_keepDay_90 (fun H locs X => ?_)
      obtain ⟨h1, e2, hf⟩ := lt_e hf
      rw [← e2] at X
      exact r_V hx hb hr hlocks X hf dX12_keepDay_93
    · have hf := ite_f hf c54
      refine lv_aload_n hx hb dX12_keepDay_57 rfl (lv_at hl 0 rfl) ?_
      obtain ⟨g3, hf⟩ := gd_e hf
      refine g_R hx hb hts hown hK X o0 hN g3 fl_X12_23 (by decide) rfl (by decide) dX12_keepDay_58 ?_
      refine lv_bipush (v := (51 : Int32)) hx hb dX12_keepDay_61 (by decide) ?_
      refine lv_aload_n hx hb dX12_keepDay_63 rfl (lv_at hl 0 rfl) ?_
      refine g_I hx hb hts hown hK X o0 hN fl_X12_119 (by decide) rfl dX12_keepDay_64 ?_
      refine lv_imul hx hb dX12_keepDay_67 ?_
      refine lv_iload_n hx hb dX12_keepDay_68 rfl (lv_at hl 1 rfl) ?_
      refine lv_iadd hx hb dX12_keepDay_69 ?_
      refine lv_aload_n hx hb dX12_keepDay_70 rfl (lv_at hl 0 rfl) ?_
      obtain ⟨g4, hf⟩ := gd_e hf
      refine g_R hx hb hts hown hK X o0 hN g4 fl_X12_20 (by decide) rfl (by decide) dX12_keepDay_71 ?_
      refine lv_iload_n hx hb dX12_keepDay_74 rfl (lv_at hl 1 rfl) ?_
      obtain ⟨g5, hf⟩ := gd_e hf
      refine g_ia hx hb hK X g4 hN g5 (by decide) dX12_keepDay_75 ?_
      obtain ⟨g6, hf⟩ := gd_e hf
      refine g_is hx hb hK X g3 hN g6 (by decide) dX12_keepDay_76 (fun H locs X => ?_)
      obtain ⟨h7, e8, hf⟩ := lt_e hf
      rw [← e8] at X
      refine lv_iinc (v := (x1 + (1 : Int32))) (lv' := [(1, .int (x1 + (1 : Int32))), (0, .ref (bs G + x0))]) hx hb dX12_keepDay_77 hl (k := 1) rfl rfl (by decide) rfl (fun ls hl => ?_)
      refine lv_goto (tgt := 51) hx hb dX12_keepDay_80 (by decide) ?_
      exact ih X (lv_sub hl [1, 0] rfl) o0 hf
theorem j_X12_keepDay_11 (C0 : Cx p s m args meth c G bX12_keepDay RX12 2 none "keepDay") (hN : NT ≤ n) : ∀ (fu : Nat), ∀ {H : Heap} {locs : List Loc} {ls : Array Slot} {h : Hp} {x0 : Nat} {x1 : Int32}, XW G n h s 0 H locs → lv_has ls 2 [(0, .ref (bs G + x0)), (1, .int x1)] → kd x0 = 12 → f_X12_keepDay_11 fu h x0 x1 = some (rv, h') → W p l e (rmC 0 0 0) s m args below meth c H locs 0 0 (MQ below (QP G n h' none) args s 0 0 (Ab G)) (F0 m 11 ls []) := by
  obtain ⟨hx, hb, hr, hml, hown, hts, hK, hlocks, hnm⟩ := id C0
  intro fu
  induction fu with
  | zero => intro H locs ls h x0 x1 X hl o0 hf; cases hf
  | succ fu ih =>
    intro H locs ls h x0 x1 X hl o0 hf
    rw [f_X12_keepDay_11] at hf
    refine lv_iload_n hx hb dX12_keepDay_11 rfl (lv_at hl 1 rfl) ?_
    refine lv_sipush (v := (357 : Int32)) hx hb dX12_keepDay_12 (by decide) ?_
    refine lv_icmp_ge (tgt := 39) hx hb dX12_keepDay_15 (by decide) (fun c15 => ?_) (fun c15 => ?_)
    · have hf := ite_t hf c15
      refine lv_aload_n hx hb dX12_keepDay_39 rfl (lv_at hl 0 rfl) ?_
      refine lv_dup hx hb dX12_keepDay_40 rfl ?_
      refine g_I hx hb hts hown hK X o0 hN fl_X12_119 (by decide) rfl dX12_keepDay_41 ?_
      refine lv_iconst (v := (1 : Int32)) hx hb dX12_keepDay_44 (by decide) ?_
      refine lv_isub hx hb dX12_keepDay_45 ?_
      refine g_PI hx hb hts hown hK X o0 hN fl_X12_119 ft_12_5 (by decide) rfl dX12_keepDay_46 (fun H locs X => ?_)
      obtain ⟨h1, e2, hf⟩ := lt_e hf
      rw [← e2] at X
      refine lv_iconst (v := (0 : Int32)) hx hb dX12_keepDay_49 (by decide) ?_
      refine lv_istore_n (lv' := [(1, .int (0 : Int32)), (0, .ref (bs G + x0))]) hx hb dX12_keepDay_50 rfl hl (by decide) rfl (fun ls hl => ?_)
      exact j_X12_keepDay_51 C0 hN FU X (lv_sub hl [1, 0] rfl) o0 hf
    · have hf := ite_f hf c15
      refine lv_aload_n hx hb dX12_keepDay_18 rfl (lv_at hl 0 rfl) ?_
      obtain ⟨g3, hf⟩ := gd_e hf
      refine g_R hx hb hts hown hK X o0 hN g3 fl_X12_23 (by decide) rfl (by decide) dX12_keepDay_19 ?_
      refine lv_iload_n hx hb dX12_keepDay_22 rfl (lv_at hl 1 rfl) ?_
      refine lv_aload_n hx hb dX12_keepDay_23 rfl (lv_at hl 0 rfl) ?_
      obtain ⟨g4, hf⟩ := gd_e hf
      refine g_R hx hb hts hown hK X o0 hN g4 fl_X12_23 (by decide) rfl (by decide) dX12_keepDay_24 ?_
      refine lv_iload_n hx hb dX12_keepDay_27 rfl (lv_at hl 1 rfl) ?_
      refine lv_bipush (v := (51 : Int32)) hx hb dX12_keepDay_28 (by decide) ?_
      refine lv_iadd hx hb dX12_keepDay_30 ?_
      obtain ⟨g5, hf⟩ := gd_e hf
      refine g_ia hx hb hK X g4 hN g5 (by decide) dX12_keepDay_31 ?_
      obtain ⟨g6, hf⟩ := gd_e hf
      refine g_is hx hb hK X g3 hN g6 (by decide) dX12_keepDay_32 (fun H locs X => ?_)
      obtain ⟨h7, e8, hf⟩ := lt_e hf
      rw [← e8] at X
      refine lv_iinc (v := (x1 + (1 : Int32))) (lv' := [(1, .int (x1 + (1 : Int32))), (0, .ref (bs G + x0))]) hx hb dX12_keepDay_33 hl (k := 1) rfl rfl (by decide) rfl (fun ls hl => ?_)
      refine lv_goto (tgt := 11) hx hb dX12_keepDay_36 (by decide) ?_
      exact ih X (lv_sub hl [1, 0] rfl) o0 hf
theorem k_X12_keepDay (l : Launch) (G : GG) (n : Nat) (hN : NT ≤ n) {h h' : Hp} {x0 : Nat} {rv : Unit} (hf : f_X12_keepDay h x0 = some (rv, h')) : CT l G n n yX12_keepDay (.code yX12_keepDay bX12_keepDay 2 none) 0 0 0 [.ref (bs G + x0)] h h' none := by
  refine ct_of (maxL := 2) (ret := none) (bytes := bX12_keepDay) (by decide) (Nat.le_of_ble_eq_true rfl) (fun p e s m below meth c C0 X ls hl => ?_)
  have hl : lv_has ls 2 [(0, .ref (bs G + x0))] := hl
  obtain ⟨hx, hb, hr, hml, hown, hts, hK, hlocks, hnm⟩ := id C0
  unfold f_X12_keepDay at hf
  obtain ⟨o0, hf⟩ := gd_e hf
  refine lv_aload_n hx hb dX12_keepDay_0 rfl (lv_at hl 0 rfl) ?_
  refine g_I hx hb hts hown hK X o0 hN fl_X12_119 (by decide) rfl dX12_keepDay_1 ?_
  refine lv_bipush (v := (8 : Int32)) hx hb dX12_keepDay_4 (by decide) ?_
  refine lv_icmp_ne (tgt := 49) hx hb dX12_keepDay_6 (by decide) (fun c6 => ?_) (fun c6 => ?_)
  · have hf := ite_f hf c6
    refine lv_iconst (v := (0 : Int32)) hx hb dX12_keepDay_49 (by decide) ?_
    refine lv_istore_n (lv' := [(1, .int (0 : Int32)), (0, .ref (bs G + x0))]) hx hb dX12_keepDay_50 rfl hl (by decide) rfl (fun ls hl => ?_)
    exact j_X12_keepDay_51 C0 hN FU X (lv_sub hl [1, 0] rfl) o0 hf
  · have hf := ite_t hf c6
    refine lv_iconst (v := (0 : Int32)) hx hb dX12_keepDay_9 (by decide) ?_
    refine lv_istore_n (lv' := [(1, .int (0 : Int32)), (0, .ref (bs G + x0))]) hx hb dX12_keepDay_10 rfl hl (by decide) rfl (fun ls hl => ?_)
    exact j_X12_keepDay_11 C0 hN FU X (lv_sub hl [1, 0] rfl) o0 hf
end
theorem dX12_take_0 : decode bX12_take 0 = .ok (.iconst 1, 1) := by decide +kernel
theorem dX12_take_1 : decode bX12_take 1 = .ok (.istore_n 3, 1) := by decide +kernel
theorem dX12_take_2 : decode bX12_take 2 = .ok (.iload_n 3, 1) := by decide +kernel
theorem dX12_take_3 : decode bX12_take 3 = .ok (.aload_n 0, 1) := by decide +kernel
theorem dX12_take_4 : decode bX12_take 4 = .ok (.getfield 13, 3) := by decide +kernel
theorem dX12_take_7 : decode bX12_take 7 = .ok (.iconst 0, 1) := by decide +kernel
theorem dX12_take_8 : decode bX12_take 8 = .ok (.iaload, 1) := by decide +kernel
theorem dX12_take_9 : decode bX12_take 9 = .ok (.if_icmp .gt 28, 3) := by decide +kernel
theorem dX12_take_12 : decode bX12_take 12 = .ok (.iload_n 2, 1) := by decide +kernel
theorem dX12_take_13 : decode bX12_take 13 = .ok (.iload_n 3, 1) := by decide +kernel
theorem dX12_take_14 : decode bX12_take 14 = .ok (.iconst 1, 1) := by decide +kernel
theorem dX12_take_15 : decode bX12_take 15 = .ok (.isub, 1) := by decide +kernel
theorem dX12_take_16 : decode bX12_take 16 = .ok (.invokestatic 170, 3) := by decide +kernel
theorem dX12_take_19 : decode bX12_take 19 = .ok (.ifCond .eq 12, 3) := by decide +kernel
theorem dX12_take_22 : decode bX12_take 22 = .ok (.aload_n 0, 1) := by decide +kernel
theorem dX12_take_23 : decode bX12_take 23 = .ok (.getfield 20, 3) := by decide +kernel
theorem dX12_take_26 : decode bX12_take 26 = .ok (.iconst 2, 1) := by decide +kernel
theorem dX12_take_27 : decode bX12_take 27 = .ok (.iload_n 3, 1) := by decide +kernel
theorem dX12_take_28 : decode bX12_take 28 = .ok (.iadd, 1) := by decide +kernel
theorem dX12_take_29 : decode bX12_take 29 = .ok (.iload_n 1, 1) := by decide +kernel
theorem dX12_take_30 : decode bX12_take 30 = .ok (.iastore, 1) := by decide +kernel
theorem dX12_take_31 : decode bX12_take 31 = .ok (.iinc 3 1, 3) := by decide +kernel
theorem dX12_take_34 : decode bX12_take 34 = .ok (.goto (-32), 3) := by decide +kernel
theorem dX12_take_37 : decode bX12_take 37 = .ok (.aload_n 0, 1) := by decide +kernel
theorem dX12_take_38 : decode bX12_take 38 = .ok (.getfield 20, 3) := by decide +kernel
theorem dX12_take_41 : decode bX12_take 41 = .ok (.iconst 2, 1) := by decide +kernel
theorem dX12_take_42 : decode bX12_take 42 = .ok (.dup2, 1) := by decide +kernel
theorem dX12_take_43 : decode bX12_take 43 = .ok (.iaload, 1) := by decide +kernel
theorem dX12_take_44 : decode bX12_take 44 = .ok (.iconst 1, 1) := by decide +kernel
theorem dX12_take_45 : decode bX12_take 45 = .ok (.iload_n 1, 1) := by decide +kernel
theorem dX12_take_46 : decode bX12_take 46 = .ok (.ishl, 1) := by decide +kernel
theorem dX12_take_47 : decode bX12_take 47 = .ok (.ior, 1) := by decide +kernel
theorem dX12_take_48 : decode bX12_take 48 = .ok (.iastore, 1) := by decide +kernel
theorem dX12_take_49 : decode bX12_take 49 = .ok (.return_, 1) := by decide +kernel
section
variable {p : Program} {l : Launch} {e : Env} {s : State} {m : MethodId} {args : Array Value} {below : List Frame} {meth : Method} {c : Code} {G : GG} {n : Nat} {h' : Hp} {rv : Unit}
set_option maxHeartbeats 4000000
set_option maxRecDepth 100000
theorem j_X12_take_2 (C0 : Cx p s m args meth c G bX12_take RX12 4 none "take") (hN : NT ≤ n) : ∀ (fu : Nat), ∀ {H : Heap} {locs : List Loc} {ls : Array Slot} {h : Hp} {x0 : Nat} {x1 : Int32} {x2 : Int32} {x3 : Int32}, XW G n h s 0 H locs → lv_has ls 4 [(0, .ref (bs G + x0)), (1, .int x1), (2, .int x2), (3, .int x3)] → kd x0 = 12 → f_X12_take_2 fu h x0 x1 x2 x3 = some (rv, h') → W p l e (rmC 1 0 0) s m args below meth c H locs 0 0 (MQ below (QP G n h' none) args s 0 0 (Ab G)) (F0 m 2 ls []) := by
  obtain ⟨hx, hb, hr, hml, hown, hts, hK, hlocks, hnm⟩ := id C0
  intro fu
  induction fu with
  | zero => intro H locs ls h x0 x1 x2 x3 X hl o0 hf; cases hf
  | succ fu ih =>
    intro H locs ls h x0 x1 x2 x3 X hl o0 hf
    rw [f_X12_take_2] at hf
    refine lv_iload_n hx hb dX12_take_2 rfl (lv_at hl 3 rfl) ?_
    refine lv_aload_n hx hb dX12_take_3 rfl (lv_at hl 0 rfl) ?_
    obtain ⟨g1, hf⟩ := gd_e hf
    refine g_R hx hb hts hown hK X o0 hN g1 fl_X12_13 (by decide) rfl (by decide) dX12_take_4 ?_
    refine lv_iconst (v := (0 : Int32)) hx hb dX12_take_7 (by decide) ?_
    obtain ⟨g2, hf⟩ := gd_e hf
    refine g_ia hx hb hK X g1 hN g2 (by decide) dX12_take_8 ?_
    refine lv_icmp_gt (tgt := 37) hx hb dX12_take_9 (by decide) (fun c9 => ?_) (fun c9 => ?_)
    · have hf := ite_t hf c9
      refine lv_aload_n hx hb dX12_take_37 rfl (lv_at hl 0 rfl) ?_
      obtain ⟨g3, hf⟩ := gd_e hf
      refine g_R hx hb hts hown hK X o0 hN g3 fl_X12_20 (by decide) rfl (by decide) dX12_take_38 ?_
      refine lv_iconst (v := (2 : Int32)) hx hb dX12_take_41 (by decide) ?_
      refine lv_dup2_11 hx hb dX12_take_42 rfl rfl ?_
      obtain ⟨g4, hf⟩ := gd_e hf
      refine g_ia hx hb hK X g3 hN g4 (by decide) dX12_take_43 ?_
      refine lv_iconst (v := (1 : Int32)) hx hb dX12_take_44 (by decide) ?_
      refine lv_iload_n hx hb dX12_take_45 rfl (lv_at hl 1 rfl) ?_
      refine lv_ishl hx hb dX12_take_46 ?_
      refine lv_ior hx hb dX12_take_47 ?_
      obtain ⟨g5, hf⟩ := gd_e hf
      refine g_is hx hb hK X g3 hN g5 (by decide) dX12_take_48 (fun H locs X => ?_)
      obtain ⟨h6, e7, hf⟩ := lt_e hf
      rw [← e7] at X
      exact r_V hx hb hr hlocks X hf dX12_take_49
    · have hf := ite_f hf c9
      refine lv_iload_n hx hb dX12_take_12 rfl (lv_at hl 2 rfl) ?_
      refine lv_iload_n hx hb dX12_take_13 rfl (lv_at hl 3 rfl) ?_
      refine lv_iconst (v := (1 : Int32)) hx hb dX12_take_14 (by decide) ?_
      refine lv_isub hx hb dX12_take_15 ?_
      obtain ⟨r8, h9, q10, hf⟩ := bd_e hf
      refine c_S0 (As := [.int x2, .int (x3 - (1 : Int32))]) (rest := []) (st1 := [.int r8]) hx hb hml hown hts hK X (k_X12_has l G n hN q10) lc_X12_has ls_X12_170 (by decide) rfl hl.1 (Nat.le_of_ble_eq_true rfl) dX12_take_16 rfl (fun H locs X => ?_)
      refine lv_if_eq (tgt := 31) hx hb dX12_take_19 (by decide) (fun c19 => ?_) (fun c19 => ?_)
      · have hf := ite_t hf c19
        refine lv_iinc (v := (x3 + (1 : Int32))) (lv' := [(3, .int (x3 + (1 : Int32))), (0, .ref (bs G + x0)), (1, .int x1), (2, .int x2)]) hx hb dX12_take_31 hl (k := 3) rfl rfl (by decide) rfl (fun ls hl => ?_)
        refine lv_goto (tgt := 2) hx hb dX12_take_34 (by decide) ?_
        exact ih X (lv_sub hl [1, 2, 3, 0] rfl) o0 hf
      · have hf := ite_f hf c19
        refine lv_aload_n hx hb dX12_take_22 rfl (lv_at hl 0 rfl) ?_
        obtain ⟨g11, hf⟩ := gd_e hf
        refine g_R hx hb hts hown hK X o0 hN g11 fl_X12_20 (by decide) rfl (by decide) dX12_take_23 ?_
        refine lv_iconst (v := (2 : Int32)) hx hb dX12_take_26 (by decide) ?_
        refine lv_iload_n hx hb dX12_take_27 rfl (lv_at hl 3 rfl) ?_
        refine lv_iadd hx hb dX12_take_28 ?_
        refine lv_iload_n hx hb dX12_take_29 rfl (lv_at hl 1 rfl) ?_
        obtain ⟨g12, hf⟩ := gd_e hf
        refine g_is hx hb hK X g11 hN g12 (by decide) dX12_take_30 (fun H locs X => ?_)
        obtain ⟨h13, e14, hf⟩ := lt_e hf
        rw [← e14] at X
        refine lv_iinc (v := (x3 + (1 : Int32))) (lv' := [(3, .int (x3 + (1 : Int32))), (0, .ref (bs G + x0)), (1, .int x1), (2, .int x2)]) hx hb dX12_take_31 hl (k := 3) rfl rfl (by decide) rfl (fun ls hl => ?_)
        refine lv_goto (tgt := 2) hx hb dX12_take_34 (by decide) ?_
        exact ih X (lv_sub hl [1, 2, 3, 0] rfl) o0 hf
theorem k_X12_take (l : Launch) (G : GG) (n : Nat) (hN : NT ≤ n) {h h' : Hp} {x0 : Nat} {x1 : Int32} {x2 : Int32} {rv : Unit} (hf : f_X12_take h x0 x1 x2 = some (rv, h')) : CT l G n n yX12_take (.code yX12_take bX12_take 4 none) 1 0 0 [.ref (bs G + x0), .int x1, .int x2] h h' none := by
  refine ct_of (maxL := 4) (ret := none) (bytes := bX12_take) (by decide) (Nat.le_of_ble_eq_true rfl) (fun p e s m below meth c C0 X ls hl => ?_)
  have hl : lv_has ls 4 [(0, .ref (bs G + x0)), (1, .int x1), (2, .int x2)] := hl
  obtain ⟨hx, hb, hr, hml, hown, hts, hK, hlocks, hnm⟩ := id C0
  unfold f_X12_take at hf
  obtain ⟨o0, hf⟩ := gd_e hf
  refine lv_iconst (v := (1 : Int32)) hx hb dX12_take_0 (by decide) ?_
  refine lv_istore_n (lv' := [(3, .int (1 : Int32)), (0, .ref (bs G + x0)), (1, .int x1), (2, .int x2)]) hx hb dX12_take_1 rfl hl (by decide) rfl (fun ls hl => ?_)
  exact j_X12_take_2 C0 hN FU X (lv_sub hl [1, 2, 3, 0] rfl) o0 hf
end
theorem dX12_say_0 : decode bX12_say 0 = .ok (.aload_n 0, 1) := by decide +kernel
theorem dX12_say_1 : decode bX12_say 1 = .ok (.iconst 0, 1) := by decide +kernel
theorem dX12_say_2 : decode bX12_say 2 = .ok (.putfield 1, 3) := by decide +kernel
theorem dX12_say_5 : decode bX12_say 5 = .ok (.aload_n 0, 1) := by decide +kernel
theorem dX12_say_6 : decode bX12_say 6 = .ok (.iload_n 1, 1) := by decide +kernel
theorem dX12_say_7 : decode bX12_say 7 = .ok (.invokevirtual 138, 3) := by decide +kernel
theorem dX12_say_10 : decode bX12_say 10 = .ok (.ifCond .eq 5, 3) := by decide +kernel
theorem dX12_say_13 : decode bX12_say 13 = .ok (.iconst (-1), 1) := by decide +kernel
theorem dX12_say_14 : decode bX12_say 14 = .ok (.ireturn, 1) := by decide +kernel
theorem dX12_say_15 : decode bX12_say 15 = .ok (.iconst 0, 1) := by decide +kernel
theorem dX12_say_16 : decode bX12_say 16 = .ok (.istore_n 2, 1) := by decide +kernel
theorem dX12_say_17 : decode bX12_say 17 = .ok (.iconst 0, 1) := by decide +kernel
theorem dX12_say_18 : decode bX12_say 18 = .ok (.istore_n 3, 1) := by decide +kernel
theorem dX12_say_19 : decode bX12_say 19 = .ok (.iload_n 3, 1) := by decide +kernel
theorem dX12_say_20 : decode bX12_say 20 = .ok (.aload_n 0, 1) := by decide +kernel
theorem dX12_say_21 : decode bX12_say 21 = .ok (.getfield 113, 3) := by decide +kernel
theorem dX12_say_24 : decode bX12_say 24 = .ok (.if_icmp .ge 24, 3) := by decide +kernel
theorem dX12_say_27 : decode bX12_say 27 = .ok (.iload_n 2, 1) := by decide +kernel
theorem dX12_say_28 : decode bX12_say 28 = .ok (.iconst 1, 1) := by decide +kernel
theorem dX12_say_29 : decode bX12_say 29 = .ok (.aload_n 0, 1) := by decide +kernel
theorem dX12_say_30 : decode bX12_say 30 = .ok (.getfield 35, 3) := by decide +kernel
theorem dX12_say_33 : decode bX12_say 33 = .ok (.iconst 2, 1) := by decide +kernel
theorem dX12_say_34 : decode bX12_say 34 = .ok (.iload_n 3, 1) := by decide +kernel
theorem dX12_say_35 : decode bX12_say 35 = .ok (.imul, 1) := by decide +kernel
theorem dX12_say_36 : decode bX12_say 36 = .ok (.iaload, 1) := by decide +kernel
theorem dX12_say_37 : decode bX12_say 37 = .ok (.iconst 1, 1) := by decide +kernel
theorem dX12_say_38 : decode bX12_say 38 = .ok (.isub, 1) := by decide +kernel
theorem dX12_say_39 : decode bX12_say 39 = .ok (.ishl, 1) := by decide +kernel
theorem dX12_say_40 : decode bX12_say 40 = .ok (.ior, 1) := by decide +kernel
theorem dX12_say_41 : decode bX12_say 41 = .ok (.istore_n 2, 1) := by decide +kernel
theorem dX12_say_42 : decode bX12_say 42 = .ok (.iinc 3 1, 3) := by decide +kernel
theorem dX12_say_45 : decode bX12_say 45 = .ok (.goto (-26), 3) := by decide +kernel
theorem dX12_say_48 : decode bX12_say 48 = .ok (.aload_n 0, 1) := by decide +kernel
theorem dX12_say_49 : decode bX12_say 49 = .ok (.invokevirtual 159, 3) := by decide +kernel
theorem dX12_say_52 : decode bX12_say 52 = .ok (.ifCond .eq 44, 3) := by decide +kernel
theorem dX12_say_55 : decode bX12_say 55 = .ok (.aload_n 0, 1) := by decide +kernel
theorem dX12_say_56 : decode bX12_say 56 = .ok (.invokevirtual 153, 3) := by decide +kernel
theorem dX12_say_59 : decode bX12_say 59 = .ok (.aload_n 0, 1) := by decide +kernel
theorem dX12_say_60 : decode bX12_say 60 = .ok (.getfield 13, 3) := by decide +kernel
theorem dX12_say_63 : decode bX12_say 63 = .ok (.bipush 53, 2) := by decide +kernel
theorem dX12_say_65 : decode bX12_say 65 = .ok (.iload_n 1, 1) := by decide +kernel
theorem dX12_say_66 : decode bX12_say 66 = .ok (.iadd, 1) := by decide +kernel
theorem dX12_say_67 : decode bX12_say 67 = .ok (.iaload, 1) := by decide +kernel
theorem dX12_say_68 : decode bX12_say 68 = .ok (.if_icmp .ne 28, 3) := by decide +kernel
theorem dX12_say_71 : decode bX12_say 71 = .ok (.iload_n 2, 1) := by decide +kernel
theorem dX12_say_72 : decode bX12_say 72 = .ok (.aload_n 0, 1) := by decide +kernel
theorem dX12_say_73 : decode bX12_say 73 = .ok (.iload_n 1, 1) := by decide +kernel
theorem dX12_say_74 : decode bX12_say 74 = .ok (.invokevirtual 141, 3) := by decide +kernel
theorem dX12_say_77 : decode bX12_say 77 = .ok (.iconst (-1), 1) := by decide +kernel
theorem dX12_say_78 : decode bX12_say 78 = .ok (.ixor, 1) := by decide +kernel
theorem dX12_say_79 : decode bX12_say 79 = .ok (.iand, 1) := by decide +kernel
theorem dX12_say_80 : decode bX12_say 80 = .ok (.ifCond .ne 16, 3) := by decide +kernel
theorem dX12_say_83 : decode bX12_say 83 = .ok (.aload_n 0, 1) := by decide +kernel
theorem dX12_say_84 : decode bX12_say 84 = .ok (.getfield 20, 3) := by decide +kernel
theorem dX12_say_87 : decode bX12_say 87 = .ok (.iconst 2, 1) := by decide +kernel
theorem dX12_say_88 : decode bX12_say 88 = .ok (.iaload, 1) := by decide +kernel
theorem dX12_say_89 : decode bX12_say 89 = .ok (.iload_n 1, 1) := by decide +kernel
theorem dX12_say_90 : decode bX12_say 90 = .ok (.invokestatic 170, 3) := by decide +kernel
theorem dX12_say_93 : decode bX12_say 93 = .ok (.ifCond .eq 6, 3) := by decide +kernel
theorem dX12_say_96 : decode bX12_say 96 = .ok (.bipush (-2), 2) := by decide +kernel
theorem dX12_say_98 : decode bX12_say 98 = .ok (.ireturn, 1) := by decide +kernel
theorem dX12_say_99 : decode bX12_say 99 = .ok (.aload_n 0, 1) := by decide +kernel
theorem dX12_say_100 : decode bX12_say 100 = .ok (.invokevirtual 195, 3) := by decide +kernel
theorem dX12_say_103 : decode bX12_say 103 = .ok (.aload_n 0, 1) := by decide +kernel
theorem dX12_say_104 : decode bX12_say 104 = .ok (.iload_n 1, 1) := by decide +kernel
theorem dX12_say_105 : decode bX12_say 105 = .ok (.iload_n 2, 1) := by decide +kernel
theorem dX12_say_106 : decode bX12_say 106 = .ok (.invokevirtual 198, 3) := by decide +kernel
theorem dX12_say_109 : decode bX12_say 109 = .ok (.aload_n 0, 1) := by decide +kernel
theorem dX12_say_110 : decode bX12_say 110 = .ok (.invokevirtual 156, 3) := by decide +kernel
theorem dX12_say_113 : decode bX12_say 113 = .ok (.ireturn, 1) := by decide +kernel
section
variable {p : Program} {l : Launch} {e : Env} {s : State} {m : MethodId} {args : Array Value} {below : List Frame} {meth : Method} {c : Code} {G : GG} {n : Nat} {h' : Hp} {rv : Int32}
set_option maxHeartbeats 4000000
set_option maxRecDepth 100000
theorem j_X12_say_19 (C0 : Cx p s m args meth c G bX12_say RX12 4 (some .int) "say") (hN : NT ≤ n) : ∀ (fu : Nat), ∀ {H : Heap} {locs : List Loc} {ls : Array Slot} {h : Hp} {x0 : Nat} {x1 : Int32} {x2 : Int32} {x3 : Int32}, XW G n h s 0 H locs → lv_has ls 4 [(0, .ref (bs G + x0)), (1, .int x1), (2, .int x2), (3, .int x3)] → kd x0 = 12 → f_X12_say_19 fu h x0 x1 x2 x3 = some (rv, h') → W p l e (rmC 2 0 0) s m args below meth c H locs 0 0 (MQ below (QP G n h' (some (.int rv))) args s 0 0 (Ab G)) (F0 m 19 ls []) := by
  obtain ⟨hx, hb, hr, hml, hown, hts, hK, hlocks, hnm⟩ := id C0
  intro fu
  induction fu with
  | zero => intro H locs ls h x0 x1 x2 x3 X hl o0 hf; cases hf
  | succ fu ih =>
    intro H locs ls h x0 x1 x2 x3 X hl o0 hf
    rw [f_X12_say_19] at hf
    refine lv_iload_n hx hb dX12_say_19 rfl (lv_at hl 3 rfl) ?_
    refine lv_aload_n hx hb dX12_say_20 rfl (lv_at hl 0 rfl) ?_
    refine g_I hx hb hts hown hK X o0 hN fl_X12_113 (by decide) rfl dX12_say_21 ?_
    refine lv_icmp_ge (tgt := 48) hx hb dX12_say_24 (by decide) (fun c24 => ?_) (fun c24 => ?_)
    · have hf := ite_t hf c24
      refine lv_aload_n hx hb dX12_say_48 rfl (lv_at hl 0 rfl) ?_
      obtain ⟨r1, h2, q3, hf⟩ := bd_e hf
      refine c_V0 (As := []) (rest := []) (st1 := [.int r1]) hx hb hml hown hts hK X (k_X12_isSaying l G n hN q3) o0 hN lc_X12_isSaying lv_X12_159 (ci := 12) rfl rfl (by decide) rfl hl.1 (Nat.le_of_ble_eq_true rfl) dX12_say_49 rfl (fun H locs X => ?_)
      refine lv_if_eq (tgt := 96) hx hb dX12_say_52 (by decide) (fun c52 => ?_) (fun c52 => ?_)
      · have hf := ite_t hf c52
        refine lv_bipush (v := (-2 : Int32)) hx hb dX12_say_96 (by decide) ?_
        exact r_I hx hb hr hlocks X hf dX12_say_98
      · have hf := ite_f hf c52
        refine lv_aload_n hx hb dX12_say_55 rfl (lv_at hl 0 rfl) ?_
        obtain ⟨r4, h5, q6, hf⟩ := bd_e hf
        refine c_V0 (As := []) (rest := []) (st1 := [.int r4]) hx hb hml hown hts hK X (k_X12_sumOfWords l G n hN q6) o0 hN lc_X12_sumOfWords lv_X12_153 (ci := 12) rfl rfl (by decide) rfl hl.1 (Nat.le_of_ble_eq_true rfl) dX12_say_56 rfl (fun H locs X => ?_)
        refine lv_aload_n hx hb dX12_say_59 rfl (lv_at hl 0 rfl) ?_
        obtain ⟨g7, hf⟩ := gd_e hf
        refine g_R hx hb hts hown hK X o0 hN g7 fl_X12_13 (by decide) rfl (by decide) dX12_say_60 ?_
        refine lv_bipush (v := (53 : Int32)) hx hb dX12_say_63 (by decide) ?_
        refine lv_iload_n hx hb dX12_say_65 rfl (lv_at hl 1 rfl) ?_
        refine lv_iadd hx hb dX12_say_66 ?_
        obtain ⟨g8, hf⟩ := gd_e hf
        refine g_ia hx hb hK X g7 hN g8 (by decide) dX12_say_67 ?_
        refine lv_icmp_ne (tgt := 96) hx hb dX12_say_68 (by decide) (fun c68 => ?_) (fun c68 => ?_)
        · have hf := ite_f hf c68
          refine lv_bipush (v := (-2 : Int32)) hx hb dX12_say_96 (by decide) ?_
          exact r_I hx hb hr hlocks X hf dX12_say_98
        · have hf := ite_t hf c68
          refine lv_iload_n hx hb dX12_say_71 rfl (lv_at hl 2 rfl) ?_
          refine lv_aload_n hx hb dX12_say_72 rfl (lv_at hl 0 rfl) ?_
          refine lv_iload_n hx hb dX12_say_73 rfl (lv_at hl 1 rfl) ?_
          obtain ⟨r9, h10, q11, hf⟩ := bd_e hf
          refine c_V0 (As := [.int x1]) (rest := [.int x2]) (st1 := [.int r9, .int x2]) hx hb hml hown hts hK X (k_X12_mayOf l G n hN q11) o0 hN lc_X12_mayOf lv_X12_141 (ci := 12) rfl rfl (by decide) rfl hl.1 (Nat.le_of_ble_eq_true rfl) dX12_say_74 rfl (fun H locs X => ?_)
          refine lv_iconst (v := (-1 : Int32)) hx hb dX12_say_77 (by decide) ?_
          refine lv_ixor hx hb dX12_say_78 ?_
          refine lv_iand hx hb dX12_say_79 ?_
          refine lv_if_ne (tgt := 96) hx hb dX12_say_80 (by decide) (fun c80 => ?_) (fun c80 => ?_)
          · have hf := ite_f hf c80
            refine lv_bipush (v := (-2 : Int32)) hx hb dX12_say_96 (by decide) ?_
            exact r_I hx hb hr hlocks X hf dX12_say_98
          · have hf := ite_t hf c80
            refine lv_aload_n hx hb dX12_say_83 rfl (lv_at hl 0 rfl) ?_
            obtain ⟨g12, hf⟩ := gd_e hf
            refine g_R hx hb hts hown hK X o0 hN g12 fl_X12_20 (by decide) rfl (by decide) dX12_say_84 ?_
            refine lv_iconst (v := (2 : Int32)) hx hb dX12_say_87 (by decide) ?_
            obtain ⟨g13, hf⟩ := gd_e hf
            refine g_ia hx hb hK X g12 hN g13 (by decide) dX12_say_88 ?_
            refine lv_iload_n hx hb dX12_say_89 rfl (lv_at hl 1 rfl) ?_
            obtain ⟨r14, h15, q16, hf⟩ := bd_e hf
            refine c_S0 (As := [.int (h10.1 (h10.2 x0 3) (2 : Int32).toNatClampNeg), .int x1]) (rest := []) (st1 := [.int r14]) hx hb hml hown hts hK X (k_X12_has l G n hN q16) lc_X12_has ls_X12_170 (by decide) rfl hl.1 (Nat.le_of_ble_eq_true rfl) dX12_say_90 rfl (fun H locs X => ?_)
            refine lv_if_eq (tgt := 99) hx hb dX12_say_93 (by decide) (fun c93 => ?_) (fun c93 => ?_)
            · have hf := ite_t hf c93
              refine lv_aload_n hx hb dX12_say_99 rfl (lv_at hl 0 rfl) ?_
              obtain ⟨r17, h18, q19, hf⟩ := bd_e hf
              refine c_V0 (As := []) (rest := []) (st1 := []) hx hb hml hown hts hK X (k_X12_keepDay l G n hN q19) o0 hN lc_X12_keepDay lv_X12_195 (ci := 12) rfl rfl (by decide) rfl hl.1 (Nat.le_of_ble_eq_true rfl) dX12_say_100 rfl (fun H locs X => ?_)
              refine lv_aload_n hx hb dX12_say_103 rfl (lv_at hl 0 rfl) ?_
              refine lv_iload_n hx hb dX12_say_104 rfl (lv_at hl 1 rfl) ?_
              refine lv_iload_n hx hb dX12_say_105 rfl (lv_at hl 2 rfl) ?_
              obtain ⟨r20, h21, q22, hf⟩ := bd_e hf
              refine c_V0 (As := [.int x1, .int x2]) (rest := []) (st1 := []) hx hb hml hown hts hK X (k_X12_take l G n hN q22) o0 hN lc_X12_take lv_X12_198 (ci := 12) rfl rfl (by decide) rfl hl.1 (Nat.le_of_ble_eq_true rfl) dX12_say_106 rfl (fun H locs X => ?_)
              refine lv_aload_n hx hb dX12_say_109 rfl (lv_at hl 0 rfl) ?_
              obtain ⟨r23, h24, q25, hf⟩ := bd_e hf
              refine c_V0 (As := []) (rest := []) (st1 := [.int r23]) hx hb hml hown hts hK X (k_X12_priceOfWords l G n hN q25) o0 hN lc_X12_priceOfWords lv_X12_156 (ci := 12) rfl rfl (by decide) rfl hl.1 (Nat.le_of_ble_eq_true rfl) dX12_say_110 rfl (fun H locs X => ?_)
              exact r_I hx hb hr hlocks X hf dX12_say_113
            · have hf := ite_f hf c93
              refine lv_bipush (v := (-2 : Int32)) hx hb dX12_say_96 (by decide) ?_
              exact r_I hx hb hr hlocks X hf dX12_say_98
    · have hf := ite_f hf c24
      refine lv_iload_n hx hb dX12_say_27 rfl (lv_at hl 2 rfl) ?_
      refine lv_iconst (v := (1 : Int32)) hx hb dX12_say_28 (by decide) ?_
      refine lv_aload_n hx hb dX12_say_29 rfl (lv_at hl 0 rfl) ?_
      obtain ⟨g26, hf⟩ := gd_e hf
      refine g_R hx hb hts hown hK X o0 hN g26 fl_X12_35 (by decide) rfl (by decide) dX12_say_30 ?_
      refine lv_iconst (v := (2 : Int32)) hx hb dX12_say_33 (by decide) ?_
      refine lv_iload_n hx hb dX12_say_34 rfl (lv_at hl 3 rfl) ?_
      refine lv_imul hx hb dX12_say_35 ?_
      obtain ⟨g27, hf⟩ := gd_e hf
      refine g_ia hx hb hK X g26 hN g27 (by decide) dX12_say_36 ?_
      refine lv_iconst (v := (1 : Int32)) hx hb dX12_say_37 (by decide) ?_
      refine lv_isub hx hb dX12_say_38 ?_
      refine lv_ishl hx hb dX12_say_39 ?_
      refine lv_ior hx hb dX12_say_40 ?_
      refine lv_istore_n (lv' := [(2, .int (x2 ||| ((1 : Int32) <<< (((h.1 (h.2 x0 13) ((2 : Int32) * x3).toNatClampNeg) - (1 : Int32)) &&& 31)))), (0, .ref (bs G + x0)), (1, .int x1), (3, .int x3)]) hx hb dX12_say_41 rfl hl (by decide) rfl (fun ls hl => ?_)
      refine lv_iinc (v := (x3 + (1 : Int32))) (lv' := [(3, .int (x3 + (1 : Int32))), (2, .int (x2 ||| ((1 : Int32) <<< (((h.1 (h.2 x0 13) ((2 : Int32) * x3).toNatClampNeg) - (1 : Int32)) &&& 31)))), (0, .ref (bs G + x0)), (1, .int x1)]) hx hb dX12_say_42 hl (k := 3) rfl rfl (by decide) rfl (fun ls hl => ?_)
      refine lv_goto (tgt := 19) hx hb dX12_say_45 (by decide) ?_
      exact ih X (lv_sub hl [2, 3, 1, 0] rfl) o0 hf
theorem k_X12_say (l : Launch) (G : GG) (n : Nat) (hN : NT ≤ n) {h h' : Hp} {x0 : Nat} {x1 : Int32} {rv : Int32} (hf : f_X12_say h x0 x1 = some (rv, h')) : CT l G n n yX12_say (.code yX12_say bX12_say 4 (some .int)) 2 0 0 [.ref (bs G + x0), .int x1] h h' (some (.int rv)) := by
  refine ct_of (maxL := 4) (ret := (some .int)) (bytes := bX12_say) (by decide) (Nat.le_of_ble_eq_true rfl) (fun p e s m below meth c C0 X ls hl => ?_)
  have hl : lv_has ls 4 [(0, .ref (bs G + x0)), (1, .int x1)] := hl
  obtain ⟨hx, hb, hr, hml, hown, hts, hK, hlocks, hnm⟩ := id C0
  unfold f_X12_say at hf
  obtain ⟨o0, hf⟩ := gd_e hf
  refine lv_aload_n hx hb dX12_say_0 rfl (lv_at hl 0 rfl) ?_
  refine lv_iconst (v := (0 : Int32)) hx hb dX12_say_1 (by decide) ?_
  refine g_PI hx hb hts hown hK X o0 hN fl_X12_1 ft_12_0 (by decide) rfl dX12_say_2 (fun H locs X => ?_)
  obtain ⟨h1, e2, hf⟩ := lt_e hf
  rw [← e2] at X
  refine lv_aload_n hx hb dX12_say_5 rfl (lv_at hl 0 rfl) ?_
  refine lv_iload_n hx hb dX12_say_6 rfl (lv_at hl 1 rfl) ?_
  obtain ⟨r3, h4, q5, hf⟩ := bd_e hf
  refine c_V0 (As := [.int x1]) (rest := []) (st1 := [.int r3]) hx hb hml hown hts hK X (k_X12_noOne l G n hN q5) o0 hN lc_X12_noOne lv_X12_138 (ci := 12) rfl rfl (by decide) rfl hl.1 (Nat.le_of_ble_eq_true rfl) dX12_say_7 rfl (fun H locs X => ?_)
  refine lv_if_eq (tgt := 15) hx hb dX12_say_10 (by decide) (fun c10 => ?_) (fun c10 => ?_)
  · have hf := ite_t hf c10
    refine lv_iconst (v := (0 : Int32)) hx hb dX12_say_15 (by decide) ?_
    refine lv_istore_n (lv' := [(2, .int (0 : Int32)), (0, .ref (bs G + x0)), (1, .int x1)]) hx hb dX12_say_16 rfl hl (by decide) rfl (fun ls hl => ?_)
    refine lv_iconst (v := (0 : Int32)) hx hb dX12_say_17 (by decide) ?_
    refine lv_istore_n (lv' := [(3, .int (0 : Int32)), (2, .int (0 : Int32)), (0, .ref (bs G + x0)), (1, .int x1)]) hx hb dX12_say_18 rfl hl (by decide) rfl (fun ls hl => ?_)
    exact j_X12_say_19 C0 hN FU X (lv_sub hl [2, 3, 1, 0] rfl) o0 hf
  · have hf := ite_f hf c10
    refine lv_iconst (v := (-1 : Int32)) hx hb dX12_say_13 (by decide) ?_
    exact r_I hx hb hr hlocks X hf dX12_say_14
end
theorem dX12_speak_0 : decode bX12_speak 0 = .ok (.aload_n 0, 1) := by decide +kernel
theorem dX12_speak_1 : decode bX12_speak 1 = .ok (.iconst 0, 1) := by decide +kernel
theorem dX12_speak_2 : decode bX12_speak 2 = .ok (.putfield 1, 3) := by decide +kernel
theorem dX12_speak_5 : decode bX12_speak 5 = .ok (.aload_n 0, 1) := by decide +kernel
theorem dX12_speak_6 : decode bX12_speak 6 = .ok (.iload_n 1, 1) := by decide +kernel
theorem dX12_speak_7 : decode bX12_speak 7 = .ok (.invokevirtual 138, 3) := by decide +kernel
theorem dX12_speak_10 : decode bX12_speak 10 = .ok (.ifCond .eq 5, 3) := by decide +kernel
theorem dX12_speak_13 : decode bX12_speak 13 = .ok (.iconst (-1), 1) := by decide +kernel
theorem dX12_speak_14 : decode bX12_speak 14 = .ok (.ireturn, 1) := by decide +kernel
theorem dX12_speak_15 : decode bX12_speak 15 = .ok (.aload_n 0, 1) := by decide +kernel
theorem dX12_speak_16 : decode bX12_speak 16 = .ok (.getfield 20, 3) := by decide +kernel
theorem dX12_speak_19 : decode bX12_speak 19 = .ok (.iconst 2, 1) := by decide +kernel
theorem dX12_speak_20 : decode bX12_speak 20 = .ok (.iaload, 1) := by decide +kernel
theorem dX12_speak_21 : decode bX12_speak 21 = .ok (.iload_n 1, 1) := by decide +kernel
theorem dX12_speak_22 : decode bX12_speak 22 = .ok (.invokestatic 170, 3) := by decide +kernel
theorem dX12_speak_25 : decode bX12_speak 25 = .ok (.ifCond .eq 6, 3) := by decide +kernel
theorem dX12_speak_28 : decode bX12_speak 28 = .ok (.bipush (-2), 2) := by decide +kernel
theorem dX12_speak_30 : decode bX12_speak 30 = .ok (.ireturn, 1) := by decide +kernel
theorem dX12_speak_31 : decode bX12_speak 31 = .ok (.aload_n 0, 1) := by decide +kernel
theorem dX12_speak_32 : decode bX12_speak 32 = .ok (.aload_n 0, 1) := by decide +kernel
theorem dX12_speak_33 : decode bX12_speak 33 = .ok (.iload_n 1, 1) := by decide +kernel
theorem dX12_speak_34 : decode bX12_speak 34 = .ok (.invokevirtual 141, 3) := by decide +kernel
theorem dX12_speak_37 : decode bX12_speak 37 = .ok (.aload_n 0, 1) := by decide +kernel
theorem dX12_speak_38 : decode bX12_speak 38 = .ok (.getfield 13, 3) := by decide +kernel
theorem dX12_speak_41 : decode bX12_speak 41 = .ok (.bipush 53, 2) := by decide +kernel
theorem dX12_speak_43 : decode bX12_speak 43 = .ok (.iload_n 1, 1) := by decide +kernel
theorem dX12_speak_44 : decode bX12_speak 44 = .ok (.iadd, 1) := by decide +kernel
theorem dX12_speak_45 : decode bX12_speak 45 = .ok (.iaload, 1) := by decide +kernel
theorem dX12_speak_46 : decode bX12_speak 46 = .ok (.aload_n 0, 1) := by decide +kernel
theorem dX12_speak_47 : decode bX12_speak 47 = .ok (.getfield 13, 3) := by decide +kernel
theorem dX12_speak_50 : decode bX12_speak 50 = .ok (.iconst 2, 1) := by decide +kernel
theorem dX12_speak_51 : decode bX12_speak 51 = .ok (.iaload, 1) := by decide +kernel
theorem dX12_speak_52 : decode bX12_speak 52 = .ok (.invokevirtual 191, 3) := by decide +kernel
theorem dX12_speak_55 : decode bX12_speak 55 = .ok (.istore_n 2, 1) := by decide +kernel
theorem dX12_speak_56 : decode bX12_speak 56 = .ok (.iload_n 2, 1) := by decide +kernel
theorem dX12_speak_57 : decode bX12_speak 57 = .ok (.bipush (-4), 2) := by decide +kernel
theorem dX12_speak_59 : decode bX12_speak 59 = .ok (.if_icmp .ne 6, 3) := by decide +kernel
theorem dX12_speak_62 : decode bX12_speak 62 = .ok (.bipush (-4), 2) := by decide +kernel
theorem dX12_speak_64 : decode bX12_speak 64 = .ok (.ireturn, 1) := by decide +kernel
theorem dX12_speak_65 : decode bX12_speak 65 = .ok (.aload_n 0, 1) := by decide +kernel
theorem dX12_speak_66 : decode bX12_speak 66 = .ok (.invokevirtual 195, 3) := by decide +kernel
theorem dX12_speak_69 : decode bX12_speak 69 = .ok (.aload_n 0, 1) := by decide +kernel
theorem dX12_speak_70 : decode bX12_speak 70 = .ok (.iload_n 1, 1) := by decide +kernel
theorem dX12_speak_71 : decode bX12_speak 71 = .ok (.aload_n 0, 1) := by decide +kernel
theorem dX12_speak_72 : decode bX12_speak 72 = .ok (.invokevirtual 201, 3) := by decide +kernel
theorem dX12_speak_75 : decode bX12_speak 75 = .ok (.invokevirtual 198, 3) := by decide +kernel
theorem dX12_speak_78 : decode bX12_speak 78 = .ok (.iload_n 2, 1) := by decide +kernel
theorem dX12_speak_79 : decode bX12_speak 79 = .ok (.sipush 1000, 3) := by decide +kernel
theorem dX12_speak_82 : decode bX12_speak 82 = .ok (.idiv, 1) := by decide +kernel
theorem dX12_speak_83 : decode bX12_speak 83 = .ok (.ireturn, 1) := by decide +kernel
section
variable {p : Program} {l : Launch} {e : Env} {s : State} {m : MethodId} {args : Array Value} {below : List Frame} {meth : Method} {c : Code} {G : GG} {n : Nat} {h' : Hp} {rv : Int32}
set_option maxHeartbeats 4000000
set_option maxRecDepth 100000
theorem k_X12_speak (l : Launch) (G : GG) (n : Nat) (hN : NT ≤ n) {h h' : Hp} {x0 : Nat} {x1 : Int32} {rv : Int32} (hf : f_X12_speak h x0 x1 = some (rv, h')) : CT l G n n yX12_speak (.code yX12_speak bX12_speak 3 (some .int)) 5 0 0 [.ref (bs G + x0), .int x1] h h' (some (.int rv)) := by
  refine ct_of (maxL := 3) (ret := (some .int)) (bytes := bX12_speak) (by decide) (Nat.le_of_ble_eq_true rfl) (fun p e s m below meth c C0 X ls hl => ?_)
  have hl : lv_has ls 3 [(0, .ref (bs G + x0)), (1, .int x1)] := hl
  obtain ⟨hx, hb, hr, hml, hown, hts, hK, hlocks, hnm⟩ := id C0
  unfold f_X12_speak at hf
  obtain ⟨o0, hf⟩ := gd_e hf
  refine lv_aload_n hx hb dX12_speak_0 rfl (lv_at hl 0 rfl) ?_
  refine lv_iconst (v := (0 : Int32)) hx hb dX12_speak_1 (by decide) ?_
  refine g_PI hx hb hts hown hK X o0 hN fl_X12_1 ft_12_0 (by decide) rfl dX12_speak_2 (fun H locs X => ?_)
  obtain ⟨h1, e2, hf⟩ := lt_e hf
  rw [← e2] at X
  refine lv_aload_n hx hb dX12_speak_5 rfl (lv_at hl 0 rfl) ?_
  refine lv_iload_n hx hb dX12_speak_6 rfl (lv_at hl 1 rfl) ?_
  obtain ⟨r3, h4, q5, hf⟩ := bd_e hf
  refine c_V0 (As := [.int x1]) (rest := []) (st1 := [.int r3]) hx hb hml hown hts hK X (k_X12_noOne l G n hN q5) o0 hN lc_X12_noOne lv_X12_138 (ci := 12) rfl rfl (by decide) rfl hl.1 (Nat.le_of_ble_eq_true rfl) dX12_speak_7 rfl (fun H locs X => ?_)
  refine lv_if_eq (tgt := 15) hx hb dX12_speak_10 (by decide) (fun c10 => ?_) (fun c10 => ?_)
  · have hf := ite_t hf c10
    refine lv_aload_n hx hb dX12_speak_15 rfl (lv_at hl 0 rfl) ?_
    obtain ⟨g6, hf⟩ := gd_e hf
    refine g_R hx hb hts hown hK X o0 hN g6 fl_X12_20 (by decide) rfl (by decide) dX12_speak_16 ?_
    refine lv_iconst (v := (2 : Int32)) hx hb dX12_speak_19 (by decide) ?_
    obtain ⟨g7, hf⟩ := gd_e hf
    refine g_ia hx hb hK X g6 hN g7 (by decide) dX12_speak_20 ?_
    refine lv_iload_n hx hb dX12_speak_21 rfl (lv_at hl 1 rfl) ?_
    obtain ⟨r8, h9, q10, hf⟩ := bd_e hf
    refine c_S0 (As := [.int (h4.1 (h4.2 x0 3) (2 : Int32).toNatClampNeg), .int x1]) (rest := []) (st1 := [.int r8]) hx hb hml hown hts hK X (k_X12_has l G n hN q10) lc_X12_has ls_X12_170 (by decide) rfl hl.1 (Nat.le_of_ble_eq_true rfl) dX12_speak_22 rfl (fun H locs X => ?_)
    refine lv_if_eq (tgt := 31) hx hb dX12_speak_25 (by decide) (fun c25 => ?_) (fun c25 => ?_)
    · have hf := ite_t hf c25
      refine lv_aload_n hx hb dX12_speak_31 rfl (lv_at hl 0 rfl) ?_
      refine lv_aload_n hx hb dX12_speak_32 rfl (lv_at hl 0 rfl) ?_
      refine lv_iload_n hx hb dX12_speak_33 rfl (lv_at hl 1 rfl) ?_
      obtain ⟨r11, h12, q13, hf⟩ := bd_e hf
      refine c_V0 (As := [.int x1]) (rest := [.ref (bs G + x0)]) (st1 := [.int r11, .ref (bs G + x0)]) hx hb hml hown hts hK X (k_X12_mayOf l G n hN q13) o0 hN lc_X12_mayOf lv_X12_141 (ci := 12) rfl rfl (by decide) rfl hl.1 (Nat.le_of_ble_eq_true rfl) dX12_speak_34 rfl (fun H locs X => ?_)
      refine lv_aload_n hx hb dX12_speak_37 rfl (lv_at hl 0 rfl) ?_
      obtain ⟨g14, hf⟩ := gd_e hf
      refine g_R hx hb hts hown hK X o0 hN g14 fl_X12_13 (by decide) rfl (by decide) dX12_speak_38 ?_
      refine lv_bipush (v := (53 : Int32)) hx hb dX12_speak_41 (by decide) ?_
      refine lv_iload_n hx hb dX12_speak_43 rfl (lv_at hl 1 rfl) ?_
      refine lv_iadd hx hb dX12_speak_44 ?_
      obtain ⟨g15, hf⟩ := gd_e hf
      refine g_ia hx hb hK X g14 hN g15 (by decide) dX12_speak_45 ?_
      refine lv_aload_n hx hb dX12_speak_46 rfl (lv_at hl 0 rfl) ?_
      obtain ⟨g16, hf⟩ := gd_e hf
      refine g_R hx hb hts hown hK X o0 hN g16 fl_X12_13 (by decide) rfl (by decide) dX12_speak_47 ?_
      refine lv_iconst (v := (2 : Int32)) hx hb dX12_speak_50 (by decide) ?_
      obtain ⟨g17, hf⟩ := gd_e hf
      refine g_ia hx hb hK X g16 hN g17 (by decide) dX12_speak_51 ?_
      obtain ⟨r18, h19, q20, hf⟩ := bd_e hf
      refine c_V0 (As := [.int r11, .int (h12.1 (h12.2 x0 1) ((53 : Int32) + x1).toNatClampNeg), .int (h12.1 (h12.2 x0 1) (2 : Int32).toNatClampNeg)]) (rest := []) (st1 := [.int r18]) hx hb hml hown hts hK X (k_X12_bestOf l G n hN q20) o0 hN lc_X12_bestOf lv_X12_191 (ci := 12) rfl rfl (by decide) rfl hl.1 (Nat.le_of_ble_eq_true rfl) dX12_speak_52 rfl (fun H locs X => ?_)
      refine lv_istore_n (lv' := [(2, .int r18), (0, .ref (bs G + x0)), (1, .int x1)]) hx hb dX12_speak_55 rfl hl (by decide) rfl (fun ls hl => ?_)
      refine lv_iload_n hx hb dX12_speak_56 rfl (lv_at hl 0 rfl) ?_
      refine lv_bipush (v := (-4 : Int32)) hx hb dX12_speak_57 (by decide) ?_
      refine lv_icmp_ne (tgt := 65) hx hb dX12_speak_59 (by decide) (fun c59 => ?_) (fun c59 => ?_)
      · have hf := ite_f hf c59
        refine lv_aload_n hx hb dX12_speak_65 rfl (lv_at hl 1 rfl) ?_
        obtain ⟨r21, h22, q23, hf⟩ := bd_e hf
        refine c_V0 (As := []) (rest := []) (st1 := []) hx hb hml hown hts hK X (k_X12_keepDay l G n hN q23) o0 hN lc_X12_keepDay lv_X12_195 (ci := 12) rfl rfl (by decide) rfl hl.1 (Nat.le_of_ble_eq_true rfl) dX12_speak_66 rfl (fun H locs X => ?_)
        refine lv_aload_n hx hb dX12_speak_69 rfl (lv_at hl 1 rfl) ?_
        refine lv_iload_n hx hb dX12_speak_70 rfl (lv_at hl 2 rfl) ?_
        refine lv_aload_n hx hb dX12_speak_71 rfl (lv_at hl 1 rfl) ?_
        obtain ⟨r24, h25, q26, hf⟩ := bd_e hf
        refine c_V0 (As := []) (rest := [.int x1, .ref (bs G + x0)]) (st1 := [.int r24, .int x1, .ref (bs G + x0)]) hx hb hml hown hts hK X (k_X12_usedSet l G n hN q26) o0 hN lc_X12_usedSet lv_X12_201 (ci := 12) rfl rfl (by decide) rfl hl.1 (Nat.le_of_ble_eq_true rfl) dX12_speak_72 rfl (fun H locs X => ?_)
        obtain ⟨r27, h28, q29, hf⟩ := bd_e hf
        refine c_V0 (As := [.int x1, .int r24]) (rest := []) (st1 := []) hx hb hml hown hts hK X (k_X12_take l G n hN q29) o0 hN lc_X12_take lv_X12_198 (ci := 12) rfl rfl (by decide) rfl hl.1 (Nat.le_of_ble_eq_true rfl) dX12_speak_75 rfl (fun H locs X => ?_)
        refine lv_iload_n hx hb dX12_speak_78 rfl (lv_at hl 0 rfl) ?_
        refine lv_sipush (v := (1000 : Int32)) hx hb dX12_speak_79 (by decide) ?_
        refine lv_idiv hx hb dX12_speak_82 (by decide) ?_
        exact r_I hx hb hr hlocks X hf dX12_speak_83
      · have hf := ite_t hf c59
        refine lv_bipush (v := (-4 : Int32)) hx hb dX12_speak_62 (by decide) ?_
        exact r_I hx hb hr hlocks X hf dX12_speak_64
    · have hf := ite_f hf c25
      refine lv_bipush (v := (-2 : Int32)) hx hb dX12_speak_28 (by decide) ?_
      exact r_I hx hb hr hlocks X hf dX12_speak_30
  · have hf := ite_f hf c10
    refine lv_iconst (v := (-1 : Int32)) hx hb dX12_speak_13 (by decide) ?_
    exact r_I hx hb hr hlocks X hf dX12_speak_14
end
