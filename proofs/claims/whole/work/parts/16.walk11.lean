theorem dX12_deny_0 : decode bX12_deny 0 = .ok (.aload_n 0, 1) := by decide +kernel
theorem dX12_deny_1 : decode bX12_deny 1 = .ok (.iconst 0, 1) := by decide +kernel
theorem dX12_deny_2 : decode bX12_deny 2 = .ok (.putfield 1, 3) := by decide +kernel
theorem dX12_deny_5 : decode bX12_deny 5 = .ok (.iload_n 1, 1) := by decide +kernel
theorem dX12_deny_6 : decode bX12_deny 6 = .ok (.i2l, 1) := by decide +kernel
theorem dX12_deny_7 : decode bX12_deny 7 = .ok (.lconst 1, 1) := by decide +kernel
theorem dX12_deny_8 : decode bX12_deny 8 = .ok (.ldc2_w 97, 3) := by decide +kernel
theorem dX12_deny_11 : decode bX12_deny 11 = .ok (.invokestatic 75, 3) := by decide +kernel
theorem dX12_deny_14 : decode bX12_deny 14 = .ok (.ifCond .eq 15, 3) := by decide +kernel
theorem dX12_deny_17 : decode bX12_deny 17 = .ok (.iload_n 2, 1) := by decide +kernel
theorem dX12_deny_18 : decode bX12_deny 18 = .ok (.i2l, 1) := by decide +kernel
theorem dX12_deny_19 : decode bX12_deny 19 = .ok (.lconst 0, 1) := by decide +kernel
theorem dX12_deny_20 : decode bX12_deny 20 = .ok (.ldc2_w 97, 3) := by decide +kernel
theorem dX12_deny_23 : decode bX12_deny 23 = .ok (.invokestatic 75, 3) := by decide +kernel
theorem dX12_deny_26 : decode bX12_deny 26 = .ok (.ifCond .ne 5, 3) := by decide +kernel
theorem dX12_deny_29 : decode bX12_deny 29 = .ok (.iconst (-1), 1) := by decide +kernel
theorem dX12_deny_30 : decode bX12_deny 30 = .ok (.ireturn, 1) := by decide +kernel
theorem dX12_deny_31 : decode bX12_deny 31 = .ok (.aload_n 0, 1) := by decide +kernel
theorem dX12_deny_32 : decode bX12_deny 32 = .ok (.invokevirtual 135, 3) := by decide +kernel
theorem dX12_deny_35 : decode bX12_deny 35 = .ok (.istore_n 3, 1) := by decide +kernel
theorem dX12_deny_36 : decode bX12_deny 36 = .ok (.iconst (-1), 1) := by decide +kernel
theorem dX12_deny_37 : decode bX12_deny 37 = .ok (.istore 4, 2) := by decide +kernel
theorem dX12_deny_39 : decode bX12_deny 39 = .ok (.bipush (-4), 2) := by decide +kernel
theorem dX12_deny_41 : decode bX12_deny 41 = .ok (.istore 5, 2) := by decide +kernel
theorem dX12_deny_43 : decode bX12_deny 43 = .ok (.bipush (-4), 2) := by decide +kernel
theorem dX12_deny_45 : decode bX12_deny 45 = .ok (.istore 6, 2) := by decide +kernel
theorem dX12_deny_47 : decode bX12_deny 47 = .ok (.iconst 1, 1) := by decide +kernel
theorem dX12_deny_48 : decode bX12_deny 48 = .ok (.istore 7, 2) := by decide +kernel
theorem dX12_deny_50 : decode bX12_deny 50 = .ok (.iload 7, 2) := by decide +kernel
theorem dX12_deny_52 : decode bX12_deny 52 = .ok (.aload_n 0, 1) := by decide +kernel
theorem dX12_deny_53 : decode bX12_deny 53 = .ok (.getfield 13, 3) := by decide +kernel
theorem dX12_deny_56 : decode bX12_deny 56 = .ok (.iconst 0, 1) := by decide +kernel
theorem dX12_deny_57 : decode bX12_deny 57 = .ok (.iaload, 1) := by decide +kernel
theorem dX12_deny_58 : decode bX12_deny 58 = .ok (.if_icmp .gt 156, 3) := by decide +kernel
theorem dX12_deny_61 : decode bX12_deny 61 = .ok (.iload_n 1, 1) := by decide +kernel
theorem dX12_deny_62 : decode bX12_deny 62 = .ok (.iconst 1, 1) := by decide +kernel
theorem dX12_deny_63 : decode bX12_deny 63 = .ok (.if_icmp .ne 8, 3) := by decide +kernel
theorem dX12_deny_66 : decode bX12_deny 66 = .ok (.iload 7, 2) := by decide +kernel
theorem dX12_deny_68 : decode bX12_deny 68 = .ok (.goto 7, 3) := by decide +kernel
theorem dX12_deny_71 : decode bX12_deny 71 = .ok (.iload 7, 2) := by decide +kernel
theorem dX12_deny_73 : decode bX12_deny 73 = .ok (.iconst 1, 1) := by decide +kernel
theorem dX12_deny_74 : decode bX12_deny 74 = .ok (.iadd, 1) := by decide +kernel
theorem dX12_deny_75 : decode bX12_deny 75 = .ok (.istore 8, 2) := by decide +kernel
theorem dX12_deny_77 : decode bX12_deny 77 = .ok (.iload 8, 2) := by decide +kernel
theorem dX12_deny_79 : decode bX12_deny 79 = .ok (.iload_n 1, 1) := by decide +kernel
theorem dX12_deny_80 : decode bX12_deny 80 = .ok (.iconst 1, 1) := by decide +kernel
theorem dX12_deny_81 : decode bX12_deny 81 = .ok (.if_icmp .ne 8, 3) := by decide +kernel
theorem dX12_deny_84 : decode bX12_deny 84 = .ok (.iload 7, 2) := by decide +kernel
theorem dX12_deny_86 : decode bX12_deny 86 = .ok (.goto 9, 3) := by decide +kernel
theorem dX12_deny_89 : decode bX12_deny 89 = .ok (.aload_n 0, 1) := by decide +kernel
theorem dX12_deny_90 : decode bX12_deny 90 = .ok (.getfield 13, 3) := by decide +kernel
theorem dX12_deny_93 : decode bX12_deny 93 = .ok (.iconst 0, 1) := by decide +kernel
theorem dX12_deny_94 : decode bX12_deny 94 = .ok (.iaload, 1) := by decide +kernel
theorem dX12_deny_95 : decode bX12_deny 95 = .ok (.if_icmp .gt 113, 3) := by decide +kernel
theorem dX12_deny_98 : decode bX12_deny 98 = .ok (.iload_n 3, 1) := by decide +kernel
theorem dX12_deny_99 : decode bX12_deny 99 = .ok (.iload 7, 2) := by decide +kernel
theorem dX12_deny_101 : decode bX12_deny 101 = .ok (.iconst 1, 1) := by decide +kernel
theorem dX12_deny_102 : decode bX12_deny 102 = .ok (.isub, 1) := by decide +kernel
theorem dX12_deny_103 : decode bX12_deny 103 = .ok (.invokestatic 170, 3) := by decide +kernel
theorem dX12_deny_106 : decode bX12_deny 106 = .ok (.ifCond .ne 96, 3) := by decide +kernel
theorem dX12_deny_109 : decode bX12_deny 109 = .ok (.iload_n 3, 1) := by decide +kernel
theorem dX12_deny_110 : decode bX12_deny 110 = .ok (.iload 8, 2) := by decide +kernel
theorem dX12_deny_112 : decode bX12_deny 112 = .ok (.iconst 1, 1) := by decide +kernel
theorem dX12_deny_113 : decode bX12_deny 113 = .ok (.isub, 1) := by decide +kernel
theorem dX12_deny_114 : decode bX12_deny 114 = .ok (.invokestatic 170, 3) := by decide +kernel
theorem dX12_deny_117 : decode bX12_deny 117 = .ok (.ifCond .ne 85, 3) := by decide +kernel
theorem dX12_deny_120 : decode bX12_deny 120 = .ok (.aload_n 0, 1) := by decide +kernel
theorem dX12_deny_121 : decode bX12_deny 121 = .ok (.aload_n 0, 1) := by decide +kernel
theorem dX12_deny_122 : decode bX12_deny 122 = .ok (.invokevirtual 215, 3) := by decide +kernel
theorem dX12_deny_125 : decode bX12_deny 125 = .ok (.iload_n 3, 1) := by decide +kernel
theorem dX12_deny_126 : decode bX12_deny 126 = .ok (.iconst 1, 1) := by decide +kernel
theorem dX12_deny_127 : decode bX12_deny 127 = .ok (.iload 7, 2) := by decide +kernel
theorem dX12_deny_129 : decode bX12_deny 129 = .ok (.iconst 1, 1) := by decide +kernel
theorem dX12_deny_130 : decode bX12_deny 130 = .ok (.isub, 1) := by decide +kernel
theorem dX12_deny_131 : decode bX12_deny 131 = .ok (.ishl, 1) := by decide +kernel
theorem dX12_deny_132 : decode bX12_deny 132 = .ok (.ior, 1) := by decide +kernel
theorem dX12_deny_133 : decode bX12_deny 133 = .ok (.iconst 1, 1) := by decide +kernel
theorem dX12_deny_134 : decode bX12_deny 134 = .ok (.iload 8, 2) := by decide +kernel
theorem dX12_deny_136 : decode bX12_deny 136 = .ok (.iconst 1, 1) := by decide +kernel
theorem dX12_deny_137 : decode bX12_deny 137 = .ok (.isub, 1) := by decide +kernel
theorem dX12_deny_138 : decode bX12_deny 138 = .ok (.ishl, 1) := by decide +kernel
theorem dX12_deny_139 : decode bX12_deny 139 = .ok (.ior, 1) := by decide +kernel
theorem dX12_deny_140 : decode bX12_deny 140 = .ok (.aload_n 0, 1) := by decide +kernel
theorem dX12_deny_141 : decode bX12_deny 141 = .ok (.getfield 13, 3) := by decide +kernel
theorem dX12_deny_144 : decode bX12_deny 144 = .ok (.iconst 2, 1) := by decide +kernel
theorem dX12_deny_145 : decode bX12_deny 145 = .ok (.iaload, 1) := by decide +kernel
theorem dX12_deny_146 : decode bX12_deny 146 = .ok (.invokevirtual 218, 3) := by decide +kernel
theorem dX12_deny_149 : decode bX12_deny 149 = .ok (.invokestatic 204, 3) := by decide +kernel
theorem dX12_deny_152 : decode bX12_deny 152 = .ok (.istore 9, 2) := by decide +kernel
theorem dX12_deny_154 : decode bX12_deny 154 = .ok (.iload 9, 2) := by decide +kernel
theorem dX12_deny_156 : decode bX12_deny 156 = .ok (.iload 4, 2) := by decide +kernel
theorem dX12_deny_158 : decode bX12_deny 158 = .ok (.if_icmp .le 8, 3) := by decide +kernel
theorem dX12_deny_161 : decode bX12_deny 161 = .ok (.iload 7, 2) := by decide +kernel
theorem dX12_deny_163 : decode bX12_deny 163 = .ok (.goto 5, 3) := by decide +kernel
theorem dX12_deny_166 : decode bX12_deny 166 = .ok (.iload 5, 2) := by decide +kernel
theorem dX12_deny_168 : decode bX12_deny 168 = .ok (.istore 5, 2) := by decide +kernel
theorem dX12_deny_170 : decode bX12_deny 170 = .ok (.iload 9, 2) := by decide +kernel
theorem dX12_deny_172 : decode bX12_deny 172 = .ok (.iload 4, 2) := by decide +kernel
theorem dX12_deny_174 : decode bX12_deny 174 = .ok (.if_icmp .le 8, 3) := by decide +kernel
theorem dX12_deny_177 : decode bX12_deny 177 = .ok (.iload 8, 2) := by decide +kernel
theorem dX12_deny_179 : decode bX12_deny 179 = .ok (.goto 5, 3) := by decide +kernel
theorem dX12_deny_182 : decode bX12_deny 182 = .ok (.iload 6, 2) := by decide +kernel
theorem dX12_deny_184 : decode bX12_deny 184 = .ok (.istore 6, 2) := by decide +kernel
theorem dX12_deny_186 : decode bX12_deny 186 = .ok (.iload 9, 2) := by decide +kernel
theorem dX12_deny_188 : decode bX12_deny 188 = .ok (.iload 4, 2) := by decide +kernel
theorem dX12_deny_190 : decode bX12_deny 190 = .ok (.if_icmp .le 8, 3) := by decide +kernel
theorem dX12_deny_193 : decode bX12_deny 193 = .ok (.iload 9, 2) := by decide +kernel
theorem dX12_deny_195 : decode bX12_deny 195 = .ok (.goto 5, 3) := by decide +kernel
theorem dX12_deny_198 : decode bX12_deny 198 = .ok (.iload 4, 2) := by decide +kernel
theorem dX12_deny_200 : decode bX12_deny 200 = .ok (.istore 4, 2) := by decide +kernel
theorem dX12_deny_202 : decode bX12_deny 202 = .ok (.iinc 8 1, 3) := by decide +kernel
theorem dX12_deny_205 : decode bX12_deny 205 = .ok (.goto (-128), 3) := by decide +kernel
theorem dX12_deny_208 : decode bX12_deny 208 = .ok (.iinc 7 1, 3) := by decide +kernel
theorem dX12_deny_211 : decode bX12_deny 211 = .ok (.goto (-161), 3) := by decide +kernel
theorem dX12_deny_214 : decode bX12_deny 214 = .ok (.iload 5, 2) := by decide +kernel
theorem dX12_deny_216 : decode bX12_deny 216 = .ok (.bipush (-4), 2) := by decide +kernel
theorem dX12_deny_218 : decode bX12_deny 218 = .ok (.if_icmp .ne 8, 3) := by decide +kernel
theorem dX12_deny_221 : decode bX12_deny 221 = .ok (.bipush (-4), 2) := by decide +kernel
theorem dX12_deny_223 : decode bX12_deny 223 = .ok (.goto 24, 3) := by decide +kernel
theorem dX12_deny_226 : decode bX12_deny 226 = .ok (.iload_n 2, 1) := by decide +kernel
theorem dX12_deny_227 : decode bX12_deny 227 = .ok (.ifCond .ne 8, 3) := by decide +kernel
theorem dX12_deny_230 : decode bX12_deny 230 = .ok (.iload 4, 2) := by decide +kernel
theorem dX12_deny_232 : decode bX12_deny 232 = .ok (.goto 15, 3) := by decide +kernel
theorem dX12_deny_235 : decode bX12_deny 235 = .ok (.iload_n 2, 1) := by decide +kernel
theorem dX12_deny_236 : decode bX12_deny 236 = .ok (.iconst 1, 1) := by decide +kernel
theorem dX12_deny_237 : decode bX12_deny 237 = .ok (.if_icmp .ne 8, 3) := by decide +kernel
theorem dX12_deny_240 : decode bX12_deny 240 = .ok (.iload 5, 2) := by decide +kernel
theorem dX12_deny_242 : decode bX12_deny 242 = .ok (.goto 5, 3) := by decide +kernel
theorem dX12_deny_245 : decode bX12_deny 245 = .ok (.iload 6, 2) := by decide +kernel
theorem dX12_deny_247 : decode bX12_deny 247 = .ok (.ireturn, 1) := by decide +kernel
section
variable {p : Program} {l : Launch} {e : Env} {s : State} {m : MethodId} {args : Array Value} {below : List Frame} {meth : Method} {c : Code} {G : GG} {n : Nat} {h' : Hp} {rv : Int32}
set_option maxHeartbeats 4000000
set_option maxRecDepth 100000
theorem j_X12_deny_184 (C0 : Cx p s m args meth c G bX12_deny RX12 10 (some .int) "deny") (hN : NT ≤ n) {k50 : Hp → Nat → Int32 → Int32 → Int32 → Int32 → Int32 → Int32 → Int32 → Option (Int32 × Hp)} {k77 : Hp → Nat → Int32 → Int32 → Int32 → Int32 → Int32 → Int32 → Int32 → Int32 → Option (Int32 × Hp)} (ih50 : ∀ {H : Heap} {locs : List Loc} {ls : Array Slot} {h : Hp} {x0 : Nat} {x1 : Int32} {x2 : Int32} {x3 : Int32} {x4 : Int32} {x5 : Int32} {x6 : Int32} {x7 : Int32}, XW G n h s 0 H locs → lv_has ls 10 [(0, .ref (bs G + x0)), (1, .int x1), (2, .int x2), (3, .int x3), (4, .int x4), (5, .int x5), (6, .int x6), (7, .int x7)] → kd x0 = 12 → k50 h x0 x1 x2 x3 x4 x5 x6 x7 = some (rv, h') → W p l e (rmC 7 0 0) s m args below meth c H locs 0 0 (MQ below (QP G n h' (some (.int rv))) args s 0 0 (Ab G)) (F0 m 50 ls [])) (ih77 : ∀ {H : Heap} {locs : List Loc} {ls : Array Slot} {h : Hp} {x0 : Nat} {x1 : Int32} {x2 : Int32} {x3 : Int32} {x4 : Int32} {x5 : Int32} {x6 : Int32} {x7 : Int32} {x8 : Int32}, XW G n h s 0 H locs → lv_has ls 10 [(0, .ref (bs G + x0)), (1, .int x1), (2, .int x2), (3, .int x3), (4, .int x4), (5, .int x5), (6, .int x6), (7, .int x7), (8, .int x8)] → kd x0 = 12 → k77 h x0 x1 x2 x3 x4 x5 x6 x7 x8 = some (rv, h') → W p l e (rmC 7 0 0) s m args below meth c H locs 0 0 (MQ below (QP G n h' (some (.int rv))) args s 0 0 (Ab G)) (F0 m 77 ls [])) {H : Heap} {locs : List Loc} {ls : Array Slot} {h : Hp} {x0 : Nat} {x1 : Int32} {x2 : Int32} {x3 : Int32} {x4 : Int32} {x5 : Int32} {x7 : Int32} {x8 : Int32} {x9 : Int32} {t0 : Int32} (X : XW G n h s 0 H locs) (hl : lv_has ls 10 [(0, .ref (bs G + x0)), (1, .int x1), (2, .int x2), (3, .int x3), (4, .int x4), (5, .int x5), (7, .int x7), (8, .int x8), (9, .int x9)]) (o0 : kd x0 = 12) (hf : f_X12_deny_184 k50 k77 h x0 x1 x2 x3 x4 x5 x7 x8 x9 t0 = some (rv, h')) : W p l e (rmC 7 0 0) s m args below meth c H locs 0 0 (MQ below (QP G n h' (some (.int rv))) args s 0 0 (Ab G)) (F0 m 184 ls [.int t0]) := by
  obtain ⟨hx, hb, hr, hml, hown, hts, hK, hlocks, hnm⟩ := id C0
  unfold f_X12_deny_184 at hf
  refine lv_istore (lv' := [(6, .int t0), (0, .ref (bs G + x0)), (1, .int x1), (2, .int x2), (3, .int x3), (4, .int x4), (5, .int x5), (7, .int x7), (8, .int x8), (9, .int x9)]) hx hb dX12_deny_184 hl (by decide) rfl (fun ls hl => ?_)
  refine lv_iload hx hb dX12_deny_186 (lv_at hl 9 rfl) ?_
  refine lv_iload hx hb dX12_deny_188 (lv_at hl 5 rfl) ?_
  refine lv_icmp_le (tgt := 198) hx hb dX12_deny_190 (by decide) (fun c190 => ?_) (fun c190 => ?_)
  · have hf := ite_t hf c190
    refine lv_iload hx hb dX12_deny_198 (lv_at hl 5 rfl) ?_
    refine lv_istore (lv' := [(4, .int x4), (6, .int t0), (0, .ref (bs G + x0)), (1, .int x1), (2, .int x2), (3, .int x3), (5, .int x5), (7, .int x7), (8, .int x8), (9, .int x9)]) hx hb dX12_deny_200 hl (by decide) rfl (fun ls hl => ?_)
    refine lv_iinc (v := (x8 + (1 : Int32))) (lv' := [(8, .int (x8 + (1 : Int32))), (4, .int x4), (6, .int t0), (0, .ref (bs G + x0)), (1, .int x1), (2, .int x2), (3, .int x3), (5, .int x5), (7, .int x7), (9, .int x9)]) hx hb dX12_deny_202 hl (k := 8) rfl rfl (by decide) rfl (fun ls hl => ?_)
    refine lv_goto (tgt := 77) hx hb dX12_deny_205 (by decide) ?_
    exact ih77 X (lv_sub hl [3, 4, 5, 6, 1, 7, 2, 8, 0] rfl) o0 hf
  · have hf := ite_f hf c190
    refine lv_iload hx hb dX12_deny_193 (lv_at hl 9 rfl) ?_
    refine lv_goto (tgt := 200) hx hb dX12_deny_195 (by decide) ?_
    refine lv_istore (lv' := [(4, .int x9), (6, .int t0), (0, .ref (bs G + x0)), (1, .int x1), (2, .int x2), (3, .int x3), (5, .int x5), (7, .int x7), (8, .int x8), (9, .int x9)]) hx hb dX12_deny_200 hl (by decide) rfl (fun ls hl => ?_)
    refine lv_iinc (v := (x8 + (1 : Int32))) (lv' := [(8, .int (x8 + (1 : Int32))), (4, .int x9), (6, .int t0), (0, .ref (bs G + x0)), (1, .int x1), (2, .int x2), (3, .int x3), (5, .int x5), (7, .int x7), (9, .int x9)]) hx hb dX12_deny_202 hl (k := 8) rfl rfl (by decide) rfl (fun ls hl => ?_)
    refine lv_goto (tgt := 77) hx hb dX12_deny_205 (by decide) ?_
    exact ih77 X (lv_sub hl [3, 4, 5, 6, 1, 7, 2, 8, 0] rfl) o0 hf
theorem j_X12_deny_168 (C0 : Cx p s m args meth c G bX12_deny RX12 10 (some .int) "deny") (hN : NT ≤ n) {k50 : Hp → Nat → Int32 → Int32 → Int32 → Int32 → Int32 → Int32 → Int32 → Option (Int32 × Hp)} {k77 : Hp → Nat → Int32 → Int32 → Int32 → Int32 → Int32 → Int32 → Int32 → Int32 → Option (Int32 × Hp)} (ih50 : ∀ {H : Heap} {locs : List Loc} {ls : Array Slot} {h : Hp} {x0 : Nat} {x1 : Int32} {x2 : Int32} {x3 : Int32} {x4 : Int32} {x5 : Int32} {x6 : Int32} {x7 : Int32}, XW G n h s 0 H locs → lv_has ls 10 [(0, .ref (bs G + x0)), (1, .int x1), (2, .int x2), (3, .int x3), (4, .int x4), (5, .int x5), (6, .int x6), (7, .int x7)] → kd x0 = 12 → k50 h x0 x1 x2 x3 x4 x5 x6 x7 = some (rv, h') → W p l e (rmC 7 0 0) s m args below meth c H locs 0 0 (MQ below (QP G n h' (some (.int rv))) args s 0 0 (Ab G)) (F0 m 50 ls [])) (ih77 : ∀ {H : Heap} {locs : List Loc} {ls : Array Slot} {h : Hp} {x0 : Nat} {x1 : Int32} {x2 : Int32} {x3 : Int32} {x4 : Int32} {x5 : Int32} {x6 : Int32} {x7 : Int32} {x8 : Int32}, XW G n h s 0 H locs → lv_has ls 10 [(0, .ref (bs G + x0)), (1, .int x1), (2, .int x2), (3, .int x3), (4, .int x4), (5, .int x5), (6, .int x6), (7, .int x7), (8, .int x8)] → kd x0 = 12 → k77 h x0 x1 x2 x3 x4 x5 x6 x7 x8 = some (rv, h') → W p l e (rmC 7 0 0) s m args below meth c H locs 0 0 (MQ below (QP G n h' (some (.int rv))) args s 0 0 (Ab G)) (F0 m 77 ls [])) {H : Heap} {locs : List Loc} {ls : Array Slot} {h : Hp} {x0 : Nat} {x1 : Int32} {x2 : Int32} {x3 : Int32} {x4 : Int32} {x6 : Int32} {x7 : Int32} {x8 : Int32} {x9 : Int32} {t0 : Int32} (X : XW G n h s 0 H locs) (hl : lv_has ls 10 [(0, .ref (bs G + x0)), (1, .int x1), (2, .int x2), (3, .int x3), (4, .int x4), (6, .int x6), (7, .int x7), (8, .int x8), (9, .int x9)]) (o0 : kd x0 = 12) (hf : f_X12_deny_168 k50 k77 h x0 x1 x2 x3 x4 x6 x7 x8 x9 t0 = some (rv, h')) : W p l e (rmC 7 0 0) s m args below meth c H locs 0 0 (MQ below (QP G n h' (some (.int rv))) args s 0 0 (Ab G)) (F0 m 168 ls [.int t0]) := by
  obtain ⟨hx, hb, hr, hml, hown, hts, hK, hlocks, hnm⟩ := id C0
  unfold f_X12_deny_168 at hf
  refine lv_istore (lv' := [(5, .int t0), (0, .ref (bs G + x0)), (1, .int x1), (2, .int x2), (3, .int x3), (4, .int x4), (6, .int x6), (7, .int x7), (8, .int x8), (9, .int x9)]) hx hb dX12_deny_168 hl (by decide) rfl (fun ls hl => ?_)
  refine lv_iload hx hb dX12_deny_170 (lv_at hl 9 rfl) ?_
  refine lv_iload hx hb dX12_deny_172 (lv_at hl 5 rfl) ?_
  refine lv_icmp_le (tgt := 182) hx hb dX12_deny_174 (by decide) (fun c174 => ?_) (fun c174 => ?_)
  · have hf := ite_t hf c174
    refine lv_iload hx hb dX12_deny_182 (lv_at hl 6 rfl) ?_
    exact j_X12_deny_184 C0 hN @ih50 @ih77 X (lv_sub hl [1, 2, 3, 4, 5, 0, 7, 8, 9] rfl) o0 hf
  · have hf := ite_f hf c174
    refine lv_iload hx hb dX12_deny_177 (lv_at hl 8 rfl) ?_
    refine lv_goto (tgt := 184) hx hb dX12_deny_179 (by decide) ?_
    exact j_X12_deny_184 C0 hN @ih50 @ih77 X (lv_sub hl [1, 2, 3, 4, 5, 0, 7, 8, 9] rfl) o0 hf
theorem j_X12_deny_95 (C0 : Cx p s m args meth c G bX12_deny RX12 10 (some .int) "deny") (hN : NT ≤ n) {k50 : Hp → Nat → Int32 → Int32 → Int32 → Int32 → Int32 → Int32 → Int32 → Option (Int32 × Hp)} {k77 : Hp → Nat → Int32 → Int32 → Int32 → Int32 → Int32 → Int32 → Int32 → Int32 → Option (Int32 × Hp)} (ih50 : ∀ {H : Heap} {locs : List Loc} {ls : Array Slot} {h : Hp} {x0 : Nat} {x1 : Int32} {x2 : Int32} {x3 : Int32} {x4 : Int32} {x5 : Int32} {x6 : Int32} {x7 : Int32}, XW G n h s 0 H locs → lv_has ls 10 [(0, .ref (bs G + x0)), (1, .int x1), (2, .int x2), (3, .int x3), (4, .int x4), (5, .int x5), (6, .int x6), (7, .int x7)] → kd x0 = 12 → k50 h x0 x1 x2 x3 x4 x5 x6 x7 = some (rv, h') → W p l e (rmC 7 0 0) s m args below meth c H locs 0 0 (MQ below (QP G n h' (some (.int rv))) args s 0 0 (Ab G)) (F0 m 50 ls [])) (ih77 : ∀ {H : Heap} {locs : List Loc} {ls : Array Slot} {h : Hp} {x0 : Nat} {x1 : Int32} {x2 : Int32} {x3 : Int32} {x4 : Int32} {x5 : Int32} {x6 : Int32} {x7 : Int32} {x8 : Int32}, XW G n h s 0 H locs → lv_has ls 10 [(0, .ref (bs G + x0)), (1, .int x1), (2, .int x2), (3, .int x3), (4, .int x4), (5, .int x5), (6, .int x6), (7, .int x7), (8, .int x8)] → kd x0 = 12 → k77 h x0 x1 x2 x3 x4 x5 x6 x7 x8 = some (rv, h') → W p l e (rmC 7 0 0) s m args below meth c H locs 0 0 (MQ below (QP G n h' (some (.int rv))) args s 0 0 (Ab G)) (F0 m 77 ls [])) {H : Heap} {locs : List Loc} {ls : Array Slot} {h : Hp} {x0 : Nat} {x1 : Int32} {x2 : Int32} {x3 : Int32} {x4 : Int32} {x5 : Int32} {x6 : Int32} {x7 : Int32} {x8 : Int32} {t0 : Int32} {t1 : Int32} (X : XW G n h s 0 H locs) (hl : lv_has ls 10 [(0, .ref (bs G + x0)), (1, .int x1), (2, .int x2), (3, .int x3), (4, .int x4), (5, .int x5), (6, .int x6), (7, .int x7), (8, .int x8)]) (o0 : kd x0 = 12) (hf : f_X12_deny_95 k50 k77 h x0 x1 x2 x3 x4 x5 x6 x7 x8 t0 t1 = some (rv, h')) : W p l e (rmC 7 0 0) s m args below meth c H locs 0 0 (MQ below (QP G n h' (some (.int rv))) args s 0 0 (Ab G)) (F0 m 95 ls [.int t1, .int t0]) := by
  obtain ⟨hx, hb, hr, hml, hown, hts, hK, hlocks, hnm⟩ := id C0
  unfold f_X12_deny_95 at hf
  refine lv_icmp_gt (tgt := 208) hx hb dX12_deny_95 (by decide) (fun c95 => ?_) (fun c95 => ?_)
  · have hf := ite_t hf c95
    refine lv_iinc (v := (x7 + (1 : Int32))) (lv' := [(7, .int (x7 + (1 : Int32))), (0, .ref (bs G + x0)), (1, .int x1), (2, .int x2), (3, .int x3), (4, .int x4), (5, .int x5), (6, .int x6), (8, .int x8)]) hx hb dX12_deny_208 hl (k := 7) rfl rfl (by decide) rfl (fun ls hl => ?_)
    refine lv_goto (tgt := 50) hx hb dX12_deny_211 (by decide) ?_
    exact ih50 X (lv_sub hl [1, 2, 3, 4, 5, 6, 7, 0] rfl) o0 hf
  · have hf := ite_f hf c95
    refine lv_iload_n hx hb dX12_deny_98 rfl (lv_at hl 3 rfl) ?_
    refine lv_iload hx hb dX12_deny_99 (lv_at hl 7 rfl) ?_
    refine lv_iconst (v := (1 : Int32)) hx hb dX12_deny_101 (by decide) ?_
    refine lv_isub hx hb dX12_deny_102 ?_
    obtain ⟨r1, h2, q3, hf⟩ := bd_e hf
    refine c_S0 (As := [.int x3, .int (x7 - (1 : Int32))]) (rest := []) (st1 := [.int r1]) hx hb hml hown hts hK X (k_X12_has l G n hN q3) lc_X12_has ls_X12_170 (by decide) rfl hl.1 (Nat.le_of_ble_eq_true rfl) dX12_deny_103 rfl (fun H locs X => ?_)
    refine lv_if_ne (tgt := 202) hx hb dX12_deny_106 (by decide) (fun c106 => ?_) (fun c106 => ?_)
    · have hf := ite_f hf c106
      refine lv_iinc (v := (x8 + (1 : Int32))) (lv' := [(8, .int (x8 + (1 : Int32))), (0, .ref (bs G + x0)), (1, .int x1), (2, .int x2), (3, .int x3), (4, .int x4), (5, .int x5), (6, .int x6), (7, .int x7)]) hx hb dX12_deny_202 hl (k := 8) rfl rfl (by decide) rfl (fun ls hl => ?_)
      refine lv_goto (tgt := 77) hx hb dX12_deny_205 (by decide) ?_
      exact ih77 X (lv_sub hl [1, 2, 3, 4, 5, 6, 7, 8, 0] rfl) o0 hf
    · have hf := ite_t hf c106
      refine lv_iload_n hx hb dX12_deny_109 rfl (lv_at hl 3 rfl) ?_
      refine lv_iload hx hb dX12_deny_110 (lv_at hl 8 rfl) ?_
      refine lv_iconst (v := (1 : Int32)) hx hb dX12_deny_112 (by decide) ?_
      refine lv_isub hx hb dX12_deny_113 ?_
      obtain ⟨r4, h5, q6, hf⟩ := bd_e hf
      refine c_S0 (As := [.int x3, .int (x8 - (1 : Int32))]) (rest := []) (st1 := [.int r4]) hx hb hml hown hts hK X (k_X12_has l G n hN q6) lc_X12_has ls_X12_170 (by decide) rfl hl.1 (Nat.le_of_ble_eq_true rfl) dX12_deny_114 rfl (fun H locs X => ?_)
      refine lv_if_ne (tgt := 202) hx hb dX12_deny_117 (by decide) (fun c117 => ?_) (fun c117 => ?_)
      · have hf := ite_f hf c117
        refine lv_iinc (v := (x8 + (1 : Int32))) (lv' := [(8, .int (x8 + (1 : Int32))), (0, .ref (bs G + x0)), (1, .int x1), (2, .int x2), (3, .int x3), (4, .int x4), (5, .int x5), (6, .int x6), (7, .int x7)]) hx hb dX12_deny_202 hl (k := 8) rfl rfl (by decide) rfl (fun ls hl => ?_)
        refine lv_goto (tgt := 77) hx hb dX12_deny_205 (by decide) ?_
        exact ih77 X (lv_sub hl [1, 2, 3, 4, 5, 6, 7, 8, 0] rfl) o0 hf
      · have hf := ite_t hf c117
        refine lv_aload_n hx hb dX12_deny_120 rfl (lv_at hl 0 rfl) ?_
        refine lv_aload_n hx hb dX12_deny_121 rfl (lv_at hl 0 rfl) ?_
        obtain ⟨r7, h8, q9, hf⟩ := bd_e hf
        refine c_V0 (As := []) (rest := [.ref (bs G + x0)]) (st1 := [.int r7, .ref (bs G + x0)]) hx hb hml hown hts hK X (k_X12_silent l G n hN q9) o0 hN lc_X12_silent lv_X12_215 (ci := 12) rfl rfl (by decide) rfl hl.1 (Nat.le_of_ble_eq_true rfl) dX12_deny_122 rfl (fun H locs X => ?_)
        refine lv_iload_n hx hb dX12_deny_125 rfl (lv_at hl 3 rfl) ?_
        refine lv_iconst (v := (1 : Int32)) hx hb dX12_deny_126 (by decide) ?_
        refine lv_iload hx hb dX12_deny_127 (lv_at hl 7 rfl) ?_
        refine lv_iconst (v := (1 : Int32)) hx hb dX12_deny_129 (by decide) ?_
        refine lv_isub hx hb dX12_deny_130 ?_
        refine lv_ishl hx hb dX12_deny_131 ?_
        refine lv_ior hx hb dX12_deny_132 ?_
        refine lv_iconst (v := (1 : Int32)) hx hb dX12_deny_133 (by decide) ?_
        refine lv_iload hx hb dX12_deny_134 (lv_at hl 8 rfl) ?_
        refine lv_iconst (v := (1 : Int32)) hx hb dX12_deny_136 (by decide) ?_
        refine lv_isub hx hb dX12_deny_137 ?_
        refine lv_ishl hx hb dX12_deny_138 ?_
        refine lv_ior hx hb dX12_deny_139 ?_
        refine lv_aload_n hx hb dX12_deny_140 rfl (lv_at hl 0 rfl) ?_
        obtain ⟨g10, hf⟩ := gd_e hf
        refine g_R hx hb hts hown hK X o0 hN g10 fl_X12_13 (by decide) rfl (by decide) dX12_deny_141 ?_
        refine lv_iconst (v := (2 : Int32)) hx hb dX12_deny_144 (by decide) ?_
        obtain ⟨g11, hf⟩ := gd_e hf
        refine g_ia hx hb hK X g10 hN g11 (by decide) dX12_deny_145 ?_
        obtain ⟨r12, h13, q14, hf⟩ := bd_e hf
        refine c_V0 (As := [.int r7, .int ((x3 ||| ((1 : Int32) <<< ((x7 - (1 : Int32)) &&& 31))) ||| ((1 : Int32) <<< ((x8 - (1 : Int32)) &&& 31))), .int (h8.1 (h8.2 x0 1) (2 : Int32).toNatClampNeg)]) (rest := []) (st1 := [.int r12]) hx hb hml hown hts hK X (k_X12_stuckOf l G n hN q14) o0 hN lc_X12_stuckOf lv_X12_218 (ci := 12) rfl rfl (by decide) rfl hl.1 (Nat.le_of_ble_eq_true rfl) dX12_deny_146 rfl (fun H locs X => ?_)
        obtain ⟨r15, h16, q17, hf⟩ := bd_e hf
        refine c_S0 (As := [.int r12]) (rest := []) (st1 := [.int r15]) hx hb hml hown hts hK X (k_X12_bits l G n hN q17) lc_X12_bits ls_X12_204 (by decide) rfl hl.1 (Nat.le_of_ble_eq_true rfl) dX12_deny_149 rfl (fun H locs X => ?_)
        refine lv_istore (lv' := [(9, .int r15), (0, .ref (bs G + x0)), (1, .int x1), (2, .int x2), (3, .int x3), (4, .int x4), (5, .int x5), (6, .int x6), (7, .int x7), (8, .int x8)]) hx hb dX12_deny_152 hl (by decide) rfl (fun ls hl => ?_)
        refine lv_iload hx hb dX12_deny_154 (lv_at hl 0 rfl) ?_
        refine lv_iload hx hb dX12_deny_156 (lv_at hl 5 rfl) ?_
        refine lv_icmp_le (tgt := 166) hx hb dX12_deny_158 (by decide) (fun c158 => ?_) (fun c158 => ?_)
        · have hf := ite_t hf c158
          refine lv_iload hx hb dX12_deny_166 (lv_at hl 6 rfl) ?_
          exact j_X12_deny_168 C0 hN @ih50 @ih77 X (lv_sub hl [1, 2, 3, 4, 5, 7, 8, 9, 0] rfl) o0 hf
        · have hf := ite_f hf c158
          refine lv_iload hx hb dX12_deny_161 (lv_at hl 8 rfl) ?_
          refine lv_goto (tgt := 168) hx hb dX12_deny_163 (by decide) ?_
          exact j_X12_deny_168 C0 hN @ih50 @ih77 X (lv_sub hl [1, 2, 3, 4, 5, 7, 8, 9, 0] rfl) o0 hf
theorem j_X12_deny_77 (C0 : Cx p s m args meth c G bX12_deny RX12 10 (some .int) "deny") (hN : NT ≤ n) {k50 : Hp → Nat → Int32 → Int32 → Int32 → Int32 → Int32 → Int32 → Int32 → Option (Int32 × Hp)} (ih50 : ∀ {H : Heap} {locs : List Loc} {ls : Array Slot} {h : Hp} {x0 : Nat} {x1 : Int32} {x2 : Int32} {x3 : Int32} {x4 : Int32} {x5 : Int32} {x6 : Int32} {x7 : Int32}, XW G n h s 0 H locs → lv_has ls 10 [(0, .ref (bs G + x0)), (1, .int x1), (2, .int x2), (3, .int x3), (4, .int x4), (5, .int x5), (6, .int x6), (7, .int x7)] → kd x0 = 12 → k50 h x0 x1 x2 x3 x4 x5 x6 x7 = some (rv, h') → W p l e (rmC 7 0 0) s m args below meth c H locs 0 0 (MQ below (QP G n h' (some (.int rv))) args s 0 0 (Ab G)) (F0 m 50 ls [])) : ∀ (fu : Nat), ∀ {H : Heap} {locs : List Loc} {ls : Array Slot} {h : Hp} {x0 : Nat} {x1 : Int32} {x2 : Int32} {x3 : Int32} {x4 : Int32} {x5 : Int32} {x6 : Int32} {x7 : Int32} {x8 : Int32}, XW G n h s 0 H locs → lv_has ls 10 [(0, .ref (bs G + x0)), (1, .int x1), (2, .int x2), (3, .int x3), (4, .int x4), (5, .int x5), (6, .int x6), (7, .int x7), (8, .int x8)] → kd x0 = 12 → f_X12_deny_77 k50 fu h x0 x1 x2 x3 x4 x5 x6 x7 x8 = some (rv, h') → W p l e (rmC 7 0 0) s m args below meth c H locs 0 0 (MQ below (QP G n h' (some (.int rv))) args s 0 0 (Ab G)) (F0 m 77 ls []) := by
  obtain ⟨hx, hb, hr, hml, hown, hts, hK, hlocks, hnm⟩ := id C0
  intro fu
  induction fu with
  | zero => intro H locs ls h x0 x1 x2 x3 x4 x5 x6 x7 x8 X hl o0 hf; cases hf
  | succ fu ih =>
    intro H locs ls h x0 x1 x2 x3 x4 x5 x6 x7 x8 X hl o0 hf
    rw [f_X12_deny_77] at hf
    refine lv_iload hx hb dX12_deny_77 (lv_at hl 8 rfl) ?_
    refine lv_iload_n hx hb dX12_deny_79 rfl (lv_at hl 1 rfl) ?_
    refine lv_iconst (v := (1 : Int32)) hx hb dX12_deny_80 (by decide) ?_
    refine lv_icmp_ne (tgt := 89) hx hb dX12_deny_81 (by decide) (fun c81 => ?_) (fun c81 => ?_)
    · have hf := ite_f hf c81
      refine lv_aload_n hx hb dX12_deny_89 rfl (lv_at hl 0 rfl) ?_
      obtain ⟨g1, hf⟩ := gd_e hf
      refine g_R hx hb hts hown hK X o0 hN g1 fl_X12_13 (by decide) rfl (by decide) dX12_deny_90 ?_
      refine lv_iconst (v := (0 : Int32)) hx hb dX12_deny_93 (by decide) ?_
      obtain ⟨g2, hf⟩ := gd_e hf
      refine g_ia hx hb hK X g1 hN g2 (by decide) dX12_deny_94 ?_
      exact j_X12_deny_95 C0 hN @ih50 @ih X (lv_sub hl [0, 1, 2, 3, 4, 5, 6, 7, 8] rfl) o0 hf
    · have hf := ite_t hf c81
      refine lv_iload hx hb dX12_deny_84 (lv_at hl 7 rfl) ?_
      refine lv_goto (tgt := 95) hx hb dX12_deny_86 (by decide) ?_
      exact j_X12_deny_95 C0 hN @ih50 @ih X (lv_sub hl [0, 1, 2, 3, 4, 5, 6, 7, 8] rfl) o0 hf
theorem j_X12_deny_50 (C0 : Cx p s m args meth c G bX12_deny RX12 10 (some .int) "deny") (hN : NT ≤ n) : ∀ (fu : Nat), ∀ {H : Heap} {locs : List Loc} {ls : Array Slot} {h : Hp} {x0 : Nat} {x1 : Int32} {x2 : Int32} {x3 : Int32} {x4 : Int32} {x5 : Int32} {x6 : Int32} {x7 : Int32}, XW G n h s 0 H locs → lv_has ls 10 [(0, .ref (bs G + x0)), (1, .int x1), (2, .int x2), (3, .int x3), (4, .int x4), (5, .int x5), (6, .int x6), (7, .int x7)] → kd x0 = 12 → f_X12_deny_50 fu h x0 x1 x2 x3 x4 x5 x6 x7 = some (rv, h') → W p l e (rmC 7 0 0) s m args below meth c H locs 0 0 (MQ below (QP G n h' (some (.int rv))) args s 0 0 (Ab G)) (F0 m 50 ls []) := by
  obtain ⟨hx, hb, hr, hml, hown, hts, hK, hlocks, hnm⟩ := id C0
  intro fu
  induction fu with
  | zero => intro H locs ls h x0 x1 x2 x3 x4 x5 x6 x7 X hl o0 hf; cases hf
  | succ fu ih =>
    intro H locs ls h x0 x1 x2 x3 x4 x5 x6 x7 X hl o0 hf
    rw [f_X12_deny_50] at hf
    refine lv_iload hx hb dX12_deny_50 (lv_at hl 7 rfl) ?_
    refine lv_aload_n hx hb dX12_deny_52 rfl (lv_at hl 0 rfl) ?_
    obtain ⟨g1, hf⟩ := gd_e hf
    refine g_R hx hb hts hown hK X o0 hN g1 fl_X12_13 (by decide) rfl (by decide) dX12_deny_53 ?_
    refine lv_iconst (v := (0 : Int32)) hx hb dX12_deny_56 (by decide) ?_
    obtain ⟨g2, hf⟩ := gd_e hf
    refine g_ia hx hb hK X g1 hN g2 (by decide) dX12_deny_57 ?_
    refine lv_icmp_gt (tgt := 214) hx hb dX12_deny_58 (by decide) (fun c58 => ?_) (fun c58 => ?_)
    · have hf := ite_t hf c58
      refine lv_iload hx hb dX12_deny_214 (lv_at hl 5 rfl) ?_
      refine lv_bipush (v := (-4 : Int32)) hx hb dX12_deny_216 (by decide) ?_
      refine lv_icmp_ne (tgt := 226) hx hb dX12_deny_218 (by decide) (fun c218 => ?_) (fun c218 => ?_)
      · have hf := ite_f hf c218
        refine lv_iload_n hx hb dX12_deny_226 rfl (lv_at hl 2 rfl) ?_
        refine lv_if_ne (tgt := 235) hx hb dX12_deny_227 (by decide) (fun c227 => ?_) (fun c227 => ?_)
        · have hf := ite_f hf c227
          refine lv_iload_n hx hb dX12_deny_235 rfl (lv_at hl 2 rfl) ?_
          refine lv_iconst (v := (1 : Int32)) hx hb dX12_deny_236 (by decide) ?_
          refine lv_icmp_ne (tgt := 245) hx hb dX12_deny_237 (by decide) (fun c237 => ?_) (fun c237 => ?_)
          · have hf := ite_f hf c237
            refine lv_iload hx hb dX12_deny_245 (lv_at hl 6 rfl) ?_
            exact r_I hx hb hr hlocks X hf dX12_deny_247
          · have hf := ite_t hf c237
            refine lv_iload hx hb dX12_deny_240 (lv_at hl 5 rfl) ?_
            refine lv_goto (tgt := 247) hx hb dX12_deny_242 (by decide) ?_
            exact r_I hx hb hr hlocks X hf dX12_deny_247
        · have hf := ite_t hf c227
          refine lv_iload hx hb dX12_deny_230 (lv_at hl 4 rfl) ?_
          refine lv_goto (tgt := 247) hx hb dX12_deny_232 (by decide) ?_
          exact r_I hx hb hr hlocks X hf dX12_deny_247
      · have hf := ite_t hf c218
        refine lv_bipush (v := (-4 : Int32)) hx hb dX12_deny_221 (by decide) ?_
        refine lv_goto (tgt := 247) hx hb dX12_deny_223 (by decide) ?_
        exact r_I hx hb hr hlocks X hf dX12_deny_247
    · have hf := ite_f hf c58
      refine lv_iload_n hx hb dX12_deny_61 rfl (lv_at hl 1 rfl) ?_
      refine lv_iconst (v := (1 : Int32)) hx hb dX12_deny_62 (by decide) ?_
      refine lv_icmp_ne (tgt := 71) hx hb dX12_deny_63 (by decide) (fun c63 => ?_) (fun c63 => ?_)
      · have hf := ite_f hf c63
        refine lv_iload hx hb dX12_deny_71 (lv_at hl 7 rfl) ?_
        refine lv_iconst (v := (1 : Int32)) hx hb dX12_deny_73 (by decide) ?_
        refine lv_iadd hx hb dX12_deny_74 ?_
        refine lv_istore (lv' := [(8, .int (x7 + (1 : Int32))), (0, .ref (bs G + x0)), (1, .int x1), (2, .int x2), (3, .int x3), (4, .int x4), (5, .int x5), (6, .int x6), (7, .int x7)]) hx hb dX12_deny_75 hl (by decide) rfl (fun ls hl => ?_)
        exact j_X12_deny_77 C0 hN @ih FU X (lv_sub hl [1, 2, 3, 4, 5, 6, 7, 8, 0] rfl) o0 hf
      · have hf := ite_t hf c63
        refine lv_iload hx hb dX12_deny_66 (lv_at hl 7 rfl) ?_
        refine lv_goto (tgt := 75) hx hb dX12_deny_68 (by decide) ?_
        refine lv_istore (lv' := [(8, .int x7), (0, .ref (bs G + x0)), (1, .int x1), (2, .int x2), (3, .int x3), (4, .int x4), (5, .int x5), (6, .int x6), (7, .int x7)]) hx hb dX12_deny_75 hl (by decide) rfl (fun ls hl => ?_)
        exact j_X12_deny_77 C0 hN @ih FU X (lv_sub hl [1, 2, 3, 4, 5, 6, 7, 8, 0] rfl) o0 hf
theorem k_X12_deny (l : Launch) (G : GG) (n : Nat) (hN : NT ≤ n) {h h' : Hp} {x0 : Nat} {x1 : Int32} {x2 : Int32} {rv : Int32} (hf : f_X12_deny h x0 x1 x2 = some (rv, h')) : CT l G n n yX12_deny (.code yX12_deny bX12_deny 10 (some .int)) 7 0 0 [.ref (bs G + x0), .int x1, .int x2] h h' (some (.int rv)) := by
  refine ct_of (maxL := 10) (ret := (some .int)) (bytes := bX12_deny) (by decide) (Nat.le_of_ble_eq_true rfl) (fun p e s m below meth c C0 X ls hl => ?_)
  have hl : lv_has ls 10 [(0, .ref (bs G + x0)), (1, .int x1), (2, .int x2)] := hl
  obtain ⟨hx, hb, hr, hml, hown, hts, hK, hlocks, hnm⟩ := id C0
  unfold f_X12_deny at hf
  obtain ⟨o0, hf⟩ := gd_e hf
  refine lv_aload_n hx hb dX12_deny_0 rfl (lv_at hl 0 rfl) ?_
  refine lv_iconst (v := (0 : Int32)) hx hb dX12_deny_1 (by decide) ?_
  refine g_PI hx hb hts hown hK X o0 hN fl_X12_1 ft_12_0 (by decide) rfl dX12_deny_2 (fun H locs X => ?_)
  obtain ⟨h1, e2, hf⟩ := lt_e hf
  rw [← e2] at X
  refine lv_iload_n hx hb dX12_deny_5 rfl (lv_at hl 1 rfl) ?_
  refine lv_i2l hx hb dX12_deny_6 rfl ?_
  refine lv_lconst (v := 1) hx hb dX12_deny_7 (by decide) ?_
  refine lv_ldc2 hx hb hown (hts _ cn_X12_97) dX12_deny_8 ?_
  obtain ⟨r3, h4, q5, hf⟩ := bd_e hf
  refine c_S0 (As := [.long x1.toInt64, .long (1 : Int64), .long (2 : Int64)]) (rest := []) (st1 := [.int r3]) hx hb hml hown hts hK X (k_X12_in l G n hN q5) lc_X12_in ls_X12_75 (by decide) rfl hl.1 (Nat.le_of_ble_eq_true rfl) dX12_deny_11 rfl (fun H locs X => ?_)
  refine lv_if_eq (tgt := 29) hx hb dX12_deny_14 (by decide) (fun c14 => ?_) (fun c14 => ?_)
  · have hf := ite_t hf c14
    refine lv_iconst (v := (-1 : Int32)) hx hb dX12_deny_29 (by decide) ?_
    exact r_I hx hb hr hlocks X hf dX12_deny_30
  · have hf := ite_f hf c14
    refine lv_iload_n hx hb dX12_deny_17 rfl (lv_at hl 2 rfl) ?_
    refine lv_i2l hx hb dX12_deny_18 rfl ?_
    refine lv_lconst (v := 0) hx hb dX12_deny_19 (by decide) ?_
    refine lv_ldc2 hx hb hown (hts _ cn_X12_97) dX12_deny_20 ?_
    obtain ⟨r6, h7, q8, hf⟩ := bd_e hf
    refine c_S0 (As := [.long x2.toInt64, .long (0 : Int64), .long (2 : Int64)]) (rest := []) (st1 := [.int r6]) hx hb hml hown hts hK X (k_X12_in l G n hN q8) lc_X12_in ls_X12_75 (by decide) rfl hl.1 (Nat.le_of_ble_eq_true rfl) dX12_deny_23 rfl (fun H locs X => ?_)
    refine lv_if_ne (tgt := 31) hx hb dX12_deny_26 (by decide) (fun c26 => ?_) (fun c26 => ?_)
    · have hf := ite_f hf c26
      refine lv_aload_n hx hb dX12_deny_31 rfl (lv_at hl 0 rfl) ?_
      obtain ⟨r9, h10, q11, hf⟩ := bd_e hf
      refine c_V0 (As := []) (rest := []) (st1 := [.int r9]) hx hb hml hown hts hK X (k_X12_taken l G n hN q11) o0 hN lc_X12_taken lv_X12_135 (ci := 12) rfl rfl (by decide) rfl hl.1 (Nat.le_of_ble_eq_true rfl) dX12_deny_32 rfl (fun H locs X => ?_)
      refine lv_istore_n (lv' := [(3, .int r9), (0, .ref (bs G + x0)), (1, .int x1), (2, .int x2)]) hx hb dX12_deny_35 rfl hl (by decide) rfl (fun ls hl => ?_)
      refine lv_iconst (v := (-1 : Int32)) hx hb dX12_deny_36 (by decide) ?_
      refine lv_istore (lv' := [(4, .int (-1 : Int32)), (3, .int r9), (0, .ref (bs G + x0)), (1, .int x1), (2, .int x2)]) hx hb dX12_deny_37 hl (by decide) rfl (fun ls hl => ?_)
      refine lv_bipush (v := (-4 : Int32)) hx hb dX12_deny_39 (by decide) ?_
      refine lv_istore (lv' := [(5, .int (-4 : Int32)), (4, .int (-1 : Int32)), (3, .int r9), (0, .ref (bs G + x0)), (1, .int x1), (2, .int x2)]) hx hb dX12_deny_41 hl (by decide) rfl (fun ls hl => ?_)
      refine lv_bipush (v := (-4 : Int32)) hx hb dX12_deny_43 (by decide) ?_
      refine lv_istore (lv' := [(6, .int (-4 : Int32)), (5, .int (-4 : Int32)), (4, .int (-1 : Int32)), (3, .int r9), (0, .ref (bs G + x0)), (1, .int x1), (2, .int x2)]) hx hb dX12_deny_45 hl (by decide) rfl (fun ls hl => ?_)
      refine lv_iconst (v := (1 : Int32)) hx hb dX12_deny_47 (by decide) ?_
      refine lv_istore (lv' := [(7, .int (1 : Int32)), (6, .int (-4 : Int32)), (5, .int (-4 : Int32)), (4, .int (-1 : Int32)), (3, .int r9), (0, .ref (bs G + x0)), (1, .int x1), (2, .int x2)]) hx hb dX12_deny_48 hl (by decide) rfl (fun ls hl => ?_)
      exact j_X12_deny_50 C0 hN FU X (lv_sub hl [5, 6, 7, 4, 3, 2, 1, 0] rfl) o0 hf
    · have hf := ite_t hf c26
      refine lv_iconst (v := (-1 : Int32)) hx hb dX12_deny_29 (by decide) ?_
      exact r_I hx hb hr hlocks X hf dX12_deny_30
end
theorem dX12_guard_0 : decode bX12_guard 0 = .ok (.aload_n 0, 1) := by decide +kernel
theorem dX12_guard_1 : decode bX12_guard 1 = .ok (.iconst 0, 1) := by decide +kernel
theorem dX12_guard_2 : decode bX12_guard 2 = .ok (.putfield 1, 3) := by decide +kernel
theorem dX12_guard_5 : decode bX12_guard 5 = .ok (.aload_n 0, 1) := by decide +kernel
theorem dX12_guard_6 : decode bX12_guard 6 = .ok (.invokevirtual 135, 3) := by decide +kernel
theorem dX12_guard_9 : decode bX12_guard 9 = .ok (.istore_n 1, 1) := by decide +kernel
theorem dX12_guard_10 : decode bX12_guard 10 = .ok (.bipush (-4), 2) := by decide +kernel
theorem dX12_guard_12 : decode bX12_guard 12 = .ok (.istore_n 2, 1) := by decide +kernel
theorem dX12_guard_13 : decode bX12_guard 13 = .ok (.bipush 99, 2) := by decide +kernel
theorem dX12_guard_15 : decode bX12_guard 15 = .ok (.istore_n 3, 1) := by decide +kernel
theorem dX12_guard_16 : decode bX12_guard 16 = .ok (.iconst 1, 1) := by decide +kernel
theorem dX12_guard_17 : decode bX12_guard 17 = .ok (.istore 4, 2) := by decide +kernel
theorem dX12_guard_19 : decode bX12_guard 19 = .ok (.iload 4, 2) := by decide +kernel
theorem dX12_guard_21 : decode bX12_guard 21 = .ok (.aload_n 0, 1) := by decide +kernel
theorem dX12_guard_22 : decode bX12_guard 22 = .ok (.getfield 13, 3) := by decide +kernel
theorem dX12_guard_25 : decode bX12_guard 25 = .ok (.iconst 0, 1) := by decide +kernel
theorem dX12_guard_26 : decode bX12_guard 26 = .ok (.iaload, 1) := by decide +kernel
theorem dX12_guard_27 : decode bX12_guard 27 = .ok (.if_icmp .gt 72, 3) := by decide +kernel
theorem dX12_guard_30 : decode bX12_guard 30 = .ok (.iload_n 1, 1) := by decide +kernel
theorem dX12_guard_31 : decode bX12_guard 31 = .ok (.iload 4, 2) := by decide +kernel
theorem dX12_guard_33 : decode bX12_guard 33 = .ok (.iconst 1, 1) := by decide +kernel
theorem dX12_guard_34 : decode bX12_guard 34 = .ok (.isub, 1) := by decide +kernel
theorem dX12_guard_35 : decode bX12_guard 35 = .ok (.invokestatic 170, 3) := by decide +kernel
theorem dX12_guard_38 : decode bX12_guard 38 = .ok (.ifCond .ne 55, 3) := by decide +kernel
theorem dX12_guard_41 : decode bX12_guard 41 = .ok (.aload_n 0, 1) := by decide +kernel
theorem dX12_guard_42 : decode bX12_guard 42 = .ok (.iload 4, 2) := by decide +kernel
theorem dX12_guard_44 : decode bX12_guard 44 = .ok (.putfield 128, 3) := by decide +kernel
theorem dX12_guard_47 : decode bX12_guard 47 = .ok (.aload_n 0, 1) := by decide +kernel
theorem dX12_guard_48 : decode bX12_guard 48 = .ok (.aload_n 0, 1) := by decide +kernel
theorem dX12_guard_49 : decode bX12_guard 49 = .ok (.invokevirtual 215, 3) := by decide +kernel
theorem dX12_guard_52 : decode bX12_guard 52 = .ok (.iload_n 1, 1) := by decide +kernel
theorem dX12_guard_53 : decode bX12_guard 53 = .ok (.aload_n 0, 1) := by decide +kernel
theorem dX12_guard_54 : decode bX12_guard 54 = .ok (.getfield 13, 3) := by decide +kernel
theorem dX12_guard_57 : decode bX12_guard 57 = .ok (.iconst 2, 1) := by decide +kernel
theorem dX12_guard_58 : decode bX12_guard 58 = .ok (.iaload, 1) := by decide +kernel
theorem dX12_guard_59 : decode bX12_guard 59 = .ok (.invokevirtual 218, 3) := by decide +kernel
theorem dX12_guard_62 : decode bX12_guard 62 = .ok (.invokestatic 204, 3) := by decide +kernel
theorem dX12_guard_65 : decode bX12_guard 65 = .ok (.istore 5, 2) := by decide +kernel
theorem dX12_guard_67 : decode bX12_guard 67 = .ok (.iload 5, 2) := by decide +kernel
theorem dX12_guard_69 : decode bX12_guard 69 = .ok (.iload_n 3, 1) := by decide +kernel
theorem dX12_guard_70 : decode bX12_guard 70 = .ok (.if_icmp .ge 8, 3) := by decide +kernel
theorem dX12_guard_73 : decode bX12_guard 73 = .ok (.iload 4, 2) := by decide +kernel
theorem dX12_guard_75 : decode bX12_guard 75 = .ok (.goto 4, 3) := by decide +kernel
theorem dX12_guard_78 : decode bX12_guard 78 = .ok (.iload_n 2, 1) := by decide +kernel
theorem dX12_guard_79 : decode bX12_guard 79 = .ok (.istore_n 2, 1) := by decide +kernel
theorem dX12_guard_80 : decode bX12_guard 80 = .ok (.iload 5, 2) := by decide +kernel
theorem dX12_guard_82 : decode bX12_guard 82 = .ok (.iload_n 3, 1) := by decide +kernel
theorem dX12_guard_83 : decode bX12_guard 83 = .ok (.if_icmp .ge 8, 3) := by decide +kernel
theorem dX12_guard_86 : decode bX12_guard 86 = .ok (.iload 5, 2) := by decide +kernel
theorem dX12_guard_88 : decode bX12_guard 88 = .ok (.goto 4, 3) := by decide +kernel
theorem dX12_guard_91 : decode bX12_guard 91 = .ok (.iload_n 3, 1) := by decide +kernel
theorem dX12_guard_92 : decode bX12_guard 92 = .ok (.istore_n 3, 1) := by decide +kernel
theorem dX12_guard_93 : decode bX12_guard 93 = .ok (.iinc 4 1, 3) := by decide +kernel
theorem dX12_guard_96 : decode bX12_guard 96 = .ok (.goto (-77), 3) := by decide +kernel
theorem dX12_guard_99 : decode bX12_guard 99 = .ok (.aload_n 0, 1) := by decide +kernel
theorem dX12_guard_100 : decode bX12_guard 100 = .ok (.iconst 0, 1) := by decide +kernel
theorem dX12_guard_101 : decode bX12_guard 101 = .ok (.putfield 128, 3) := by decide +kernel
theorem dX12_guard_104 : decode bX12_guard 104 = .ok (.iload_n 2, 1) := by decide +kernel
theorem dX12_guard_105 : decode bX12_guard 105 = .ok (.ireturn, 1) := by decide +kernel
section
variable {p : Program} {l : Launch} {e : Env} {s : State} {m : MethodId} {args : Array Value} {below : List Frame} {meth : Method} {c : Code} {G : GG} {n : Nat} {h' : Hp} {rv : Int32}
set_option maxHeartbeats 4000000
set_option maxRecDepth 100000
theorem j_X12_guard_79 (C0 : Cx p s m args meth c G bX12_guard RX12 6 (some .int) "guard") (hN : NT ≤ n) {k19 : Hp → Nat → Int32 → Int32 → Int32 → Int32 → Option (Int32 × Hp)} (ih19 : ∀ {H : Heap} {locs : List Loc} {ls : Array Slot} {h : Hp} {x0 : Nat} {x1 : Int32} {x2 : Int32} {x3 : Int32} {x4 : Int32}, XW G n h s 0 H locs → lv_has ls 6 [(0, .ref (bs G + x0)), (1, .int x1), (2, .int x2), (3, .int x3), (4, .int x4)] → kd x0 = 12 → k19 h x0 x1 x2 x3 x4 = some (rv, h') → W p l e (rmC 7 0 0) s m args below meth c H locs 0 0 (MQ below (QP G n h' (some (.int rv))) args s 0 0 (Ab G)) (F0 m 19 ls [])) {H : Heap} {locs : List Loc} {ls : Array Slot} {h : Hp} {x0 : Nat} {x1 : Int32} {x3 : Int32} {x4 : Int32} {x5 : Int32} {t0 : Int32} (X : XW G n h s 0 H locs) (hl : lv_has ls 6 [(0, .ref (bs G + x0)), (1, .int x1), (3, .int x3), (4, .int x4), (5, .int x5)]) (o0 : kd x0 = 12) (hf : f_X12_guard_79 k19 h x0 x1 x3 x4 x5 t0 = some (rv, h')) : W p l e (rmC 7 0 0) s m args below meth c H locs 0 0 (MQ below (QP G n h' (some (.int rv))) args s 0 0 (Ab G)) (F0 m 79 ls [.int t0]) := by
  obtain ⟨hx, hb, hr, hml, hown, hts, hK, hlocks, hnm⟩ := id C0
  unfold f_X12_guard_79 at hf
  refine lv_istore_n (lv' := [(2, .int t0), (0, .ref (bs G + x0)), (1, .int x1), (3, .int x3), (4, .int x4), (5, .int x5)]) hx hb dX12_guard_79 rfl hl (by decide) rfl (fun ls hl => ?_)
  refine lv_iload hx hb dX12_guard_80 (lv_at hl 5 rfl) ?_
  refine lv_iload_n hx hb dX12_guard_82 rfl (lv_at hl 3 rfl) ?_
  refine lv_icmp_ge (tgt := 91) hx hb dX12_guard_83 (by decide) (fun c83 => ?_) (fun c83 => ?_)
  · have hf := ite_t hf c83
    refine lv_iload_n hx hb dX12_guard_91 rfl (lv_at hl 3 rfl) ?_
    refine lv_istore_n (lv' := [(3, .int x3), (2, .int t0), (0, .ref (bs G + x0)), (1, .int x1), (4, .int x4), (5, .int x5)]) hx hb dX12_guard_92 rfl hl (by decide) rfl (fun ls hl => ?_)
    refine lv_iinc (v := (x4 + (1 : Int32))) (lv' := [(4, .int (x4 + (1 : Int32))), (3, .int x3), (2, .int t0), (0, .ref (bs G + x0)), (1, .int x1), (5, .int x5)]) hx hb dX12_guard_93 hl (k := 4) rfl rfl (by decide) rfl (fun ls hl => ?_)
    refine lv_goto (tgt := 19) hx hb dX12_guard_96 (by decide) ?_
    exact ih19 X (lv_sub hl [3, 4, 2, 1, 0] rfl) o0 hf
  · have hf := ite_f hf c83
    refine lv_iload hx hb dX12_guard_86 (lv_at hl 5 rfl) ?_
    refine lv_goto (tgt := 92) hx hb dX12_guard_88 (by decide) ?_
    refine lv_istore_n (lv' := [(3, .int x5), (2, .int t0), (0, .ref (bs G + x0)), (1, .int x1), (4, .int x4), (5, .int x5)]) hx hb dX12_guard_92 rfl hl (by decide) rfl (fun ls hl => ?_)
    refine lv_iinc (v := (x4 + (1 : Int32))) (lv' := [(4, .int (x4 + (1 : Int32))), (3, .int x5), (2, .int t0), (0, .ref (bs G + x0)), (1, .int x1), (5, .int x5)]) hx hb dX12_guard_93 hl (k := 4) rfl rfl (by decide) rfl (fun ls hl => ?_)
    refine lv_goto (tgt := 19) hx hb dX12_guard_96 (by decide) ?_
    exact ih19 X (lv_sub hl [3, 4, 2, 1, 0] rfl) o0 hf
theorem j_X12_guard_19 (C0 : Cx p s m args meth c G bX12_guard RX12 6 (some .int) "guard") (hN : NT ≤ n) : ∀ (fu : Nat), ∀ {H : Heap} {locs : List Loc} {ls : Array Slot} {h : Hp} {x0 : Nat} {x1 : Int32} {x2 : Int32} {x3 : Int32} {x4 : Int32}, XW G n h s 0 H locs → lv_has ls 6 [(0, .ref (bs G + x0)), (1, .int x1), (2, .int x2), (3, .int x3), (4, .int x4)] → kd x0 = 12 → f_X12_guard_19 fu h x0 x1 x2 x3 x4 = some (rv, h') → W p l e (rmC 7 0 0) s m args below meth c H locs 0 0 (MQ below (QP G n h' (some (.int rv))) args s 0 0 (Ab G)) (F0 m 19 ls []) := by
  obtain ⟨hx, hb, hr, hml, hown, hts, hK, hlocks, hnm⟩ := id C0
  intro fu
  induction fu with
  | zero => intro H locs ls h x0 x1 x2 x3 x4 X hl o0 hf; cases hf
  | succ fu ih =>
    intro H locs ls h x0 x1 x2 x3 x4 X hl o0 hf
    rw [f_X12_guard_19] at hf
    refine lv_iload hx hb dX12_guard_19 (lv_at hl 4 rfl) ?_
    refine lv_aload_n hx hb dX12_guard_21 rfl (lv_at hl 0 rfl) ?_
    obtain ⟨g1, hf⟩ := gd_e hf
    refine g_R hx hb hts hown hK X o0 hN g1 fl_X12_13 (by decide) rfl (by decide) dX12_guard_22 ?_
    refine lv_iconst (v := (0 : Int32)) hx hb dX12_guard_25 (by decide) ?_
    obtain ⟨g2, hf⟩ := gd_e hf
    refine g_ia hx hb hK X g1 hN g2 (by decide) dX12_guard_26 ?_
    refine lv_icmp_gt (tgt := 99) hx hb dX12_guard_27 (by decide) (fun c27 => ?_) (fun c27 => ?_)
    · have hf := ite_t hf c27
      refine lv_aload_n hx hb dX12_guard_99 rfl (lv_at hl 0 rfl) ?_
      refine lv_iconst (v := (0 : Int32)) hx hb dX12_guard_100 (by decide) ?_
      refine g_PI hx hb hts hown hK X o0 hN fl_X12_128 ft_12_12 (by decide) rfl dX12_guard_101 (fun H locs X => ?_)
      obtain ⟨h3, e4, hf⟩ := lt_e hf
      rw [← e4] at X
      refine lv_iload_n hx hb dX12_guard_104 rfl (lv_at hl 2 rfl) ?_
      exact r_I hx hb hr hlocks X hf dX12_guard_105
    · have hf := ite_f hf c27
      refine lv_iload_n hx hb dX12_guard_30 rfl (lv_at hl 1 rfl) ?_
      refine lv_iload hx hb dX12_guard_31 (lv_at hl 4 rfl) ?_
      refine lv_iconst (v := (1 : Int32)) hx hb dX12_guard_33 (by decide) ?_
      refine lv_isub hx hb dX12_guard_34 ?_
      obtain ⟨r5, h6, q7, hf⟩ := bd_e hf
      refine c_S0 (As := [.int x1, .int (x4 - (1 : Int32))]) (rest := []) (st1 := [.int r5]) hx hb hml hown hts hK X (k_X12_has l G n hN q7) lc_X12_has ls_X12_170 (by decide) rfl hl.1 (Nat.le_of_ble_eq_true rfl) dX12_guard_35 rfl (fun H locs X => ?_)
      refine lv_if_ne (tgt := 93) hx hb dX12_guard_38 (by decide) (fun c38 => ?_) (fun c38 => ?_)
      · have hf := ite_f hf c38
        refine lv_iinc (v := (x4 + (1 : Int32))) (lv' := [(4, .int (x4 + (1 : Int32))), (0, .ref (bs G + x0)), (1, .int x1), (2, .int x2), (3, .int x3)]) hx hb dX12_guard_93 hl (k := 4) rfl rfl (by decide) rfl (fun ls hl => ?_)
        refine lv_goto (tgt := 19) hx hb dX12_guard_96 (by decide) ?_
        exact ih X (lv_sub hl [1, 2, 3, 4, 0] rfl) o0 hf
      · have hf := ite_t hf c38
        refine lv_aload_n hx hb dX12_guard_41 rfl (lv_at hl 0 rfl) ?_
        refine lv_iload hx hb dX12_guard_42 (lv_at hl 4 rfl) ?_
        refine g_PI hx hb hts hown hK X o0 hN fl_X12_128 ft_12_12 (by decide) rfl dX12_guard_44 (fun H locs X => ?_)
        obtain ⟨h8, e9, hf⟩ := lt_e hf
        rw [← e9] at X
        refine lv_aload_n hx hb dX12_guard_47 rfl (lv_at hl 0 rfl) ?_
        refine lv_aload_n hx hb dX12_guard_48 rfl (lv_at hl 0 rfl) ?_
        obtain ⟨r10, h11, q12, hf⟩ := bd_e hf
        refine c_V0 (As := []) (rest := [.ref (bs G + x0)]) (st1 := [.int r10, .ref (bs G + x0)]) hx hb hml hown hts hK X (k_X12_silent l G n hN q12) o0 hN lc_X12_silent lv_X12_215 (ci := 12) rfl rfl (by decide) rfl hl.1 (Nat.le_of_ble_eq_true rfl) dX12_guard_49 rfl (fun H locs X => ?_)
        refine lv_iload_n hx hb dX12_guard_52 rfl (lv_at hl 1 rfl) ?_
        refine lv_aload_n hx hb dX12_guard_53 rfl (lv_at hl 0 rfl) ?_
        obtain ⟨g13, hf⟩ := gd_e hf
        refine g_R hx hb hts hown hK X o0 hN g13 fl_X12_13 (by decide) rfl (by decide) dX12_guard_54 ?_
        refine lv_iconst (v := (2 : Int32)) hx hb dX12_guard_57 (by decide) ?_
        obtain ⟨g14, hf⟩ := gd_e hf
        refine g_ia hx hb hK X g13 hN g14 (by decide) dX12_guard_58 ?_
        obtain ⟨r15, h16, q17, hf⟩ := bd_e hf
        refine c_V0 (As := [.int r10, .int x1, .int (h11.1 (h11.2 x0 1) (2 : Int32).toNatClampNeg)]) (rest := []) (st1 := [.int r15]) hx hb hml hown hts hK X (k_X12_stuckOf l G n hN q17) o0 hN lc_X12_stuckOf lv_X12_218 (ci := 12) rfl rfl (by decide) rfl hl.1 (Nat.le_of_ble_eq_true rfl) dX12_guard_59 rfl (fun H locs X => ?_)
        obtain ⟨r18, h19, q20, hf⟩ := bd_e hf
        refine c_S0 (As := [.int r15]) (rest := []) (st1 := [.int r18]) hx hb hml hown hts hK X (k_X12_bits l G n hN q20) lc_X12_bits ls_X12_204 (by decide) rfl hl.1 (Nat.le_of_ble_eq_true rfl) dX12_guard_62 rfl (fun H locs X => ?_)
        refine lv_istore (lv' := [(5, .int r18), (0, .ref (bs G + x0)), (1, .int x1), (2, .int x2), (3, .int x3), (4, .int x4)]) hx hb dX12_guard_65 hl (by decide) rfl (fun ls hl => ?_)
        refine lv_iload hx hb dX12_guard_67 (lv_at hl 0 rfl) ?_
        refine lv_iload_n hx hb dX12_guard_69 rfl (lv_at hl 4 rfl) ?_
        refine lv_icmp_ge (tgt := 78) hx hb dX12_guard_70 (by decide) (fun c70 => ?_) (fun c70 => ?_)
        · have hf := ite_t hf c70
          refine lv_iload_n hx hb dX12_guard_78 rfl (lv_at hl 3 rfl) ?_
          exact j_X12_guard_79 C0 hN @ih X (lv_sub hl [1, 2, 4, 5, 0] rfl) o0 hf
        · have hf := ite_f hf c70
          refine lv_iload hx hb dX12_guard_73 (lv_at hl 5 rfl) ?_
          refine lv_goto (tgt := 79) hx hb dX12_guard_75 (by decide) ?_
          exact j_X12_guard_79 C0 hN @ih X (lv_sub hl [1, 2, 4, 5, 0] rfl) o0 hf
theorem k_X12_guard (l : Launch) (G : GG) (n : Nat) (hN : NT ≤ n) {h h' : Hp} {x0 : Nat} {rv : Int32} (hf : f_X12_guard h x0 = some (rv, h')) : CT l G n n yX12_guard (.code yX12_guard bX12_guard 6 (some .int)) 7 0 0 [.ref (bs G + x0)] h h' (some (.int rv)) := by
  refine ct_of (maxL := 6) (ret := (some .int)) (bytes := bX12_guard) (by decide) (Nat.le_of_ble_eq_true rfl) (fun p e s m below meth c C0 X ls hl => ?_)
  have hl : lv_has ls 6 [(0, .ref (bs G + x0))] := hl
  obtain ⟨hx, hb, hr, hml, hown, hts, hK, hlocks, hnm⟩ := id C0
  unfold f_X12_guard at hf
  obtain ⟨o0, hf⟩ := gd_e hf
  refine lv_aload_n hx hb dX12_guard_0 rfl (lv_at hl 0 rfl) ?_
  refine lv_iconst (v := (0 : Int32)) hx hb dX12_guard_1 (by decide) ?_
  refine g_PI hx hb hts hown hK X o0 hN fl_X12_1 ft_12_0 (by decide) rfl dX12_guard_2 (fun H locs X => ?_)
  obtain ⟨h1, e2, hf⟩ := lt_e hf
  rw [← e2] at X
  refine lv_aload_n hx hb dX12_guard_5 rfl (lv_at hl 0 rfl) ?_
  obtain ⟨r3, h4, q5, hf⟩ := bd_e hf
  refine c_V0 (As := []) (rest := []) (st1 := [.int r3]) hx hb hml hown hts hK X (k_X12_taken l G n hN q5) o0 hN lc_X12_taken lv_X12_135 (ci := 12) rfl rfl (by decide) rfl hl.1 (Nat.le_of_ble_eq_true rfl) dX12_guard_6 rfl (fun H locs X => ?_)
  refine lv_istore_n (lv' := [(1, .int r3), (0, .ref (bs G + x0))]) hx hb dX12_guard_9 rfl hl (by decide) rfl (fun ls hl => ?_)
  refine lv_bipush (v := (-4 : Int32)) hx hb dX12_guard_10 (by decide) ?_
  refine lv_istore_n (lv' := [(2, .int (-4 : Int32)), (1, .int r3), (0, .ref (bs G + x0))]) hx hb dX12_guard_12 rfl hl (by decide) rfl (fun ls hl => ?_)
  refine lv_bipush (v := (99 : Int32)) hx hb dX12_guard_13 (by decide) ?_
  refine lv_istore_n (lv' := [(3, .int (99 : Int32)), (2, .int (-4 : Int32)), (1, .int r3), (0, .ref (bs G + x0))]) hx hb dX12_guard_15 rfl hl (by decide) rfl (fun ls hl => ?_)
  refine lv_iconst (v := (1 : Int32)) hx hb dX12_guard_16 (by decide) ?_
  refine lv_istore (lv' := [(4, .int (1 : Int32)), (3, .int (99 : Int32)), (2, .int (-4 : Int32)), (1, .int r3), (0, .ref (bs G + x0))]) hx hb dX12_guard_17 hl (by decide) rfl (fun ls hl => ?_)
  exact j_X12_guard_19 C0 hN FU X (lv_sub hl [4, 3, 2, 1, 0] rfl) o0 hf
end
theorem dX12_value_0 : decode bX12_value 0 = .ok (.aload_n 0, 1) := by decide +kernel
theorem dX12_value_1 : decode bX12_value 1 = .ok (.iconst 0, 1) := by decide +kernel
theorem dX12_value_2 : decode bX12_value 2 = .ok (.putfield 1, 3) := by decide +kernel
theorem dX12_value_5 : decode bX12_value 5 = .ok (.aload_n 0, 1) := by decide +kernel
theorem dX12_value_6 : decode bX12_value 6 = .ok (.iload_n 1, 1) := by decide +kernel
theorem dX12_value_7 : decode bX12_value 7 = .ok (.invokevirtual 125, 3) := by decide +kernel
theorem dX12_value_10 : decode bX12_value 10 = .ok (.ifCond .eq 5, 3) := by decide +kernel
theorem dX12_value_13 : decode bX12_value 13 = .ok (.iconst (-1), 1) := by decide +kernel
theorem dX12_value_14 : decode bX12_value 14 = .ok (.ireturn, 1) := by decide +kernel
theorem dX12_value_15 : decode bX12_value 15 = .ok (.aload_n 0, 1) := by decide +kernel
theorem dX12_value_16 : decode bX12_value 16 = .ok (.invokevirtual 135, 3) := by decide +kernel
theorem dX12_value_19 : decode bX12_value 19 = .ok (.istore_n 2, 1) := by decide +kernel
theorem dX12_value_20 : decode bX12_value 20 = .ok (.iload_n 2, 1) := by decide +kernel
theorem dX12_value_21 : decode bX12_value 21 = .ok (.iload_n 1, 1) := by decide +kernel
theorem dX12_value_22 : decode bX12_value 22 = .ok (.iconst 1, 1) := by decide +kernel
theorem dX12_value_23 : decode bX12_value 23 = .ok (.isub, 1) := by decide +kernel
theorem dX12_value_24 : decode bX12_value 24 = .ok (.invokestatic 170, 3) := by decide +kernel
theorem dX12_value_27 : decode bX12_value 27 = .ok (.ifCond .eq 6, 3) := by decide +kernel
theorem dX12_value_30 : decode bX12_value 30 = .ok (.bipush (-2), 2) := by decide +kernel
theorem dX12_value_32 : decode bX12_value 32 = .ok (.ireturn, 1) := by decide +kernel
theorem dX12_value_33 : decode bX12_value 33 = .ok (.iconst 0, 1) := by decide +kernel
theorem dX12_value_34 : decode bX12_value 34 = .ok (.istore_n 3, 1) := by decide +kernel
theorem dX12_value_35 : decode bX12_value 35 = .ok (.iconst 0, 1) := by decide +kernel
theorem dX12_value_36 : decode bX12_value 36 = .ok (.istore 4, 2) := by decide +kernel
theorem dX12_value_38 : decode bX12_value 38 = .ok (.iload 4, 2) := by decide +kernel
theorem dX12_value_40 : decode bX12_value 40 = .ok (.aload_n 0, 1) := by decide +kernel
theorem dX12_value_41 : decode bX12_value 41 = .ok (.getfield 13, 3) := by decide +kernel
theorem dX12_value_44 : decode bX12_value 44 = .ok (.iconst 1, 1) := by decide +kernel
theorem dX12_value_45 : decode bX12_value 45 = .ok (.iaload, 1) := by decide +kernel
theorem dX12_value_46 : decode bX12_value 46 = .ok (.if_icmp .ge 55, 3) := by decide +kernel
theorem dX12_value_49 : decode bX12_value 49 = .ok (.iload_n 3, 1) := by decide +kernel
theorem dX12_value_50 : decode bX12_value 50 = .ok (.aload_n 0, 1) := by decide +kernel
theorem dX12_value_51 : decode bX12_value 51 = .ok (.iload 4, 2) := by decide +kernel
theorem dX12_value_53 : decode bX12_value 53 = .ok (.iload_n 2, 1) := by decide +kernel
theorem dX12_value_54 : decode bX12_value 54 = .ok (.aload_n 0, 1) := by decide +kernel
theorem dX12_value_55 : decode bX12_value 55 = .ok (.getfield 13, 3) := by decide +kernel
theorem dX12_value_58 : decode bX12_value 58 = .ok (.iconst 2, 1) := by decide +kernel
theorem dX12_value_59 : decode bX12_value 59 = .ok (.iaload, 1) := by decide +kernel
theorem dX12_value_60 : decode bX12_value 60 = .ok (.invokevirtual 211, 3) := by decide +kernel
theorem dX12_value_63 : decode bX12_value 63 = .ok (.ifCond .eq 29, 3) := by decide +kernel
theorem dX12_value_66 : decode bX12_value 66 = .ok (.aload_n 0, 1) := by decide +kernel
theorem dX12_value_67 : decode bX12_value 67 = .ok (.iload 4, 2) := by decide +kernel
theorem dX12_value_69 : decode bX12_value 69 = .ok (.iload_n 2, 1) := by decide +kernel
theorem dX12_value_70 : decode bX12_value 70 = .ok (.iconst 1, 1) := by decide +kernel
theorem dX12_value_71 : decode bX12_value 71 = .ok (.iload_n 1, 1) := by decide +kernel
theorem dX12_value_72 : decode bX12_value 72 = .ok (.iconst 1, 1) := by decide +kernel
theorem dX12_value_73 : decode bX12_value 73 = .ok (.isub, 1) := by decide +kernel
theorem dX12_value_74 : decode bX12_value 74 = .ok (.ishl, 1) := by decide +kernel
theorem dX12_value_75 : decode bX12_value 75 = .ok (.ior, 1) := by decide +kernel
theorem dX12_value_76 : decode bX12_value 76 = .ok (.aload_n 0, 1) := by decide +kernel
theorem dX12_value_77 : decode bX12_value 77 = .ok (.getfield 13, 3) := by decide +kernel
theorem dX12_value_80 : decode bX12_value 80 = .ok (.iconst 2, 1) := by decide +kernel
theorem dX12_value_81 : decode bX12_value 81 = .ok (.iaload, 1) := by decide +kernel
theorem dX12_value_82 : decode bX12_value 82 = .ok (.invokevirtual 211, 3) := by decide +kernel
theorem dX12_value_85 : decode bX12_value 85 = .ok (.ifCond .ne 7, 3) := by decide +kernel
theorem dX12_value_88 : decode bX12_value 88 = .ok (.iconst 1, 1) := by decide +kernel
theorem dX12_value_89 : decode bX12_value 89 = .ok (.goto 4, 3) := by decide +kernel
theorem dX12_value_92 : decode bX12_value 92 = .ok (.iconst 0, 1) := by decide +kernel
theorem dX12_value_93 : decode bX12_value 93 = .ok (.iadd, 1) := by decide +kernel
theorem dX12_value_94 : decode bX12_value 94 = .ok (.istore_n 3, 1) := by decide +kernel
theorem dX12_value_95 : decode bX12_value 95 = .ok (.iinc 4 1, 3) := by decide +kernel
theorem dX12_value_98 : decode bX12_value 98 = .ok (.goto (-60), 3) := by decide +kernel
theorem dX12_value_101 : decode bX12_value 101 = .ok (.iload_n 3, 1) := by decide +kernel
theorem dX12_value_102 : decode bX12_value 102 = .ok (.ireturn, 1) := by decide +kernel
section
variable {p : Program} {l : Launch} {e : Env} {s : State} {m : MethodId} {args : Array Value} {below : List Frame} {meth : Method} {c : Code} {G : GG} {n : Nat} {h' : Hp} {rv : Int32}
set_option maxHeartbeats 4000000
set_option maxRecDepth 100000
theorem j_X12_value_38 (C0 : Cx p s m args meth c G bX12_value RX12 5 (some .int) "value") (hN : NT ≤ n) : ∀ (fu : Nat), ∀ {H : Heap} {locs : List Loc} {ls : Array Slot} {h : Hp} {x0 : Nat} {x1 : Int32} {x2 : Int32} {x3 : Int32} {x4 : Int32}, XW G n h s 0 H locs → lv_has ls 5 [(0, .ref (bs G + x0)), (1, .int x1), (2, .int x2), (3, .int x3), (4, .int x4)] → kd x0 = 12 → f_X12_value_38 fu h x0 x1 x2 x3 x4 = some (rv, h') → W p l e (rmC 6 0 0) s m args below meth c H locs 0 0 (MQ below (QP G n h' (some (.int rv))) args s 0 0 (Ab G)) (F0 m 38 ls []) := by
  obtain ⟨hx, hb, hr, hml, hown, hts, hK, hlocks, hnm⟩ := id C0
  intro fu
  induction fu with
  | zero => intro H locs ls h x0 x1 x2 x3 x4 X hl o0 hf; cases hf
  | succ fu ih =>
    intro H locs ls h x0 x1 x2 x3 x4 X hl o0 hf
    rw [f_X12_value_38] at hf
    refine lv_iload hx hb dX12_value_38 (lv_at hl 4 rfl) ?_
    refine lv_aload_n hx hb dX12_value_40 rfl (lv_at hl 0 rfl) ?_
    obtain ⟨g1, hf⟩ := gd_e hf
    refine g_R hx hb hts hown hK X o0 hN g1 fl_X12_13 (by decide) rfl (by decide) dX12_value_41 ?_
    refine lv_iconst (v := (1 : Int32)) hx hb dX12_value_44 (by decide) ?_
    obtain ⟨g2, hf⟩ := gd_e hf
    refine g_ia hx hb hK X g1 hN g2 (by decide) dX12_value_45 ?_
    refine lv_icmp_ge (tgt := 101) hx hb dX12_value_46 (by decide) (fun c46 => ?_) (fun c46 => ?_)
    · have hf := ite_t hf c46
      refine lv_iload_n hx hb dX12_value_101 rfl (lv_at hl 3 rfl) ?_
      exact r_I hx hb hr hlocks X hf dX12_value_102
    · have hf := ite_f hf c46
      refine lv_iload_n hx hb dX12_value_49 rfl (lv_at hl 3 rfl) ?_
      refine lv_aload_n hx hb dX12_value_50 rfl (lv_at hl 0 rfl) ?_
      refine lv_iload hx hb dX12_value_51 (lv_at hl 4 rfl) ?_
      refine lv_iload_n hx hb dX12_value_53 rfl (lv_at hl 2 rfl) ?_
      refine lv_aload_n hx hb dX12_value_54 rfl (lv_at hl 0 rfl) ?_
      obtain ⟨g3, hf⟩ := gd_e hf
      refine g_R hx hb hts hown hK X o0 hN g3 fl_X12_13 (by decide) rfl (by decide) dX12_value_55 ?_
      refine lv_iconst (v := (2 : Int32)) hx hb dX12_value_58 (by decide) ?_
      obtain ⟨g4, hf⟩ := gd_e hf
      refine g_ia hx hb hK X g3 hN g4 (by decide) dX12_value_59 ?_
      obtain ⟨r5, h6, q7, hf⟩ := bd_e hf
      refine c_V0 (As := [.int x4, .int x2, .int (h.1 (h.2 x0 1) (2 : Int32).toNatClampNeg)]) (rest := [.int x3]) (st1 := [.int r5, .int x3]) hx hb hml hown hts hK X (k_X12_hasBest l G n hN q7) o0 hN lc_X12_hasBest lv_X12_211 (ci := 12) rfl rfl (by decide) rfl hl.1 (Nat.le_of_ble_eq_true rfl) dX12_value_60 rfl (fun H locs X => ?_)
      refine lv_if_eq (tgt := 92) hx hb dX12_value_63 (by decide) (fun c63 => ?_) (fun c63 => ?_)
      · have hf := ite_t hf c63
        refine lv_iconst (v := (0 : Int32)) hx hb dX12_value_92 (by decide) ?_
        refine lv_iadd hx hb dX12_value_93 ?_
        refine lv_istore_n (lv' := [(3, .int (x3 + (0 : Int32))), (0, .ref (bs G + x0)), (1, .int x1), (2, .int x2), (4, .int x4)]) hx hb dX12_value_94 rfl hl (by decide) rfl (fun ls hl => ?_)
        refine lv_iinc (v := (x4 + (1 : Int32))) (lv' := [(4, .int (x4 + (1 : Int32))), (3, .int (x3 + (0 : Int32))), (0, .ref (bs G + x0)), (1, .int x1), (2, .int x2)]) hx hb dX12_value_95 hl (k := 4) rfl rfl (by decide) rfl (fun ls hl => ?_)
        refine lv_goto (tgt := 38) hx hb dX12_value_98 (by decide) ?_
        exact ih X (lv_sub hl [2, 3, 4, 1, 0] rfl) o0 hf
      · have hf := ite_f hf c63
        refine lv_aload_n hx hb dX12_value_66 rfl (lv_at hl 0 rfl) ?_
        refine lv_iload hx hb dX12_value_67 (lv_at hl 4 rfl) ?_
        refine lv_iload_n hx hb dX12_value_69 rfl (lv_at hl 2 rfl) ?_
        refine lv_iconst (v := (1 : Int32)) hx hb dX12_value_70 (by decide) ?_
        refine lv_iload_n hx hb dX12_value_71 rfl (lv_at hl 1 rfl) ?_
        refine lv_iconst (v := (1 : Int32)) hx hb dX12_value_72 (by decide) ?_
        refine lv_isub hx hb dX12_value_73 ?_
        refine lv_ishl hx hb dX12_value_74 ?_
        refine lv_ior hx hb dX12_value_75 ?_
        refine lv_aload_n hx hb dX12_value_76 rfl (lv_at hl 0 rfl) ?_
        obtain ⟨g8, hf⟩ := gd_e hf
        refine g_R hx hb hts hown hK X o0 hN g8 fl_X12_13 (by decide) rfl (by decide) dX12_value_77 ?_
        refine lv_iconst (v := (2 : Int32)) hx hb dX12_value_80 (by decide) ?_
        obtain ⟨g9, hf⟩ := gd_e hf
        refine g_ia hx hb hK X g8 hN g9 (by decide) dX12_value_81 ?_
        obtain ⟨r10, h11, q12, hf⟩ := bd_e hf
        refine c_V0 (As := [.int x4, .int (x2 ||| ((1 : Int32) <<< ((x1 - (1 : Int32)) &&& 31))), .int (h6.1 (h6.2 x0 1) (2 : Int32).toNatClampNeg)]) (rest := [.int x3]) (st1 := [.int r10, .int x3]) hx hb hml hown hts hK X (k_X12_hasBest l G n hN q12) o0 hN lc_X12_hasBest lv_X12_211 (ci := 12) rfl rfl (by decide) rfl hl.1 (Nat.le_of_ble_eq_true rfl) dX12_value_82 rfl (fun H locs X => ?_)
        refine lv_if_ne (tgt := 92) hx hb dX12_value_85 (by decide) (fun c85 => ?_) (fun c85 => ?_)
        · have hf := ite_f hf c85
          refine lv_iconst (v := (0 : Int32)) hx hb dX12_value_92 (by decide) ?_
          refine lv_iadd hx hb dX12_value_93 ?_
          refine lv_istore_n (lv' := [(3, .int (x3 + (0 : Int32))), (0, .ref (bs G + x0)), (1, .int x1), (2, .int x2), (4, .int x4)]) hx hb dX12_value_94 rfl hl (by decide) rfl (fun ls hl => ?_)
          refine lv_iinc (v := (x4 + (1 : Int32))) (lv' := [(4, .int (x4 + (1 : Int32))), (3, .int (x3 + (0 : Int32))), (0, .ref (bs G + x0)), (1, .int x1), (2, .int x2)]) hx hb dX12_value_95 hl (k := 4) rfl rfl (by decide) rfl (fun ls hl => ?_)
          refine lv_goto (tgt := 38) hx hb dX12_value_98 (by decide) ?_
          exact ih X (lv_sub hl [2, 3, 4, 1, 0] rfl) o0 hf
        · have hf := ite_t hf c85
          refine lv_iconst (v := (1 : Int32)) hx hb dX12_value_88 (by decide) ?_
          refine lv_goto (tgt := 93) hx hb dX12_value_89 (by decide) ?_
          refine lv_iadd hx hb dX12_value_93 ?_
          refine lv_istore_n (lv' := [(3, .int (x3 + (1 : Int32))), (0, .ref (bs G + x0)), (1, .int x1), (2, .int x2), (4, .int x4)]) hx hb dX12_value_94 rfl hl (by decide) rfl (fun ls hl => ?_)
          refine lv_iinc (v := (x4 + (1 : Int32))) (lv' := [(4, .int (x4 + (1 : Int32))), (3, .int (x3 + (1 : Int32))), (0, .ref (bs G + x0)), (1, .int x1), (2, .int x2)]) hx hb dX12_value_95 hl (k := 4) rfl rfl (by decide) rfl (fun ls hl => ?_)
          refine lv_goto (tgt := 38) hx hb dX12_value_98 (by decide) ?_
          exact ih X (lv_sub hl [2, 3, 4, 1, 0] rfl) o0 hf
theorem k_X12_value (l : Launch) (G : GG) (n : Nat) (hN : NT ≤ n) {h h' : Hp} {x0 : Nat} {x1 : Int32} {rv : Int32} (hf : f_X12_value h x0 x1 = some (rv, h')) : CT l G n n yX12_value (.code yX12_value bX12_value 5 (some .int)) 6 0 0 [.ref (bs G + x0), .int x1] h h' (some (.int rv)) := by
  refine ct_of (maxL := 5) (ret := (some .int)) (bytes := bX12_value) (by decide) (Nat.le_of_ble_eq_true rfl) (fun p e s m below meth c C0 X ls hl => ?_)
  have hl : lv_has ls 5 [(0, .ref (bs G + x0)), (1, .int x1)] := hl
  obtain ⟨hx, hb, hr, hml, hown, hts, hK, hlocks, hnm⟩ := id C0
  unfold f_X12_value at hf
  obtain ⟨o0, hf⟩ := gd_e hf
  refine lv_aload_n hx hb dX12_value_0 rfl (lv_at hl 0 rfl) ?_
  refine lv_iconst (v := (0 : Int32)) hx hb dX12_value_1 (by decide) ?_
  refine g_PI hx hb hts hown hK X o0 hN fl_X12_1 ft_12_0 (by decide) rfl dX12_value_2 (fun H locs X => ?_)
  obtain ⟨h1, e2, hf⟩ := lt_e hf
  rw [← e2] at X
  refine lv_aload_n hx hb dX12_value_5 rfl (lv_at hl 0 rfl) ?_
  refine lv_iload_n hx hb dX12_value_6 rfl (lv_at hl 1 rfl) ?_
  obtain ⟨r3, h4, q5, hf⟩ := bd_e hf
  refine c_V0 (As := [.int x1]) (rest := []) (st1 := [.int r3]) hx hb hml hown hts hK X (k_X12_noNumber l G n hN q5) o0 hN lc_X12_noNumber lv_X12_125 (ci := 12) rfl rfl (by decide) rfl hl.1 (Nat.le_of_ble_eq_true rfl) dX12_value_7 rfl (fun H locs X => ?_)
  refine lv_if_eq (tgt := 15) hx hb dX12_value_10 (by decide) (fun c10 => ?_) (fun c10 => ?_)
  · have hf := ite_t hf c10
    refine lv_aload_n hx hb dX12_value_15 rfl (lv_at hl 0 rfl) ?_
    obtain ⟨r6, h7, q8, hf⟩ := bd_e hf
    refine c_V0 (As := []) (rest := []) (st1 := [.int r6]) hx hb hml hown hts hK X (k_X12_taken l G n hN q8) o0 hN lc_X12_taken lv_X12_135 (ci := 12) rfl rfl (by decide) rfl hl.1 (Nat.le_of_ble_eq_true rfl) dX12_value_16 rfl (fun H locs X => ?_)
    refine lv_istore_n (lv' := [(2, .int r6), (0, .ref (bs G + x0)), (1, .int x1)]) hx hb dX12_value_19 rfl hl (by decide) rfl (fun ls hl => ?_)
    refine lv_iload_n hx hb dX12_value_20 rfl (lv_at hl 0 rfl) ?_
    refine lv_iload_n hx hb dX12_value_21 rfl (lv_at hl 2 rfl) ?_
    refine lv_iconst (v := (1 : Int32)) hx hb dX12_value_22 (by decide) ?_
    refine lv_isub hx hb dX12_value_23 ?_
    obtain ⟨r9, h10, q11, hf⟩ := bd_e hf
    refine c_S0 (As := [.int r6, .int (x1 - (1 : Int32))]) (rest := []) (st1 := [.int r9]) hx hb hml hown hts hK X (k_X12_has l G n hN q11) lc_X12_has ls_X12_170 (by decide) rfl hl.1 (Nat.le_of_ble_eq_true rfl) dX12_value_24 rfl (fun H locs X => ?_)
    refine lv_if_eq (tgt := 33) hx hb dX12_value_27 (by decide) (fun c27 => ?_) (fun c27 => ?_)
    · have hf := ite_t hf c27
      refine lv_iconst (v := (0 : Int32)) hx hb dX12_value_33 (by decide) ?_
      refine lv_istore_n (lv' := [(3, .int (0 : Int32)), (2, .int r6), (0, .ref (bs G + x0)), (1, .int x1)]) hx hb dX12_value_34 rfl hl (by decide) rfl (fun ls hl => ?_)
      refine lv_iconst (v := (0 : Int32)) hx hb dX12_value_35 (by decide) ?_
      refine lv_istore (lv' := [(4, .int (0 : Int32)), (3, .int (0 : Int32)), (2, .int r6), (0, .ref (bs G + x0)), (1, .int x1)]) hx hb dX12_value_36 hl (by decide) rfl (fun ls hl => ?_)
      exact j_X12_value_38 C0 hN FU X (lv_sub hl [3, 4, 2, 1, 0] rfl) o0 hf
    · have hf := ite_f hf c27
      refine lv_bipush (v := (-2 : Int32)) hx hb dX12_value_30 (by decide) ?_
      exact r_I hx hb hr hlocks X hf dX12_value_32
  · have hf := ite_f hf c10
    refine lv_iconst (v := (-1 : Int32)) hx hb dX12_value_13 (by decide) ?_
    exact r_I hx hb hr hlocks X hf dX12_value_14
end
theorem dX12_changed_0 : decode bX12_changed 0 = .ok (.aload_n 0, 1) := by decide +kernel
theorem dX12_changed_1 : decode bX12_changed 1 = .ok (.iconst 0, 1) := by decide +kernel
theorem dX12_changed_2 : decode bX12_changed 2 = .ok (.putfield 1, 3) := by decide +kernel
theorem dX12_changed_5 : decode bX12_changed 5 = .ok (.iconst 0, 1) := by decide +kernel
theorem dX12_changed_6 : decode bX12_changed 6 = .ok (.istore_n 1, 1) := by decide +kernel
theorem dX12_changed_7 : decode bX12_changed 7 = .ok (.bipush 99, 2) := by decide +kernel
theorem dX12_changed_9 : decode bX12_changed 9 = .ok (.istore_n 2, 1) := by decide +kernel
theorem dX12_changed_10 : decode bX12_changed 10 = .ok (.iconst 0, 1) := by decide +kernel
theorem dX12_changed_11 : decode bX12_changed 11 = .ok (.istore_n 3, 1) := by decide +kernel
theorem dX12_changed_12 : decode bX12_changed 12 = .ok (.iload_n 3, 1) := by decide +kernel
theorem dX12_changed_13 : decode bX12_changed 13 = .ok (.iconst 3, 1) := by decide +kernel
theorem dX12_changed_14 : decode bX12_changed 14 = .ok (.if_icmp .gt 52, 3) := by decide +kernel
theorem dX12_changed_17 : decode bX12_changed 17 = .ok (.aload_n 0, 1) := by decide +kernel
theorem dX12_changed_18 : decode bX12_changed 18 = .ok (.aload_n 0, 1) := by decide +kernel
theorem dX12_changed_19 : decode bX12_changed 19 = .ok (.invokevirtual 215, 3) := by decide +kernel
theorem dX12_changed_22 : decode bX12_changed 22 = .ok (.aload_n 0, 1) := by decide +kernel
theorem dX12_changed_23 : decode bX12_changed 23 = .ok (.invokevirtual 135, 3) := by decide +kernel
theorem dX12_changed_26 : decode bX12_changed 26 = .ok (.iload_n 3, 1) := by decide +kernel
theorem dX12_changed_27 : decode bX12_changed 27 = .ok (.invokevirtual 218, 3) := by decide +kernel
theorem dX12_changed_30 : decode bX12_changed 30 = .ok (.invokestatic 204, 3) := by decide +kernel
theorem dX12_changed_33 : decode bX12_changed 33 = .ok (.istore 4, 2) := by decide +kernel
theorem dX12_changed_35 : decode bX12_changed 35 = .ok (.iload 4, 2) := by decide +kernel
theorem dX12_changed_37 : decode bX12_changed 37 = .ok (.iload_n 2, 1) := by decide +kernel
theorem dX12_changed_38 : decode bX12_changed 38 = .ok (.if_icmp .ge 7, 3) := by decide +kernel
theorem dX12_changed_41 : decode bX12_changed 41 = .ok (.iload_n 3, 1) := by decide +kernel
theorem dX12_changed_42 : decode bX12_changed 42 = .ok (.goto 4, 3) := by decide +kernel
theorem dX12_changed_45 : decode bX12_changed 45 = .ok (.iload_n 1, 1) := by decide +kernel
theorem dX12_changed_46 : decode bX12_changed 46 = .ok (.istore_n 1, 1) := by decide +kernel
theorem dX12_changed_47 : decode bX12_changed 47 = .ok (.iload 4, 2) := by decide +kernel
theorem dX12_changed_49 : decode bX12_changed 49 = .ok (.iload_n 2, 1) := by decide +kernel
theorem dX12_changed_50 : decode bX12_changed 50 = .ok (.if_icmp .ge 8, 3) := by decide +kernel
theorem dX12_changed_53 : decode bX12_changed 53 = .ok (.iload 4, 2) := by decide +kernel
theorem dX12_changed_55 : decode bX12_changed 55 = .ok (.goto 4, 3) := by decide +kernel
theorem dX12_changed_58 : decode bX12_changed 58 = .ok (.iload_n 2, 1) := by decide +kernel
theorem dX12_changed_59 : decode bX12_changed 59 = .ok (.istore_n 2, 1) := by decide +kernel
theorem dX12_changed_60 : decode bX12_changed 60 = .ok (.iinc 3 1, 3) := by decide +kernel
theorem dX12_changed_63 : decode bX12_changed 63 = .ok (.goto (-51), 3) := by decide +kernel
theorem dX12_changed_66 : decode bX12_changed 66 = .ok (.iload_n 1, 1) := by decide +kernel
theorem dX12_changed_67 : decode bX12_changed 67 = .ok (.ireturn, 1) := by decide +kernel
section
variable {p : Program} {l : Launch} {e : Env} {s : State} {m : MethodId} {args : Array Value} {below : List Frame} {meth : Method} {c : Code} {G : GG} {n : Nat} {h' : Hp} {rv : Int32}
set_option maxHeartbeats 4000000
set_option maxRecDepth 100000
theorem j_X12_changed_46 (C0 : Cx p s m args meth c G bX12_changed RX12 5 (some .int) "changed") (hN : NT ≤ n) {k12 : Hp → Nat → Int32 → Int32 → Int32 → Option (Int32 × Hp)} (ih12 : ∀ {H : Heap} {locs : List Loc} {ls : Array Slot} {h : Hp} {x0 : Nat} {x1 : Int32} {x2 : Int32} {x3 : Int32}, XW G n h s 0 H locs → lv_has ls 5 [(0, .ref (bs G + x0)), (1, .int x1), (2, .int x2), (3, .int x3)] → kd x0 = 12 → k12 h x0 x1 x2 x3 = some (rv, h') → W p l e (rmC 7 0 0) s m args below meth c H locs 0 0 (MQ below (QP G n h' (some (.int rv))) args s 0 0 (Ab G)) (F0 m 12 ls [])) {H : Heap} {locs : List Loc} {ls : Array Slot} {h : Hp} {x0 : Nat} {x2 : Int32} {x3 : Int32} {x4 : Int32} {t0 : Int32} (X : XW G n h s 0 H locs) (hl : lv_has ls 5 [(0, .ref (bs G + x0)), (2, .int x2), (3, .int x3), (4, .int x4)]) (o0 : kd x0 = 12) (hf : f_X12_changed_46 k12 h x0 x2 x3 x4 t0 = some (rv, h')) : W p l e (rmC 7 0 0) s m args below meth c H locs 0 0 (MQ below (QP G n h' (some (.int rv))) args s 0 0 (Ab G)) (F0 m 46 ls [.int t0]) := by
  obtain ⟨hx, hb, hr, hml, hown, hts, hK, hlocks, hnm⟩ := id C0
  unfold f_X12_changed_46 at hf
  refine lv_istore_n (lv' := [(1, .int t0), (0, .ref (bs G + x0)), (2, .int x2), (3, .int x3), (4, .int x4)]) hx hb dX12_changed_46 rfl hl (by decide) rfl (fun ls hl => ?_)
  refine lv_iload hx hb dX12_changed_47 (lv_at hl 4 rfl) ?_
  refine lv_iload_n hx hb dX12_changed_49 rfl (lv_at hl 2 rfl) ?_
  refine lv_icmp_ge (tgt := 58) hx hb dX12_changed_50 (by decide) (fun c50 => ?_) (fun c50 => ?_)
  · have hf := ite_t hf c50
    refine lv_iload_n hx hb dX12_changed_58 rfl (lv_at hl 2 rfl) ?_
    refine lv_istore_n (lv' := [(2, .int x2), (1, .int t0), (0, .ref (bs G + x0)), (3, .int x3), (4, .int x4)]) hx hb dX12_changed_59 rfl hl (by decide) rfl (fun ls hl => ?_)
    refine lv_iinc (v := (x3 + (1 : Int32))) (lv' := [(3, .int (x3 + (1 : Int32))), (2, .int x2), (1, .int t0), (0, .ref (bs G + x0)), (4, .int x4)]) hx hb dX12_changed_60 hl (k := 3) rfl rfl (by decide) rfl (fun ls hl => ?_)
    refine lv_goto (tgt := 12) hx hb dX12_changed_63 (by decide) ?_
    exact ih12 X (lv_sub hl [3, 2, 1, 0] rfl) o0 hf
  · have hf := ite_f hf c50
    refine lv_iload hx hb dX12_changed_53 (lv_at hl 4 rfl) ?_
    refine lv_goto (tgt := 59) hx hb dX12_changed_55 (by decide) ?_
    refine lv_istore_n (lv' := [(2, .int x4), (1, .int t0), (0, .ref (bs G + x0)), (3, .int x3), (4, .int x4)]) hx hb dX12_changed_59 rfl hl (by decide) rfl (fun ls hl => ?_)
    refine lv_iinc (v := (x3 + (1 : Int32))) (lv' := [(3, .int (x3 + (1 : Int32))), (2, .int x4), (1, .int t0), (0, .ref (bs G + x0)), (4, .int x4)]) hx hb dX12_changed_60 hl (k := 3) rfl rfl (by decide) rfl (fun ls hl => ?_)
    refine lv_goto (tgt := 12) hx hb dX12_changed_63 (by decide) ?_
    exact ih12 X (lv_sub hl [3, 2, 1, 0] rfl) o0 hf
theorem j_X12_changed_12 (C0 : Cx p s m args meth c G bX12_changed RX12 5 (some .int) "changed") (hN : NT ≤ n) : ∀ (fu : Nat), ∀ {H : Heap} {locs : List Loc} {ls : Array Slot} {h : Hp} {x0 : Nat} {x1 : Int32} {x2 : Int32} {x3 : Int32}, XW G n h s 0 H locs → lv_has ls 5 [(0, .ref (bs G + x0)), (1, .int x1), (2, .int x2), (3, .int x3)] → kd x0 = 12 → f_X12_changed_12 fu h x0 x1 x2 x3 = some (rv, h') → W p l e (rmC 7 0 0) s m args below meth c H locs 0 0 (MQ below (QP G n h' (some (.int rv))) args s 0 0 (Ab G)) (F0 m 12 ls []) := by
  obtain ⟨hx, hb, hr, hml, hown, hts, hK, hlocks, hnm⟩ := id C0
  intro fu
  induction fu with
  | zero => intro H locs ls h x0 x1 x2 x3 X hl o0 hf; cases hf
  | succ fu ih =>
    intro H locs ls h x0 x1 x2 x3 X hl o0 hf
    rw [f_X12_changed_12] at hf
    refine lv_iload_n hx hb dX12_changed_12 rfl (lv_at hl 3 rfl) ?_
    refine lv_iconst (v := (3 : Int32)) hx hb dX12_changed_13 (by decide) ?_
    refine lv_icmp_gt (tgt := 66) hx hb dX12_changed_14 (by decide) (fun c14 => ?_) (fun c14 => ?_)
    · have hf := ite_t hf c14
      refine lv_iload_n hx hb dX12_changed_66 rfl (lv_at hl 1 rfl) ?_
      exact r_I hx hb hr hlocks X hf dX12_changed_67
    · have hf := ite_f hf c14
      refine lv_aload_n hx hb dX12_changed_17 rfl (lv_at hl 0 rfl) ?_
      refine lv_aload_n hx hb dX12_changed_18 rfl (lv_at hl 0 rfl) ?_
      obtain ⟨r1, h2, q3, hf⟩ := bd_e hf
      refine c_V0 (As := []) (rest := [.ref (bs G + x0)]) (st1 := [.int r1, .ref (bs G + x0)]) hx hb hml hown hts hK X (k_X12_silent l G n hN q3) o0 hN lc_X12_silent lv_X12_215 (ci := 12) rfl rfl (by decide) rfl hl.1 (Nat.le_of_ble_eq_true rfl) dX12_changed_19 rfl (fun H locs X => ?_)
      refine lv_aload_n hx hb dX12_changed_22 rfl (lv_at hl 0 rfl) ?_
      obtain ⟨r4, h5, q6, hf⟩ := bd_e hf
      refine c_V0 (As := []) (rest := [.int r1, .ref (bs G + x0)]) (st1 := [.int r4, .int r1, .ref (bs G + x0)]) hx hb hml hown hts hK X (k_X12_taken l G n hN q6) o0 hN lc_X12_taken lv_X12_135 (ci := 12) rfl rfl (by decide) rfl hl.1 (Nat.le_of_ble_eq_true rfl) dX12_changed_23 rfl (fun H locs X => ?_)
      refine lv_iload_n hx hb dX12_changed_26 rfl (lv_at hl 3 rfl) ?_
      obtain ⟨r7, h8, q9, hf⟩ := bd_e hf
      refine c_V0 (As := [.int r1, .int r4, .int x3]) (rest := []) (st1 := [.int r7]) hx hb hml hown hts hK X (k_X12_stuckOf l G n hN q9) o0 hN lc_X12_stuckOf lv_X12_218 (ci := 12) rfl rfl (by decide) rfl hl.1 (Nat.le_of_ble_eq_true rfl) dX12_changed_27 rfl (fun H locs X => ?_)
      obtain ⟨r10, h11, q12, hf⟩ := bd_e hf
      refine c_S0 (As := [.int r7]) (rest := []) (st1 := [.int r10]) hx hb hml hown hts hK X (k_X12_bits l G n hN q12) lc_X12_bits ls_X12_204 (by decide) rfl hl.1 (Nat.le_of_ble_eq_true rfl) dX12_changed_30 rfl (fun H locs X => ?_)
      refine lv_istore (lv' := [(4, .int r10), (0, .ref (bs G + x0)), (1, .int x1), (2, .int x2), (3, .int x3)]) hx hb dX12_changed_33 hl (by decide) rfl (fun ls hl => ?_)
      refine lv_iload hx hb dX12_changed_35 (lv_at hl 0 rfl) ?_
      refine lv_iload_n hx hb dX12_changed_37 rfl (lv_at hl 3 rfl) ?_
      refine lv_icmp_ge (tgt := 45) hx hb dX12_changed_38 (by decide) (fun c38 => ?_) (fun c38 => ?_)
      · have hf := ite_t hf c38
        refine lv_iload_n hx hb dX12_changed_45 rfl (lv_at hl 2 rfl) ?_
        exact j_X12_changed_46 C0 hN @ih X (lv_sub hl [1, 3, 4, 0] rfl) o0 hf
      · have hf := ite_f hf c38
        refine lv_iload_n hx hb dX12_changed_41 rfl (lv_at hl 4 rfl) ?_
        refine lv_goto (tgt := 46) hx hb dX12_changed_42 (by decide) ?_
        exact j_X12_changed_46 C0 hN @ih X (lv_sub hl [1, 3, 4, 0] rfl) o0 hf
theorem k_X12_changed (l : Launch) (G : GG) (n : Nat) (hN : NT ≤ n) {h h' : Hp} {x0 : Nat} {rv : Int32} (hf : f_X12_changed h x0 = some (rv, h')) : CT l G n n yX12_changed (.code yX12_changed bX12_changed 5 (some .int)) 7 0 0 [.ref (bs G + x0)] h h' (some (.int rv)) := by
  refine ct_of (maxL := 5) (ret := (some .int)) (bytes := bX12_changed) (by decide) (Nat.le_of_ble_eq_true rfl) (fun p e s m below meth c C0 X ls hl => ?_)
  have hl : lv_has ls 5 [(0, .ref (bs G + x0))] := hl
  obtain ⟨hx, hb, hr, hml, hown, hts, hK, hlocks, hnm⟩ := id C0
  unfold f_X12_changed at hf
  obtain ⟨o0, hf⟩ := gd_e hf
  refine lv_aload_n hx hb dX12_changed_0 rfl (lv_at hl 0 rfl) ?_
  refine lv_iconst (v := (0 : Int32)) hx hb dX12_changed_1 (by decide) ?_
  refine g_PI hx hb hts hown hK X o0 hN fl_X12_1 ft_12_0 (by decide) rfl dX12_changed_2 (fun H locs X => ?_)
  obtain ⟨h1, e2, hf⟩ := lt_e hf
  rw [← e2] at X
  refine lv_iconst (v := (0 : Int32)) hx hb dX12_changed_5 (by decide) ?_
  refine lv_istore_n (lv' := [(1, .int (0 : Int32)), (0, .ref (bs G + x0))]) hx hb dX12_changed_6 rfl hl (by decide) rfl (fun ls hl => ?_)
  refine lv_bipush (v := (99 : Int32)) hx hb dX12_changed_7 (by decide) ?_
  refine lv_istore_n (lv' := [(2, .int (99 : Int32)), (1, .int (0 : Int32)), (0, .ref (bs G + x0))]) hx hb dX12_changed_9 rfl hl (by decide) rfl (fun ls hl => ?_)
  refine lv_iconst (v := (0 : Int32)) hx hb dX12_changed_10 (by decide) ?_
  refine lv_istore_n (lv' := [(3, .int (0 : Int32)), (2, .int (99 : Int32)), (1, .int (0 : Int32)), (0, .ref (bs G + x0))]) hx hb dX12_changed_11 rfl hl (by decide) rfl (fun ls hl => ?_)
  exact j_X12_changed_12 C0 hN FU X (lv_sub hl [3, 2, 1, 0] rfl) o0 hf
end
theorem dX12_waysOf_0 : decode bX12_waysOf 0 = .ok (.iload_n 3, 1) := by decide +kernel
theorem dX12_waysOf_1 : decode bX12_waysOf 1 = .ok (.ifCond .ne 34, 3) := by decide +kernel
theorem dX12_waysOf_4 : decode bX12_waysOf 4 = .ok (.iload_n 2, 1) := by decide +kernel
theorem dX12_waysOf_5 : decode bX12_waysOf 5 = .ok (.i2l, 1) := by decide +kernel
theorem dX12_waysOf_6 : decode bX12_waysOf 6 = .ok (.lconst 1, 1) := by decide +kernel
theorem dX12_waysOf_7 : decode bX12_waysOf 7 = .ok (.aload_n 0, 1) := by decide +kernel
theorem dX12_waysOf_8 : decode bX12_waysOf 8 = .ok (.getfield 13, 3) := by decide +kernel
theorem dX12_waysOf_11 : decode bX12_waysOf 11 = .ok (.iconst 0, 1) := by decide +kernel
theorem dX12_waysOf_12 : decode bX12_waysOf 12 = .ok (.iaload, 1) := by decide +kernel
theorem dX12_waysOf_13 : decode bX12_waysOf 13 = .ok (.i2l, 1) := by decide +kernel
theorem dX12_waysOf_14 : decode bX12_waysOf 14 = .ok (.invokestatic 75, 3) := by decide +kernel
theorem dX12_waysOf_17 : decode bX12_waysOf 17 = .ok (.ifCond .eq 16, 3) := by decide +kernel
theorem dX12_waysOf_20 : decode bX12_waysOf 20 = .ok (.iload_n 1, 1) := by decide +kernel
theorem dX12_waysOf_21 : decode bX12_waysOf 21 = .ok (.iconst 1, 1) := by decide +kernel
theorem dX12_waysOf_22 : decode bX12_waysOf 22 = .ok (.iload_n 2, 1) := by decide +kernel
theorem dX12_waysOf_23 : decode bX12_waysOf 23 = .ok (.iconst 1, 1) := by decide +kernel
theorem dX12_waysOf_24 : decode bX12_waysOf 24 = .ok (.isub, 1) := by decide +kernel
theorem dX12_waysOf_25 : decode bX12_waysOf 25 = .ok (.ishl, 1) := by decide +kernel
theorem dX12_waysOf_26 : decode bX12_waysOf 26 = .ok (.if_icmp .ne 7, 3) := by decide +kernel
theorem dX12_waysOf_29 : decode bX12_waysOf 29 = .ok (.iconst 1, 1) := by decide +kernel
theorem dX12_waysOf_30 : decode bX12_waysOf 30 = .ok (.goto 4, 3) := by decide +kernel
theorem dX12_waysOf_33 : decode bX12_waysOf 33 = .ok (.iconst 0, 1) := by decide +kernel
theorem dX12_waysOf_34 : decode bX12_waysOf 34 = .ok (.ireturn, 1) := by decide +kernel
theorem dX12_waysOf_35 : decode bX12_waysOf 35 = .ok (.iconst 0, 1) := by decide +kernel
theorem dX12_waysOf_36 : decode bX12_waysOf 36 = .ok (.istore 4, 2) := by decide +kernel
theorem dX12_waysOf_38 : decode bX12_waysOf 38 = .ok (.iload 4, 2) := by decide +kernel
theorem dX12_waysOf_40 : decode bX12_waysOf 40 = .ok (.sipush 601, 3) := by decide +kernel
theorem dX12_waysOf_43 : decode bX12_waysOf 43 = .ok (.if_icmp .ge 29, 3) := by decide +kernel
theorem dX12_waysOf_46 : decode bX12_waysOf 46 = .ok (.aload_n 0, 1) := by decide +kernel
theorem dX12_waysOf_47 : decode bX12_waysOf 47 = .ok (.getfield 53, 3) := by decide +kernel
theorem dX12_waysOf_50 : decode bX12_waysOf 50 = .ok (.iload 4, 2) := by decide +kernel
theorem dX12_waysOf_52 : decode bX12_waysOf 52 = .ok (.iload 4, 2) := by decide +kernel
theorem dX12_waysOf_54 : decode bX12_waysOf 54 = .ok (.sipush 300, 3) := by decide +kernel
theorem dX12_waysOf_57 : decode bX12_waysOf 57 = .ok (.if_icmp .ne 7, 3) := by decide +kernel
theorem dX12_waysOf_60 : decode bX12_waysOf 60 = .ok (.iconst 1, 1) := by decide +kernel
theorem dX12_waysOf_61 : decode bX12_waysOf 61 = .ok (.goto 4, 3) := by decide +kernel
theorem dX12_waysOf_64 : decode bX12_waysOf 64 = .ok (.iconst 0, 1) := by decide +kernel
theorem dX12_waysOf_65 : decode bX12_waysOf 65 = .ok (.iastore, 1) := by decide +kernel
theorem dX12_waysOf_66 : decode bX12_waysOf 66 = .ok (.iinc 4 1, 3) := by decide +kernel
theorem dX12_waysOf_69 : decode bX12_waysOf 69 = .ok (.goto (-31), 3) := by decide +kernel
theorem dX12_waysOf_72 : decode bX12_waysOf 72 = .ok (.iconst 1, 1) := by decide +kernel
theorem dX12_waysOf_73 : decode bX12_waysOf 73 = .ok (.istore 4, 2) := by decide +kernel
theorem dX12_waysOf_75 : decode bX12_waysOf 75 = .ok (.iload 4, 2) := by decide +kernel
theorem dX12_waysOf_77 : decode bX12_waysOf 77 = .ok (.aload_n 0, 1) := by decide +kernel
theorem dX12_waysOf_78 : decode bX12_waysOf 78 = .ok (.getfield 13, 3) := by decide +kernel
theorem dX12_waysOf_81 : decode bX12_waysOf 81 = .ok (.iconst 0, 1) := by decide +kernel
theorem dX12_waysOf_82 : decode bX12_waysOf 82 = .ok (.iaload, 1) := by decide +kernel
theorem dX12_waysOf_83 : decode bX12_waysOf 83 = .ok (.if_icmp .gt 200, 3) := by decide +kernel
theorem dX12_waysOf_86 : decode bX12_waysOf 86 = .ok (.iload_n 1, 1) := by decide +kernel
theorem dX12_waysOf_87 : decode bX12_waysOf 87 = .ok (.iload 4, 2) := by decide +kernel
theorem dX12_waysOf_89 : decode bX12_waysOf 89 = .ok (.iconst 1, 1) := by decide +kernel
theorem dX12_waysOf_90 : decode bX12_waysOf 90 = .ok (.isub, 1) := by decide +kernel
theorem dX12_waysOf_91 : decode bX12_waysOf 91 = .ok (.invokestatic 170, 3) := by decide +kernel
theorem dX12_waysOf_94 : decode bX12_waysOf 94 = .ok (.ifCond .eq 183, 3) := by decide +kernel
theorem dX12_waysOf_97 : decode bX12_waysOf 97 = .ok (.iconst 0, 1) := by decide +kernel
theorem dX12_waysOf_98 : decode bX12_waysOf 98 = .ok (.istore 5, 2) := by decide +kernel
theorem dX12_waysOf_100 : decode bX12_waysOf 100 = .ok (.iload 5, 2) := by decide +kernel
theorem dX12_waysOf_102 : decode bX12_waysOf 102 = .ok (.sipush 601, 3) := by decide +kernel
theorem dX12_waysOf_105 : decode bX12_waysOf 105 = .ok (.if_icmp .ge 141, 3) := by decide +kernel
theorem dX12_waysOf_108 : decode bX12_waysOf 108 = .ok (.iload 5, 2) := by decide +kernel
theorem dX12_waysOf_110 : decode bX12_waysOf 110 = .ok (.iload 4, 2) := by decide +kernel
theorem dX12_waysOf_112 : decode bX12_waysOf 112 = .ok (.isub, 1) := by decide +kernel
theorem dX12_waysOf_113 : decode bX12_waysOf 113 = .ok (.i2l, 1) := by decide +kernel
theorem dX12_waysOf_114 : decode bX12_waysOf 114 = .ok (.lconst 0, 1) := by decide +kernel
theorem dX12_waysOf_115 : decode bX12_waysOf 115 = .ok (.ldc2_w 234, 3) := by decide +kernel
theorem dX12_waysOf_118 : decode bX12_waysOf 118 = .ok (.invokestatic 75, 3) := by decide +kernel
theorem dX12_waysOf_121 : decode bX12_waysOf 121 = .ok (.ifCond .eq 16, 3) := by decide +kernel
theorem dX12_waysOf_124 : decode bX12_waysOf 124 = .ok (.aload_n 0, 1) := by decide +kernel
theorem dX12_waysOf_125 : decode bX12_waysOf 125 = .ok (.getfield 53, 3) := by decide +kernel
theorem dX12_waysOf_128 : decode bX12_waysOf 128 = .ok (.iload 5, 2) := by decide +kernel
theorem dX12_waysOf_130 : decode bX12_waysOf 130 = .ok (.iload 4, 2) := by decide +kernel
theorem dX12_waysOf_132 : decode bX12_waysOf 132 = .ok (.isub, 1) := by decide +kernel
theorem dX12_waysOf_133 : decode bX12_waysOf 133 = .ok (.iaload, 1) := by decide +kernel
theorem dX12_waysOf_134 : decode bX12_waysOf 134 = .ok (.goto 4, 3) := by decide +kernel
theorem dX12_waysOf_137 : decode bX12_waysOf 137 = .ok (.iconst 0, 1) := by decide +kernel
theorem dX12_waysOf_138 : decode bX12_waysOf 138 = .ok (.istore 6, 2) := by decide +kernel
theorem dX12_waysOf_140 : decode bX12_waysOf 140 = .ok (.iload 6, 2) := by decide +kernel
theorem dX12_waysOf_142 : decode bX12_waysOf 142 = .ok (.iload_n 3, 1) := by decide +kernel
theorem dX12_waysOf_143 : decode bX12_waysOf 143 = .ok (.iconst 2, 1) := by decide +kernel
theorem dX12_waysOf_144 : decode bX12_waysOf 144 = .ok (.if_icmp .lt 32, 3) := by decide +kernel
theorem dX12_waysOf_147 : decode bX12_waysOf 147 = .ok (.iload 5, 2) := by decide +kernel
theorem dX12_waysOf_149 : decode bX12_waysOf 149 = .ok (.iload 4, 2) := by decide +kernel
theorem dX12_waysOf_151 : decode bX12_waysOf 151 = .ok (.iadd, 1) := by decide +kernel
theorem dX12_waysOf_152 : decode bX12_waysOf 152 = .ok (.i2l, 1) := by decide +kernel
theorem dX12_waysOf_153 : decode bX12_waysOf 153 = .ok (.lconst 0, 1) := by decide +kernel
theorem dX12_waysOf_154 : decode bX12_waysOf 154 = .ok (.ldc2_w 234, 3) := by decide +kernel
theorem dX12_waysOf_157 : decode bX12_waysOf 157 = .ok (.invokestatic 75, 3) := by decide +kernel
theorem dX12_waysOf_160 : decode bX12_waysOf 160 = .ok (.ifCond .eq 16, 3) := by decide +kernel
theorem dX12_waysOf_163 : decode bX12_waysOf 163 = .ok (.aload_n 0, 1) := by decide +kernel
theorem dX12_waysOf_164 : decode bX12_waysOf 164 = .ok (.getfield 53, 3) := by decide +kernel
theorem dX12_waysOf_167 : decode bX12_waysOf 167 = .ok (.iload 5, 2) := by decide +kernel
theorem dX12_waysOf_169 : decode bX12_waysOf 169 = .ok (.iload 4, 2) := by decide +kernel
theorem dX12_waysOf_171 : decode bX12_waysOf 171 = .ok (.iadd, 1) := by decide +kernel
theorem dX12_waysOf_172 : decode bX12_waysOf 172 = .ok (.iaload, 1) := by decide +kernel
theorem dX12_waysOf_173 : decode bX12_waysOf 173 = .ok (.goto 4, 3) := by decide +kernel
theorem dX12_waysOf_176 : decode bX12_waysOf 176 = .ok (.iconst 0, 1) := by decide +kernel
theorem dX12_waysOf_177 : decode bX12_waysOf 177 = .ok (.iadd, 1) := by decide +kernel
theorem dX12_waysOf_178 : decode bX12_waysOf 178 = .ok (.istore 6, 2) := by decide +kernel
theorem dX12_waysOf_180 : decode bX12_waysOf 180 = .ok (.iload 6, 2) := by decide +kernel
theorem dX12_waysOf_182 : decode bX12_waysOf 182 = .ok (.iload_n 3, 1) := by decide +kernel
theorem dX12_waysOf_183 : decode bX12_waysOf 183 = .ok (.iconst 3, 1) := by decide +kernel
theorem dX12_waysOf_184 : decode bX12_waysOf 184 = .ok (.if_icmp .ne 43, 3) := by decide +kernel
theorem dX12_waysOf_187 : decode bX12_waysOf 187 = .ok (.iload 4, 2) := by decide +kernel
theorem dX12_waysOf_189 : decode bX12_waysOf 189 = .ok (.iconst 2, 1) := by decide +kernel
theorem dX12_waysOf_190 : decode bX12_waysOf 190 = .ok (.irem, 1) := by decide +kernel
theorem dX12_waysOf_191 : decode bX12_waysOf 191 = .ok (.ifCond .ne 36, 3) := by decide +kernel
theorem dX12_waysOf_194 : decode bX12_waysOf 194 = .ok (.iload 5, 2) := by decide +kernel
theorem dX12_waysOf_196 : decode bX12_waysOf 196 = .ok (.iload 4, 2) := by decide +kernel
theorem dX12_waysOf_198 : decode bX12_waysOf 198 = .ok (.iconst 2, 1) := by decide +kernel
theorem dX12_waysOf_199 : decode bX12_waysOf 199 = .ok (.idiv, 1) := by decide +kernel
theorem dX12_waysOf_200 : decode bX12_waysOf 200 = .ok (.isub, 1) := by decide +kernel
theorem dX12_waysOf_201 : decode bX12_waysOf 201 = .ok (.i2l, 1) := by decide +kernel
theorem dX12_waysOf_202 : decode bX12_waysOf 202 = .ok (.lconst 0, 1) := by decide +kernel
theorem dX12_waysOf_203 : decode bX12_waysOf 203 = .ok (.ldc2_w 234, 3) := by decide +kernel
theorem dX12_waysOf_206 : decode bX12_waysOf 206 = .ok (.invokestatic 75, 3) := by decide +kernel
theorem dX12_waysOf_209 : decode bX12_waysOf 209 = .ok (.ifCond .eq 18, 3) := by decide +kernel
theorem dX12_waysOf_212 : decode bX12_waysOf 212 = .ok (.aload_n 0, 1) := by decide +kernel
theorem dX12_waysOf_213 : decode bX12_waysOf 213 = .ok (.getfield 53, 3) := by decide +kernel
theorem dX12_waysOf_216 : decode bX12_waysOf 216 = .ok (.iload 5, 2) := by decide +kernel
theorem dX12_waysOf_218 : decode bX12_waysOf 218 = .ok (.iload 4, 2) := by decide +kernel
theorem dX12_waysOf_220 : decode bX12_waysOf 220 = .ok (.iconst 2, 1) := by decide +kernel
theorem dX12_waysOf_221 : decode bX12_waysOf 221 = .ok (.idiv, 1) := by decide +kernel
theorem dX12_waysOf_222 : decode bX12_waysOf 222 = .ok (.isub, 1) := by decide +kernel
theorem dX12_waysOf_223 : decode bX12_waysOf 223 = .ok (.iaload, 1) := by decide +kernel
theorem dX12_waysOf_224 : decode bX12_waysOf 224 = .ok (.goto 4, 3) := by decide +kernel
theorem dX12_waysOf_227 : decode bX12_waysOf 227 = .ok (.iconst 0, 1) := by decide +kernel
theorem dX12_waysOf_228 : decode bX12_waysOf 228 = .ok (.iadd, 1) := by decide +kernel
theorem dX12_waysOf_229 : decode bX12_waysOf 229 = .ok (.istore 6, 2) := by decide +kernel
theorem dX12_waysOf_231 : decode bX12_waysOf 231 = .ok (.aload_n 0, 1) := by decide +kernel
theorem dX12_waysOf_232 : decode bX12_waysOf 232 = .ok (.getfield 56, 3) := by decide +kernel
theorem dX12_waysOf_235 : decode bX12_waysOf 235 = .ok (.iload 5, 2) := by decide +kernel
theorem dX12_waysOf_237 : decode bX12_waysOf 237 = .ok (.iload 6, 2) := by decide +kernel
theorem dX12_waysOf_239 : decode bX12_waysOf 239 = .ok (.iastore, 1) := by decide +kernel
theorem dX12_waysOf_240 : decode bX12_waysOf 240 = .ok (.iinc 5 1, 3) := by decide +kernel
theorem dX12_waysOf_243 : decode bX12_waysOf 243 = .ok (.goto (-143), 3) := by decide +kernel
theorem dX12_waysOf_246 : decode bX12_waysOf 246 = .ok (.iconst 0, 1) := by decide +kernel
theorem dX12_waysOf_247 : decode bX12_waysOf 247 = .ok (.istore 5, 2) := by decide +kernel
theorem dX12_waysOf_249 : decode bX12_waysOf 249 = .ok (.iload 5, 2) := by decide +kernel
theorem dX12_waysOf_251 : decode bX12_waysOf 251 = .ok (.sipush 601, 3) := by decide +kernel
theorem dX12_waysOf_254 : decode bX12_waysOf 254 = .ok (.if_icmp .ge 23, 3) := by decide +kernel
theorem dX12_waysOf_257 : decode bX12_waysOf 257 = .ok (.aload_n 0, 1) := by decide +kernel
theorem dX12_waysOf_258 : decode bX12_waysOf 258 = .ok (.getfield 53, 3) := by decide +kernel
theorem dX12_waysOf_261 : decode bX12_waysOf 261 = .ok (.iload 5, 2) := by decide +kernel
theorem dX12_waysOf_263 : decode bX12_waysOf 263 = .ok (.aload_n 0, 1) := by decide +kernel
theorem dX12_waysOf_264 : decode bX12_waysOf 264 = .ok (.getfield 56, 3) := by decide +kernel
theorem dX12_waysOf_267 : decode bX12_waysOf 267 = .ok (.iload 5, 2) := by decide +kernel
theorem dX12_waysOf_269 : decode bX12_waysOf 269 = .ok (.iaload, 1) := by decide +kernel
theorem dX12_waysOf_270 : decode bX12_waysOf 270 = .ok (.iastore, 1) := by decide +kernel
theorem dX12_waysOf_271 : decode bX12_waysOf 271 = .ok (.iinc 5 1, 3) := by decide +kernel
theorem dX12_waysOf_274 : decode bX12_waysOf 274 = .ok (.goto (-25), 3) := by decide +kernel
theorem dX12_waysOf_277 : decode bX12_waysOf 277 = .ok (.iinc 4 1, 3) := by decide +kernel
theorem dX12_waysOf_280 : decode bX12_waysOf 280 = .ok (.goto (-205), 3) := by decide +kernel
theorem dX12_waysOf_283 : decode bX12_waysOf 283 = .ok (.aload_n 0, 1) := by decide +kernel
theorem dX12_waysOf_284 : decode bX12_waysOf 284 = .ok (.getfield 53, 3) := by decide +kernel
theorem dX12_waysOf_287 : decode bX12_waysOf 287 = .ok (.sipush 300, 3) := by decide +kernel
theorem dX12_waysOf_290 : decode bX12_waysOf 290 = .ok (.iload_n 2, 1) := by decide +kernel
theorem dX12_waysOf_291 : decode bX12_waysOf 291 = .ok (.iadd, 1) := by decide +kernel
theorem dX12_waysOf_292 : decode bX12_waysOf 292 = .ok (.iaload, 1) := by decide +kernel
theorem dX12_waysOf_293 : decode bX12_waysOf 293 = .ok (.ireturn, 1) := by decide +kernel
section
variable {p : Program} {l : Launch} {e : Env} {s : State} {m : MethodId} {args : Array Value} {below : List Frame} {meth : Method} {c : Code} {G : GG} {n : Nat} {h' : Hp} {rv : Int32}
set_option maxHeartbeats 4000000
set_option maxRecDepth 100000
theorem j_X12_waysOf_249 (C0 : Cx p s m args meth c G bX12_waysOf RX12 7 (some .int) "waysOf") (hN : NT ≤ n) {k75 : Hp → Nat → Int32 → Int32 → Int32 → Int32 → Option (Int32 × Hp)} (ih75 : ∀ {H : Heap} {locs : List Loc} {ls : Array Slot} {h : Hp} {x0 : Nat} {x1 : Int32} {x2 : Int32} {x3 : Int32} {x4 : Int32}, XW G n h s 0 H locs → lv_has ls 7 [(0, .ref (bs G + x0)), (1, .int x1), (2, .int x2), (3, .int x3), (4, .int x4)] → kd x0 = 12 → k75 h x0 x1 x2 x3 x4 = some (rv, h') → W p l e (rmC 1 0 0) s m args below meth c H locs 0 0 (MQ below (QP G n h' (some (.int rv))) args s 0 0 (Ab G)) (F0 m 75 ls [])) : ∀ (fu : Nat), ∀ {H : Heap} {locs : List Loc} {ls : Array Slot} {h : Hp} {x0 : Nat} {x1 : Int32} {x2 : Int32} {x3 : Int32} {x4 : Int32} {x5 : Int32}, XW G n h s 0 H locs → lv_has ls 7 [(0, .ref (bs G + x0)), (1, .int x1), (2, .int x2), (3, .int x3), (4, .int x4), (5, .int x5)] → kd x0 = 12 → f_X12_waysOf_249 k75 fu h x0 x1 x2 x3 x4 x5 = some (rv, h') → W p l e (rmC 1 0 0) s m args below meth c H locs 0 0 (MQ below (QP G n h' (some (.int rv))) args s 0 0 (Ab G)) (F0 m 249 ls []) := by
  obtain ⟨hx, hb, hr, hml, hown, hts, hK, hlocks, hnm⟩ := id C0
  intro fu
  induction fu with
  | zero => intro H locs ls h x0 x1 x2 x3 x4 x5 X hl o0 hf; cases hf
  | succ fu ih =>
    intro H locs ls h x0 x1 x2 x3 x4 x5 X hl o0 hf
    rw [f_X12_waysOf_249] at hf
    refine lv_iload hx hb dX12_waysOf_249 (lv_at hl 5 rfl) ?_
    refine lv_sipush (v := (601 : Int32)) hx hb dX12_waysOf_251 (by decide) ?_
    refine lv_icmp_ge (tgt := 277) hx hb dX12_waysOf_254 (by decide) (fun c254 => ?_) (fun c254 => ?_)
    · have hf := ite_t hf c254
      refine lv_iinc (v := (x4 + (1 : Int32))) (lv' := [(4, .int (x4 + (1 : Int32))), (0, .ref (bs G + x0)), (1, .int x1), (2, .int x2), (3, .int x3), (5, .int x5)]) hx hb dX12_waysOf_277 hl (k := 4) rfl rfl (by decide) rfl (fun ls hl => ?_)
      refine lv_goto (tgt := 75) hx hb dX12_waysOf_280 (by decide) ?_
      exact ih75 X (lv_sub hl [1, 2, 3, 4, 0] rfl) o0 hf
    · have hf := ite_f hf c254
      refine lv_aload_n hx hb dX12_waysOf_257 rfl (lv_at hl 0 rfl) ?_
      obtain ⟨g1, hf⟩ := gd_e hf
      refine g_R hx hb hts hown hK X o0 hN g1 fl_X12_53 (by decide) rfl (by decide) dX12_waysOf_258 ?_
      refine lv_iload hx hb dX12_waysOf_261 (lv_at hl 5 rfl) ?_
      refine lv_aload_n hx hb dX12_waysOf_263 rfl (lv_at hl 0 rfl) ?_
      obtain ⟨g2, hf⟩ := gd_e hf
      refine g_R hx hb hts hown hK X o0 hN g2 fl_X12_56 (by decide) rfl (by decide) dX12_waysOf_264 ?_
      refine lv_iload hx hb dX12_waysOf_267 (lv_at hl 5 rfl) ?_
      obtain ⟨g3, hf⟩ := gd_e hf
      refine g_ia hx hb hK X g2 hN g3 (by decide) dX12_waysOf_269 ?_
      obtain ⟨g4, hf⟩ := gd_e hf
      refine g_is hx hb hK X g1 hN g4 (by decide) dX12_waysOf_270 (fun H locs X => ?_)
      obtain ⟨h5, e6, hf⟩ := lt_e hf
      rw [← e6] at X
      refine lv_iinc (v := (x5 + (1 : Int32))) (lv' := [(5, .int (x5 + (1 : Int32))), (0, .ref (bs G + x0)), (1, .int x1), (2, .int x2), (3, .int x3), (4, .int x4)]) hx hb dX12_waysOf_271 hl (k := 5) rfl rfl (by decide) rfl (fun ls hl => ?_)
      refine lv_goto (tgt := 249) hx hb dX12_waysOf_274 (by decide) ?_
      exact ih X (lv_sub hl [1, 2, 3, 4, 5, 0] rfl) o0 hf
theorem j_X12_waysOf_228 (C0 : Cx p s m args meth c G bX12_waysOf RX12 7 (some .int) "waysOf") (hN : NT ≤ n) {k75 : Hp → Nat → Int32 → Int32 → Int32 → Int32 → Option (Int32 × Hp)} {k100 : Hp → Nat → Int32 → Int32 → Int32 → Int32 → Int32 → Option (Int32 × Hp)} (ih75 : ∀ {H : Heap} {locs : List Loc} {ls : Array Slot} {h : Hp} {x0 : Nat} {x1 : Int32} {x2 : Int32} {x3 : Int32} {x4 : Int32}, XW G n h s 0 H locs → lv_has ls 7 [(0, .ref (bs G + x0)), (1, .int x1), (2, .int x2), (3, .int x3), (4, .int x4)] → kd x0 = 12 → k75 h x0 x1 x2 x3 x4 = some (rv, h') → W p l e (rmC 1 0 0) s m args below meth c H locs 0 0 (MQ below (QP G n h' (some (.int rv))) args s 0 0 (Ab G)) (F0 m 75 ls [])) (ih100 : ∀ {H : Heap} {locs : List Loc} {ls : Array Slot} {h : Hp} {x0 : Nat} {x1 : Int32} {x2 : Int32} {x3 : Int32} {x4 : Int32} {x5 : Int32}, XW G n h s 0 H locs → lv_has ls 7 [(0, .ref (bs G + x0)), (1, .int x1), (2, .int x2), (3, .int x3), (4, .int x4), (5, .int x5)] → kd x0 = 12 → k100 h x0 x1 x2 x3 x4 x5 = some (rv, h') → W p l e (rmC 1 0 0) s m args below meth c H locs 0 0 (MQ below (QP G n h' (some (.int rv))) args s 0 0 (Ab G)) (F0 m 100 ls [])) {H : Heap} {locs : List Loc} {ls : Array Slot} {h : Hp} {x0 : Nat} {x1 : Int32} {x2 : Int32} {x3 : Int32} {x4 : Int32} {x5 : Int32} {t0 : Int32} {t1 : Int32} (X : XW G n h s 0 H locs) (hl : lv_has ls 7 [(0, .ref (bs G + x0)), (1, .int x1), (2, .int x2), (3, .int x3), (4, .int x4), (5, .int x5)]) (o0 : kd x0 = 12) (hf : f_X12_waysOf_228 k75 k100 h x0 x1 x2 x3 x4 x5 t0 t1 = some (rv, h')) : W p l e (rmC 1 0 0) s m args below meth c H locs 0 0 (MQ below (QP G n h' (some (.int rv))) args s 0 0 (Ab G)) (F0 m 228 ls [.int t1, .int t0]) := by
  obtain ⟨hx, hb, hr, hml, hown, hts, hK, hlocks, hnm⟩ := id C0
  unfold f_X12_waysOf_228 at hf
  refine lv_iadd hx hb dX12_waysOf_228 ?_
  refine lv_istore (lv' := [(6, .int (t0 + t1)), (0, .ref (bs G + x0)), (1, .int x1), (2, .int x2), (3, .int x3), (4, .int x4), (5, .int x5)]) hx hb dX12_waysOf_229 hl (by decide) rfl (fun ls hl => ?_)
  refine lv_aload_n hx hb dX12_waysOf_231 rfl (lv_at hl 1 rfl) ?_
  obtain ⟨g1, hf⟩ := gd_e hf
  refine g_R hx hb hts hown hK X o0 hN g1 fl_X12_56 (by decide) rfl (by decide) dX12_waysOf_232 ?_
  refine lv_iload hx hb dX12_waysOf_235 (lv_at hl 6 rfl) ?_
  refine lv_iload hx hb dX12_waysOf_237 (lv_at hl 0 rfl) ?_
  obtain ⟨g2, hf⟩ := gd_e hf
  refine g_is hx hb hK X g1 hN g2 (by decide) dX12_waysOf_239 (fun H locs X => ?_)
  obtain ⟨h3, e4, hf⟩ := lt_e hf
  rw [← e4] at X
  refine lv_iinc (v := (x5 + (1 : Int32))) (lv' := [(5, .int (x5 + (1 : Int32))), (6, .int (t0 + t1)), (0, .ref (bs G + x0)), (1, .int x1), (2, .int x2), (3, .int x3), (4, .int x4)]) hx hb dX12_waysOf_240 hl (k := 6) rfl rfl (by decide) rfl (fun ls hl => ?_)
  refine lv_goto (tgt := 100) hx hb dX12_waysOf_243 (by decide) ?_
  exact ih100 X (lv_sub hl [2, 3, 4, 5, 6, 0] rfl) o0 hf
theorem j_X12_waysOf_227 (C0 : Cx p s m args meth c G bX12_waysOf RX12 7 (some .int) "waysOf") (hN : NT ≤ n) {k75 : Hp → Nat → Int32 → Int32 → Int32 → Int32 → Option (Int32 × Hp)} {k100 : Hp → Nat → Int32 → Int32 → Int32 → Int32 → Int32 → Option (Int32 × Hp)} (ih75 : ∀ {H : Heap} {locs : List Loc} {ls : Array Slot} {h : Hp} {x0 : Nat} {x1 : Int32} {x2 : Int32} {x3 : Int32} {x4 : Int32}, XW G n h s 0 H locs → lv_has ls 7 [(0, .ref (bs G + x0)), (1, .int x1), (2, .int x2), (3, .int x3), (4, .int x4)] → kd x0 = 12 → k75 h x0 x1 x2 x3 x4 = some (rv, h') → W p l e (rmC 1 0 0) s m args below meth c H locs 0 0 (MQ below (QP G n h' (some (.int rv))) args s 0 0 (Ab G)) (F0 m 75 ls [])) (ih100 : ∀ {H : Heap} {locs : List Loc} {ls : Array Slot} {h : Hp} {x0 : Nat} {x1 : Int32} {x2 : Int32} {x3 : Int32} {x4 : Int32} {x5 : Int32}, XW G n h s 0 H locs → lv_has ls 7 [(0, .ref (bs G + x0)), (1, .int x1), (2, .int x2), (3, .int x3), (4, .int x4), (5, .int x5)] → kd x0 = 12 → k100 h x0 x1 x2 x3 x4 x5 = some (rv, h') → W p l e (rmC 1 0 0) s m args below meth c H locs 0 0 (MQ below (QP G n h' (some (.int rv))) args s 0 0 (Ab G)) (F0 m 100 ls [])) {H : Heap} {locs : List Loc} {ls : Array Slot} {h : Hp} {x0 : Nat} {x1 : Int32} {x2 : Int32} {x3 : Int32} {x4 : Int32} {x5 : Int32} {t0 : Int32} (X : XW G n h s 0 H locs) (hl : lv_has ls 7 [(0, .ref (bs G + x0)), (1, .int x1), (2, .int x2), (3, .int x3), (4, .int x4), (5, .int x5)]) (o0 : kd x0 = 12) (hf : f_X12_waysOf_227 k75 k100 h x0 x1 x2 x3 x4 x5 t0 = some (rv, h')) : W p l e (rmC 1 0 0) s m args below meth c H locs 0 0 (MQ below (QP G n h' (some (.int rv))) args s 0 0 (Ab G)) (F0 m 227 ls [.int t0]) := by
  obtain ⟨hx, hb, hr, hml, hown, hts, hK, hlocks, hnm⟩ := id C0
  unfold f_X12_waysOf_227 at hf
  refine lv_iconst (v := (0 : Int32)) hx hb dX12_waysOf_227 (by decide) ?_
  exact j_X12_waysOf_228 C0 hN @ih75 @ih100 X (lv_sub hl [0, 1, 2, 3, 4, 5] rfl) o0 hf
theorem j_X12_waysOf_177 (C0 : Cx p s m args meth c G bX12_waysOf RX12 7 (some .int) "waysOf") (hN : NT ≤ n) {k75 : Hp → Nat → Int32 → Int32 → Int32 → Int32 → Option (Int32 × Hp)} {k100 : Hp → Nat → Int32 → Int32 → Int32 → Int32 → Int32 → Option (Int32 × Hp)} (ih75 : ∀ {H : Heap} {locs : List Loc} {ls : Array Slot} {h : Hp} {x0 : Nat} {x1 : Int32} {x2 : Int32} {x3 : Int32} {x4 : Int32}, XW G n h s 0 H locs → lv_has ls 7 [(0, .ref (bs G + x0)), (1, .int x1), (2, .int x2), (3, .int x3), (4, .int x4)] → kd x0 = 12 → k75 h x0 x1 x2 x3 x4 = some (rv, h') → W p l e (rmC 1 0 0) s m args below meth c H locs 0 0 (MQ below (QP G n h' (some (.int rv))) args s 0 0 (Ab G)) (F0 m 75 ls [])) (ih100 : ∀ {H : Heap} {locs : List Loc} {ls : Array Slot} {h : Hp} {x0 : Nat} {x1 : Int32} {x2 : Int32} {x3 : Int32} {x4 : Int32} {x5 : Int32}, XW G n h s 0 H locs → lv_has ls 7 [(0, .ref (bs G + x0)), (1, .int x1), (2, .int x2), (3, .int x3), (4, .int x4), (5, .int x5)] → kd x0 = 12 → k100 h x0 x1 x2 x3 x4 x5 = some (rv, h') → W p l e (rmC 1 0 0) s m args below meth c H locs 0 0 (MQ below (QP G n h' (some (.int rv))) args s 0 0 (Ab G)) (F0 m 100 ls [])) {H : Heap} {locs : List Loc} {ls : Array Slot} {h : Hp} {x0 : Nat} {x1 : Int32} {x2 : Int32} {x3 : Int32} {x4 : Int32} {x5 : Int32} {t0 : Int32} {t1 : Int32} (X : XW G n h s 0 H locs) (hl : lv_has ls 7 [(0, .ref (bs G + x0)), (1, .int x1), (2, .int x2), (3, .int x3), (4, .int x4), (5, .int x5)]) (o0 : kd x0 = 12) (hf : f_X12_waysOf_177 k75 k100 h x0 x1 x2 x3 x4 x5 t0 t1 = some (rv, h')) : W p l e (rmC 1 0 0) s m args below meth c H locs 0 0 (MQ below (QP G n h' (some (.int rv))) args s 0 0 (Ab G)) (F0 m 177 ls [.int t1, .int t0]) := by
  obtain ⟨hx, hb, hr, hml, hown, hts, hK, hlocks, hnm⟩ := id C0
  unfold f_X12_waysOf_177 at hf
  refine lv_iadd hx hb dX12_waysOf_177 ?_
  refine lv_istore (lv' := [(6, .int (t0 + t1)), (0, .ref (bs G + x0)), (1, .int x1), (2, .int x2), (3, .int x3), (4, .int x4), (5, .int x5)]) hx hb dX12_waysOf_178 hl (by decide) rfl (fun ls hl => ?_)
  refine lv_iload hx hb dX12_waysOf_180 (lv_at hl 0 rfl) ?_
  refine lv_iload_n hx hb dX12_waysOf_182 rfl (lv_at hl 4 rfl) ?_
  refine lv_iconst (v := (3 : Int32)) hx hb dX12_waysOf_183 (by decide) ?_
  refine lv_icmp_ne (tgt := 227) hx hb dX12_waysOf_184 (by decide) (fun c184 => ?_) (fun c184 => ?_)
  · have hf := ite_f hf c184
    exact j_X12_waysOf_227 C0 hN @ih75 @ih100 X (lv_sub hl [1, 2, 3, 4, 5, 6] rfl) o0 hf
  · have hf := ite_t hf c184
    refine lv_iload hx hb dX12_waysOf_187 (lv_at hl 5 rfl) ?_
    refine lv_iconst (v := (2 : Int32)) hx hb dX12_waysOf_189 (by decide) ?_
    refine lv_irem hx hb dX12_waysOf_190 (by decide) ?_
    refine lv_if_ne (tgt := 227) hx hb dX12_waysOf_191 (by decide) (fun c191 => ?_) (fun c191 => ?_)
    · have hf := ite_f hf c191
      exact j_X12_waysOf_227 C0 hN @ih75 @ih100 X (lv_sub hl [1, 2, 3, 4, 5, 6] rfl) o0 hf
    · have hf := ite_t hf c191
      refine lv_iload hx hb dX12_waysOf_194 (lv_at hl 6 rfl) ?_
      refine lv_iload hx hb dX12_waysOf_196 (lv_at hl 5 rfl) ?_
      refine lv_iconst (v := (2 : Int32)) hx hb dX12_waysOf_198 (by decide) ?_
      refine lv_idiv hx hb dX12_waysOf_199 (by decide) ?_
      refine lv_isub hx hb dX12_waysOf_200 ?_
      refine lv_i2l hx hb dX12_waysOf_201 rfl ?_
      refine lv_lconst (v := 0) hx hb dX12_waysOf_202 (by decide) ?_
      refine lv_ldc2 hx hb hown (hts _ cn_X12_234) dX12_waysOf_203 ?_
      obtain ⟨r1, h2, q3, hf⟩ := bd_e hf
      refine c_S0 (As := [.long (x5 - (x4 / (2 : Int32))).toInt64, .long (0 : Int64), .long (600 : Int64)]) (rest := [.int (t0 + t1)]) (st1 := [.int r1, .int (t0 + t1)]) hx hb hml hown hts hK X (k_X12_in l G n hN q3) lc_X12_in ls_X12_75 (by decide) rfl hl.1 (Nat.le_of_ble_eq_true rfl) dX12_waysOf_206 rfl (fun H locs X => ?_)
      refine lv_if_eq (tgt := 227) hx hb dX12_waysOf_209 (by decide) (fun c209 => ?_) (fun c209 => ?_)
      · have hf := ite_t hf c209
        exact j_X12_waysOf_227 C0 hN @ih75 @ih100 X (lv_sub hl [1, 2, 3, 4, 5, 6] rfl) o0 hf
      · have hf := ite_f hf c209
        refine lv_aload_n hx hb dX12_waysOf_212 rfl (lv_at hl 1 rfl) ?_
        obtain ⟨g4, hf⟩ := gd_e hf
        refine g_R hx hb hts hown hK X o0 hN g4 fl_X12_53 (by decide) rfl (by decide) dX12_waysOf_213 ?_
        refine lv_iload hx hb dX12_waysOf_216 (lv_at hl 6 rfl) ?_
        refine lv_iload hx hb dX12_waysOf_218 (lv_at hl 5 rfl) ?_
        refine lv_iconst (v := (2 : Int32)) hx hb dX12_waysOf_220 (by decide) ?_
        refine lv_idiv hx hb dX12_waysOf_221 (by decide) ?_
        refine lv_isub hx hb dX12_waysOf_222 ?_
        obtain ⟨g5, hf⟩ := gd_e hf
        refine g_ia hx hb hK X g4 hN g5 (by decide) dX12_waysOf_223 ?_
        refine lv_goto (tgt := 228) hx hb dX12_waysOf_224 (by decide) ?_
        exact j_X12_waysOf_228 C0 hN @ih75 @ih100 X (lv_sub hl [1, 2, 3, 4, 5, 6] rfl) o0 hf
theorem j_X12_waysOf_176 (C0 : Cx p s m args meth c G bX12_waysOf RX12 7 (some .int) "waysOf") (hN : NT ≤ n) {k75 : Hp → Nat → Int32 → Int32 → Int32 → Int32 → Option (Int32 × Hp)} {k100 : Hp → Nat → Int32 → Int32 → Int32 → Int32 → Int32 → Option (Int32 × Hp)} (ih75 : ∀ {H : Heap} {locs : List Loc} {ls : Array Slot} {h : Hp} {x0 : Nat} {x1 : Int32} {x2 : Int32} {x3 : Int32} {x4 : Int32}, XW G n h s 0 H locs → lv_has ls 7 [(0, .ref (bs G + x0)), (1, .int x1), (2, .int x2), (3, .int x3), (4, .int x4)] → kd x0 = 12 → k75 h x0 x1 x2 x3 x4 = some (rv, h') → W p l e (rmC 1 0 0) s m args below meth c H locs 0 0 (MQ below (QP G n h' (some (.int rv))) args s 0 0 (Ab G)) (F0 m 75 ls [])) (ih100 : ∀ {H : Heap} {locs : List Loc} {ls : Array Slot} {h : Hp} {x0 : Nat} {x1 : Int32} {x2 : Int32} {x3 : Int32} {x4 : Int32} {x5 : Int32}, XW G n h s 0 H locs → lv_has ls 7 [(0, .ref (bs G + x0)), (1, .int x1), (2, .int x2), (3, .int x3), (4, .int x4), (5, .int x5)] → kd x0 = 12 → k100 h x0 x1 x2 x3 x4 x5 = some (rv, h') → W p l e (rmC 1 0 0) s m args below meth c H locs 0 0 (MQ below (QP G n h' (some (.int rv))) args s 0 0 (Ab G)) (F0 m 100 ls [])) {H : Heap} {locs : List Loc} {ls : Array Slot} {h : Hp} {x0 : Nat} {x1 : Int32} {x2 : Int32} {x3 : Int32} {x4 : Int32} {x5 : Int32} {t0 : Int32} (X : XW G n h s 0 H locs) (hl : lv_has ls 7 [(0, .ref (bs G + x0)), (1, .int x1), (2, .int x2), (3, .int x3), (4, .int x4), (5, .int x5)]) (o0 : kd x0 = 12) (hf : f_X12_waysOf_176 k75 k100 h x0 x1 x2 x3 x4 x5 t0 = some (rv, h')) : W p l e (rmC 1 0 0) s m args below meth c H locs 0 0 (MQ below (QP G n h' (some (.int rv))) args s 0 0 (Ab G)) (F0 m 176 ls [.int t0]) := by
  obtain ⟨hx, hb, hr, hml, hown, hts, hK, hlocks, hnm⟩ := id C0
  unfold f_X12_waysOf_176 at hf
  refine lv_iconst (v := (0 : Int32)) hx hb dX12_waysOf_176 (by decide) ?_
  exact j_X12_waysOf_177 C0 hN @ih75 @ih100 X (lv_sub hl [0, 1, 2, 3, 4, 5] rfl) o0 hf
theorem j_X12_waysOf_138 (C0 : Cx p s m args meth c G bX12_waysOf RX12 7 (some .int) "waysOf") (hN : NT ≤ n) {k75 : Hp → Nat → Int32 → Int32 → Int32 → Int32 → Option (Int32 × Hp)} {k100 : Hp → Nat → Int32 → Int32 → Int32 → Int32 → Int32 → Option (Int32 × Hp)} (ih75 : ∀ {H : Heap} {locs : List Loc} {ls : Array Slot} {h : Hp} {x0 : Nat} {x1 : Int32} {x2 : Int32} {x3 : Int32} {x4 : Int32}, XW G n h s 0 H locs → lv_has ls 7 [(0, .ref (bs G + x0)), (1, .int x1), (2, .int x2), (3, .int x3), (4, .int x4)] → kd x0 = 12 → k75 h x0 x1 x2 x3 x4 = some (rv, h') → W p l e (rmC 1 0 0) s m args below meth c H locs 0 0 (MQ below (QP G n h' (some (.int rv))) args s 0 0 (Ab G)) (F0 m 75 ls [])) (ih100 : ∀ {H : Heap} {locs : List Loc} {ls : Array Slot} {h : Hp} {x0 : Nat} {x1 : Int32} {x2 : Int32} {x3 : Int32} {x4 : Int32} {x5 : Int32}, XW G n h s 0 H locs → lv_has ls 7 [(0, .ref (bs G + x0)), (1, .int x1), (2, .int x2), (3, .int x3), (4, .int x4), (5, .int x5)] → kd x0 = 12 → k100 h x0 x1 x2 x3 x4 x5 = some (rv, h') → W p l e (rmC 1 0 0) s m args below meth c H locs 0 0 (MQ below (QP G n h' (some (.int rv))) args s 0 0 (Ab G)) (F0 m 100 ls [])) {H : Heap} {locs : List Loc} {ls : Array Slot} {h : Hp} {x0 : Nat} {x1 : Int32} {x2 : Int32} {x3 : Int32} {x4 : Int32} {x5 : Int32} {t0 : Int32} (X : XW G n h s 0 H locs) (hl : lv_has ls 7 [(0, .ref (bs G + x0)), (1, .int x1), (2, .int x2), (3, .int x3), (4, .int x4), (5, .int x5)]) (o0 : kd x0 = 12) (hf : f_X12_waysOf_138 k75 k100 h x0 x1 x2 x3 x4 x5 t0 = some (rv, h')) : W p l e (rmC 1 0 0) s m args below meth c H locs 0 0 (MQ below (QP G n h' (some (.int rv))) args s 0 0 (Ab G)) (F0 m 138 ls [.int t0]) := by
  obtain ⟨hx, hb, hr, hml, hown, hts, hK, hlocks, hnm⟩ := id C0
  unfold f_X12_waysOf_138 at hf
  refine lv_istore (lv' := [(6, .int t0), (0, .ref (bs G + x0)), (1, .int x1), (2, .int x2), (3, .int x3), (4, .int x4), (5, .int x5)]) hx hb dX12_waysOf_138 hl (by decide) rfl (fun ls hl => ?_)
  refine lv_iload hx hb dX12_waysOf_140 (lv_at hl 0 rfl) ?_
  refine lv_iload_n hx hb dX12_waysOf_142 rfl (lv_at hl 4 rfl) ?_
  refine lv_iconst (v := (2 : Int32)) hx hb dX12_waysOf_143 (by decide) ?_
  refine lv_icmp_lt (tgt := 176) hx hb dX12_waysOf_144 (by decide) (fun c144 => ?_) (fun c144 => ?_)
  · have hf := ite_t hf c144
    exact j_X12_waysOf_176 C0 hN @ih75 @ih100 X (lv_sub hl [1, 2, 3, 4, 5, 6] rfl) o0 hf
  · have hf := ite_f hf c144
    refine lv_iload hx hb dX12_waysOf_147 (lv_at hl 6 rfl) ?_
    refine lv_iload hx hb dX12_waysOf_149 (lv_at hl 5 rfl) ?_
    refine lv_iadd hx hb dX12_waysOf_151 ?_
    refine lv_i2l hx hb dX12_waysOf_152 rfl ?_
    refine lv_lconst (v := 0) hx hb dX12_waysOf_153 (by decide) ?_
    refine lv_ldc2 hx hb hown (hts _ cn_X12_234) dX12_waysOf_154 ?_
    obtain ⟨r1, h2, q3, hf⟩ := bd_e hf
    refine c_S0 (As := [.long (x5 + x4).toInt64, .long (0 : Int64), .long (600 : Int64)]) (rest := [.int t0]) (st1 := [.int r1, .int t0]) hx hb hml hown hts hK X (k_X12_in l G n hN q3) lc_X12_in ls_X12_75 (by decide) rfl hl.1 (Nat.le_of_ble_eq_true rfl) dX12_waysOf_157 rfl (fun H locs X => ?_)
    refine lv_if_eq (tgt := 176) hx hb dX12_waysOf_160 (by decide) (fun c160 => ?_) (fun c160 => ?_)
    · have hf := ite_t hf c160
      exact j_X12_waysOf_176 C0 hN @ih75 @ih100 X (lv_sub hl [1, 2, 3, 4, 5, 6] rfl) o0 hf
    · have hf := ite_f hf c160
      refine lv_aload_n hx hb dX12_waysOf_163 rfl (lv_at hl 1 rfl) ?_
      obtain ⟨g4, hf⟩ := gd_e hf
      refine g_R hx hb hts hown hK X o0 hN g4 fl_X12_53 (by decide) rfl (by decide) dX12_waysOf_164 ?_
      refine lv_iload hx hb dX12_waysOf_167 (lv_at hl 6 rfl) ?_
      refine lv_iload hx hb dX12_waysOf_169 (lv_at hl 5 rfl) ?_
      refine lv_iadd hx hb dX12_waysOf_171 ?_
      obtain ⟨g5, hf⟩ := gd_e hf
      refine g_ia hx hb hK X g4 hN g5 (by decide) dX12_waysOf_172 ?_
      refine lv_goto (tgt := 177) hx hb dX12_waysOf_173 (by decide) ?_
      exact j_X12_waysOf_177 C0 hN @ih75 @ih100 X (lv_sub hl [1, 2, 3, 4, 5, 6] rfl) o0 hf
theorem j_X12_waysOf_100 (C0 : Cx p s m args meth c G bX12_waysOf RX12 7 (some .int) "waysOf") (hN : NT ≤ n) {k75 : Hp → Nat → Int32 → Int32 → Int32 → Int32 → Option (Int32 × Hp)} (ih75 : ∀ {H : Heap} {locs : List Loc} {ls : Array Slot} {h : Hp} {x0 : Nat} {x1 : Int32} {x2 : Int32} {x3 : Int32} {x4 : Int32}, XW G n h s 0 H locs → lv_has ls 7 [(0, .ref (bs G + x0)), (1, .int x1), (2, .int x2), (3, .int x3), (4, .int x4)] → kd x0 = 12 → k75 h x0 x1 x2 x3 x4 = some (rv, h') → W p l e (rmC 1 0 0) s m args below meth c H locs 0 0 (MQ below (QP G n h' (some (.int rv))) args s 0 0 (Ab G)) (F0 m 75 ls [])) : ∀ (fu : Nat), ∀ {H : Heap} {locs : List Loc} {ls : Array Slot} {h : Hp} {x0 : Nat} {x1 : Int32} {x2 : Int32} {x3 : Int32} {x4 : Int32} {x5 : Int32}, XW G n h s 0 H locs → lv_has ls 7 [(0, .ref (bs G + x0)), (1, .int x1), (2, .int x2), (3, .int x3), (4, .int x4), (5, .int x5)] → kd x0 = 12 → f_X12_waysOf_100 k75 fu h x0 x1 x2 x3 x4 x5 = some (rv, h') → W p l e (rmC 1 0 0) s m args below meth c H locs 0 0 (MQ below (QP G n h' (some (.int rv))) args s 0 0 (Ab G)) (F0 m 100 ls []) := by
  obtain ⟨hx, hb, hr, hml, hown, hts, hK, hlocks, hnm⟩ := id C0
  intro fu
  induction fu with
  | zero => intro H locs ls h x0 x1 x2 x3 x4 x5 X hl o0 hf; cases hf
  | succ fu ih =>
    intro H locs ls h x0 x1 x2 x3 x4 x5 X hl o0 hf
    rw [f_X12_waysOf_100] at hf
    refine lv_iload hx hb dX12_waysOf_100 (lv_at hl 5 rfl) ?_
    refine lv_sipush (v := (601 : Int32)) hx hb dX12_waysOf_102 (by decide) ?_
    refine lv_icmp_ge (tgt := 246) hx hb dX12_waysOf_105 (by decide) (fun c105 => ?_) (fun c105 => ?_)
    · have hf := ite_t hf c105
      refine lv_iconst (v := (0 : Int32)) hx hb dX12_waysOf_246 (by decide) ?_
      refine lv_istore (lv' := [(5, .int (0 : Int32)), (0, .ref (bs G + x0)), (1, .int x1), (2, .int x2), (3, .int x3), (4, .int x4)]) hx hb dX12_waysOf_247 hl (by decide) rfl (fun ls hl => ?_)
      exact j_X12_waysOf_249 C0 hN @ih75 FU X (lv_sub hl [1, 2, 3, 4, 5, 0] rfl) o0 hf
    · have hf := ite_f hf c105
      refine lv_iload hx hb dX12_waysOf_108 (lv_at hl 5 rfl) ?_
      refine lv_iload hx hb dX12_waysOf_110 (lv_at hl 4 rfl) ?_
      refine lv_isub hx hb dX12_waysOf_112 ?_
      refine lv_i2l hx hb dX12_waysOf_113 rfl ?_
      refine lv_lconst (v := 0) hx hb dX12_waysOf_114 (by decide) ?_
      refine lv_ldc2 hx hb hown (hts _ cn_X12_234) dX12_waysOf_115 ?_
      obtain ⟨r1, h2, q3, hf⟩ := bd_e hf
      refine c_S0 (As := [.long (x5 - x4).toInt64, .long (0 : Int64), .long (600 : Int64)]) (rest := []) (st1 := [.int r1]) hx hb hml hown hts hK X (k_X12_in l G n hN q3) lc_X12_in ls_X12_75 (by decide) rfl hl.1 (Nat.le_of_ble_eq_true rfl) dX12_waysOf_118 rfl (fun H locs X => ?_)
      refine lv_if_eq (tgt := 137) hx hb dX12_waysOf_121 (by decide) (fun c121 => ?_) (fun c121 => ?_)
      · have hf := ite_t hf c121
        refine lv_iconst (v := (0 : Int32)) hx hb dX12_waysOf_137 (by decide) ?_
        exact j_X12_waysOf_138 C0 hN @ih75 @ih X (lv_sub hl [0, 1, 2, 3, 4, 5] rfl) o0 hf
      · have hf := ite_f hf c121
        refine lv_aload_n hx hb dX12_waysOf_124 rfl (lv_at hl 0 rfl) ?_
        obtain ⟨g4, hf⟩ := gd_e hf
        refine g_R hx hb hts hown hK X o0 hN g4 fl_X12_53 (by decide) rfl (by decide) dX12_waysOf_125 ?_
        refine lv_iload hx hb dX12_waysOf_128 (lv_at hl 5 rfl) ?_
        refine lv_iload hx hb dX12_waysOf_130 (lv_at hl 4 rfl) ?_
        refine lv_isub hx hb dX12_waysOf_132 ?_
        obtain ⟨g5, hf⟩ := gd_e hf
        refine g_ia hx hb hK X g4 hN g5 (by decide) dX12_waysOf_133 ?_
        refine lv_goto (tgt := 138) hx hb dX12_waysOf_134 (by decide) ?_
        exact j_X12_waysOf_138 C0 hN @ih75 @ih X (lv_sub hl [0, 1, 2, 3, 4, 5] rfl) o0 hf
theorem j_X12_waysOf_75 (C0 : Cx p s m args meth c G bX12_waysOf RX12 7 (some .int) "waysOf") (hN : NT ≤ n) : ∀ (fu : Nat), ∀ {H : Heap} {locs : List Loc} {ls : Array Slot} {h : Hp} {x0 : Nat} {x1 : Int32} {x2 : Int32} {x3 : Int32} {x4 : Int32}, XW G n h s 0 H locs → lv_has ls 7 [(0, .ref (bs G + x0)), (1, .int x1), (2, .int x2), (3, .int x3), (4, .int x4)] → kd x0 = 12 → f_X12_waysOf_75 fu h x0 x1 x2 x3 x4 = some (rv, h') → W p l e (rmC 1 0 0) s m args below meth c H locs 0 0 (MQ below (QP G n h' (some (.int rv))) args s 0 0 (Ab G)) (F0 m 75 ls []) := by
  obtain ⟨hx, hb, hr, hml, hown, hts, hK, hlocks, hnm⟩ := id C0
  intro fu
  induction fu with
  | zero => intro H locs ls h x0 x1 x2 x3 x4 X hl o0 hf; cases hf
  | succ fu ih =>
    intro H locs ls h x0 x1 x2 x3 x4 X hl o0 hf
    rw [f_X12_waysOf_75] at hf
    refine lv_iload hx hb dX12_waysOf_75 (lv_at hl 4 rfl) ?_
    refine lv_aload_n hx hb dX12_waysOf_77 rfl (lv_at hl 0 rfl) ?_
    obtain ⟨g1, hf⟩ := gd_e hf
    refine g_R hx hb hts hown hK X o0 hN g1 fl_X12_13 (by decide) rfl (by decide) dX12_waysOf_78 ?_
    refine lv_iconst (v := (0 : Int32)) hx hb dX12_waysOf_81 (by decide) ?_
    obtain ⟨g2, hf⟩ := gd_e hf
    refine g_ia hx hb hK X g1 hN g2 (by decide) dX12_waysOf_82 ?_
    refine lv_icmp_gt (tgt := 283) hx hb dX12_waysOf_83 (by decide) (fun c83 => ?_) (fun c83 => ?_)
    · have hf := ite_t hf c83
      refine lv_aload_n hx hb dX12_waysOf_283 rfl (lv_at hl 0 rfl) ?_
      obtain ⟨g3, hf⟩ := gd_e hf
      refine g_R hx hb hts hown hK X o0 hN g3 fl_X12_53 (by decide) rfl (by decide) dX12_waysOf_284 ?_
      refine lv_sipush (v := (300 : Int32)) hx hb dX12_waysOf_287 (by decide) ?_
      refine lv_iload_n hx hb dX12_waysOf_290 rfl (lv_at hl 2 rfl) ?_
      refine lv_iadd hx hb dX12_waysOf_291 ?_
      obtain ⟨g4, hf⟩ := gd_e hf
      refine g_ia hx hb hK X g3 hN g4 (by decide) dX12_waysOf_292 ?_
      exact r_I hx hb hr hlocks X hf dX12_waysOf_293
    · have hf := ite_f hf c83
      refine lv_iload_n hx hb dX12_waysOf_86 rfl (lv_at hl 1 rfl) ?_
      refine lv_iload hx hb dX12_waysOf_87 (lv_at hl 4 rfl) ?_
      refine lv_iconst (v := (1 : Int32)) hx hb dX12_waysOf_89 (by decide) ?_
      refine lv_isub hx hb dX12_waysOf_90 ?_
      obtain ⟨r5, h6, q7, hf⟩ := bd_e hf
      refine c_S0 (As := [.int x1, .int (x4 - (1 : Int32))]) (rest := []) (st1 := [.int r5]) hx hb hml hown hts hK X (k_X12_has l G n hN q7) lc_X12_has ls_X12_170 (by decide) rfl hl.1 (Nat.le_of_ble_eq_true rfl) dX12_waysOf_91 rfl (fun H locs X => ?_)
      refine lv_if_eq (tgt := 277) hx hb dX12_waysOf_94 (by decide) (fun c94 => ?_) (fun c94 => ?_)
      · have hf := ite_t hf c94
        refine lv_iinc (v := (x4 + (1 : Int32))) (lv' := [(4, .int (x4 + (1 : Int32))), (0, .ref (bs G + x0)), (1, .int x1), (2, .int x2), (3, .int x3)]) hx hb dX12_waysOf_277 hl (k := 4) rfl rfl (by decide) rfl (fun ls hl => ?_)
        refine lv_goto (tgt := 75) hx hb dX12_waysOf_280 (by decide) ?_
        exact ih X (lv_sub hl [1, 2, 3, 4, 0] rfl) o0 hf
      · have hf := ite_f hf c94
        refine lv_iconst (v := (0 : Int32)) hx hb dX12_waysOf_97 (by decide) ?_
        refine lv_istore (lv' := [(5, .int (0 : Int32)), (0, .ref (bs G + x0)), (1, .int x1), (2, .int x2), (3, .int x3), (4, .int x4)]) hx hb dX12_waysOf_98 hl (by decide) rfl (fun ls hl => ?_)
        exact j_X12_waysOf_100 C0 hN @ih FU X (lv_sub hl [1, 2, 3, 4, 5, 0] rfl) o0 hf
theorem j_X12_waysOf_65 (C0 : Cx p s m args meth c G bX12_waysOf RX12 7 (some .int) "waysOf") (hN : NT ≤ n) {k38 : Hp → Nat → Int32 → Int32 → Int32 → Int32 → Option (Int32 × Hp)} (ih38 : ∀ {H : Heap} {locs : List Loc} {ls : Array Slot} {h : Hp} {x0 : Nat} {x1 : Int32} {x2 : Int32} {x3 : Int32} {x4 : Int32}, XW G n h s 0 H locs → lv_has ls 7 [(0, .ref (bs G + x0)), (1, .int x1), (2, .int x2), (3, .int x3), (4, .int x4)] → kd x0 = 12 → k38 h x0 x1 x2 x3 x4 = some (rv, h') → W p l e (rmC 1 0 0) s m args below meth c H locs 0 0 (MQ below (QP G n h' (some (.int rv))) args s 0 0 (Ab G)) (F0 m 38 ls [])) {H : Heap} {locs : List Loc} {ls : Array Slot} {h : Hp} {x0 : Nat} {x1 : Int32} {x2 : Int32} {x3 : Int32} {x4 : Int32} {t0 : Nat} {t1 : Int32} {t2 : Int32} (X : XW G n h s 0 H locs) (hl : lv_has ls 7 [(0, .ref (bs G + x0)), (1, .int x1), (2, .int x2), (3, .int x3), (4, .int x4)]) (o0 : kd x0 = 12) (ot0 : kd t0 = 16) (hf : f_X12_waysOf_65 k38 h x0 x1 x2 x3 x4 t0 t1 t2 = some (rv, h')) : W p l e (rmC 1 0 0) s m args below meth c H locs 0 0 (MQ below (QP G n h' (some (.int rv))) args s 0 0 (Ab G)) (F0 m 65 ls [.int t2, .int t1, .ref (bs G + t0)]) := by
  obtain ⟨hx, hb, hr, hml, hown, hts, hK, hlocks, hnm⟩ := id C0
  unfold f_X12_waysOf_65 at hf
  obtain ⟨g1, hf⟩ := gd_e hf
  refine g_is hx hb hK X ot0 hN g1 (by decide) dX12_waysOf_65 (fun H locs X => ?_)
  obtain ⟨h2, e3, hf⟩ := lt_e hf
  rw [← e3] at X
  refine lv_iinc (v := (x4 + (1 : Int32))) (lv' := [(4, .int (x4 + (1 : Int32))), (0, .ref (bs G + x0)), (1, .int x1), (2, .int x2), (3, .int x3)]) hx hb dX12_waysOf_66 hl (k := 4) rfl rfl (by decide) rfl (fun ls hl => ?_)
  refine lv_goto (tgt := 38) hx hb dX12_waysOf_69 (by decide) ?_
  exact ih38 X (lv_sub hl [1, 2, 3, 4, 0] rfl) o0 hf
theorem j_X12_waysOf_38 (C0 : Cx p s m args meth c G bX12_waysOf RX12 7 (some .int) "waysOf") (hN : NT ≤ n) : ∀ (fu : Nat), ∀ {H : Heap} {locs : List Loc} {ls : Array Slot} {h : Hp} {x0 : Nat} {x1 : Int32} {x2 : Int32} {x3 : Int32} {x4 : Int32}, XW G n h s 0 H locs → lv_has ls 7 [(0, .ref (bs G + x0)), (1, .int x1), (2, .int x2), (3, .int x3), (4, .int x4)] → kd x0 = 12 → f_X12_waysOf_38 fu h x0 x1 x2 x3 x4 = some (rv, h') → W p l e (rmC 1 0 0) s m args below meth c H locs 0 0 (MQ below (QP G n h' (some (.int rv))) args s 0 0 (Ab G)) (F0 m 38 ls []) := by
  obtain ⟨hx, hb, hr, hml, hown, hts, hK, hlocks, hnm⟩ := id C0
  intro fu
  induction fu with
  | zero => intro H locs ls h x0 x1 x2 x3 x4 X hl o0 hf; cases hf
  | succ fu ih =>
    intro H locs ls h x0 x1 x2 x3 x4 X hl o0 hf
    rw [f_X12_waysOf_38] at hf
    refine lv_iload hx hb dX12_waysOf_38 (lv_at hl 4 rfl) ?_
    refine lv_sipush (v := (601 : Int32)) hx hb dX12_waysOf_40 (by decide) ?_
    refine lv_icmp_ge (tgt := 72) hx hb dX12_waysOf_43 (by decide) (fun c43 => ?_) (fun c43 => ?_)
    · have hf := ite_t hf c43
      refine lv_iconst (v := (1 : Int32)) hx hb dX12_waysOf_72 (by decide) ?_
      refine lv_istore (lv' := [(4, .int (1 : Int32)), (0, .ref (bs G + x0)), (1, .int x1), (2, .int x2), (3, .int x3)]) hx hb dX12_waysOf_73 hl (by decide) rfl (fun ls hl => ?_)
      exact j_X12_waysOf_75 C0 hN FU X (lv_sub hl [1, 2, 3, 4, 0] rfl) o0 hf
    · have hf := ite_f hf c43
      refine lv_aload_n hx hb dX12_waysOf_46 rfl (lv_at hl 0 rfl) ?_
      obtain ⟨g1, hf⟩ := gd_e hf
      refine g_R hx hb hts hown hK X o0 hN g1 fl_X12_53 (by decide) rfl (by decide) dX12_waysOf_47 ?_
      refine lv_iload hx hb dX12_waysOf_50 (lv_at hl 4 rfl) ?_
      refine lv_iload hx hb dX12_waysOf_52 (lv_at hl 4 rfl) ?_
      refine lv_sipush (v := (300 : Int32)) hx hb dX12_waysOf_54 (by decide) ?_
      refine lv_icmp_ne (tgt := 64) hx hb dX12_waysOf_57 (by decide) (fun c57 => ?_) (fun c57 => ?_)
      · have hf := ite_f hf c57
        refine lv_iconst (v := (0 : Int32)) hx hb dX12_waysOf_64 (by decide) ?_
        exact j_X12_waysOf_65 C0 hN @ih X (lv_sub hl [0, 1, 2, 3, 4] rfl) o0 g1 hf
      · have hf := ite_t hf c57
        refine lv_iconst (v := (1 : Int32)) hx hb dX12_waysOf_60 (by decide) ?_
        refine lv_goto (tgt := 65) hx hb dX12_waysOf_61 (by decide) ?_
        exact j_X12_waysOf_65 C0 hN @ih X (lv_sub hl [0, 1, 2, 3, 4] rfl) o0 g1 hf
theorem k_X12_waysOf (l : Launch) (G : GG) (n : Nat) (hN : NT ≤ n) {h h' : Hp} {x0 : Nat} {x1 : Int32} {x2 : Int32} {x3 : Int32} {rv : Int32} (hf : f_X12_waysOf h x0 x1 x2 x3 = some (rv, h')) : CT l G n n yX12_waysOf (.code yX12_waysOf bX12_waysOf 7 (some .int)) 1 0 0 [.ref (bs G + x0), .int x1, .int x2, .int x3] h h' (some (.int rv)) := by
  refine ct_of (maxL := 7) (ret := (some .int)) (bytes := bX12_waysOf) (by decide) (Nat.le_of_ble_eq_true rfl) (fun p e s m below meth c C0 X ls hl => ?_)
  have hl : lv_has ls 7 [(0, .ref (bs G + x0)), (1, .int x1), (2, .int x2), (3, .int x3)] := hl
  obtain ⟨hx, hb, hr, hml, hown, hts, hK, hlocks, hnm⟩ := id C0
  unfold f_X12_waysOf at hf
  obtain ⟨o0, hf⟩ := gd_e hf
  refine lv_iload_n hx hb dX12_waysOf_0 rfl (lv_at hl 3 rfl) ?_
  refine lv_if_ne (tgt := 35) hx hb dX12_waysOf_1 (by decide) (fun c1 => ?_) (fun c1 => ?_)
  · have hf := ite_f hf c1
    refine lv_iconst (v := (0 : Int32)) hx hb dX12_waysOf_35 (by decide) ?_
    refine lv_istore (lv' := [(4, .int (0 : Int32)), (0, .ref (bs G + x0)), (1, .int x1), (2, .int x2), (3, .int x3)]) hx hb dX12_waysOf_36 hl (by decide) rfl (fun ls hl => ?_)
    exact j_X12_waysOf_38 C0 hN FU X (lv_sub hl [1, 2, 3, 4, 0] rfl) o0 hf
  · have hf := ite_t hf c1
    refine lv_iload_n hx hb dX12_waysOf_4 rfl (lv_at hl 2 rfl) ?_
    refine lv_i2l hx hb dX12_waysOf_5 rfl ?_
    refine lv_lconst (v := 1) hx hb dX12_waysOf_6 (by decide) ?_
    refine lv_aload_n hx hb dX12_waysOf_7 rfl (lv_at hl 0 rfl) ?_
    obtain ⟨g1, hf⟩ := gd_e hf
    refine g_R hx hb hts hown hK X o0 hN g1 fl_X12_13 (by decide) rfl (by decide) dX12_waysOf_8 ?_
    refine lv_iconst (v := (0 : Int32)) hx hb dX12_waysOf_11 (by decide) ?_
    obtain ⟨g2, hf⟩ := gd_e hf
    refine g_ia hx hb hK X g1 hN g2 (by decide) dX12_waysOf_12 ?_
    refine lv_i2l hx hb dX12_waysOf_13 rfl ?_
    obtain ⟨r3, h4, q5, hf⟩ := bd_e hf
    refine c_S0 (As := [.long x2.toInt64, .long (1 : Int64), .long (h.1 (h.2 x0 1) (0 : Int32).toNatClampNeg).toInt64]) (rest := []) (st1 := [.int r3]) hx hb hml hown hts hK X (k_X12_in l G n hN q5) lc_X12_in ls_X12_75 (by decide) rfl hl.1 (Nat.le_of_ble_eq_true rfl) dX12_waysOf_14 rfl (fun H locs X => ?_)
    refine lv_if_eq (tgt := 33) hx hb dX12_waysOf_17 (by decide) (fun c17 => ?_) (fun c17 => ?_)
    · have hf := ite_t hf c17
      refine lv_iconst (v := (0 : Int32)) hx hb dX12_waysOf_33 (by decide) ?_
      exact r_I hx hb hr hlocks X hf dX12_waysOf_34
    · have hf := ite_f hf c17
      refine lv_iload_n hx hb dX12_waysOf_20 rfl (lv_at hl 1 rfl) ?_
      refine lv_iconst (v := (1 : Int32)) hx hb dX12_waysOf_21 (by decide) ?_
      refine lv_iload_n hx hb dX12_waysOf_22 rfl (lv_at hl 2 rfl) ?_
      refine lv_iconst (v := (1 : Int32)) hx hb dX12_waysOf_23 (by decide) ?_
      refine lv_isub hx hb dX12_waysOf_24 ?_
      refine lv_ishl hx hb dX12_waysOf_25 ?_
      refine lv_icmp_ne (tgt := 33) hx hb dX12_waysOf_26 (by decide) (fun c26 => ?_) (fun c26 => ?_)
      · have hf := ite_f hf c26
        refine lv_iconst (v := (0 : Int32)) hx hb dX12_waysOf_33 (by decide) ?_
        exact r_I hx hb hr hlocks X hf dX12_waysOf_34
      · have hf := ite_t hf c26
        refine lv_iconst (v := (1 : Int32)) hx hb dX12_waysOf_29 (by decide) ?_
        refine lv_goto (tgt := 34) hx hb dX12_waysOf_30 (by decide) ?_
        exact r_I hx hb hr hlocks X hf dX12_waysOf_34
end
theorem dX12_ways_0 : decode bX12_ways 0 = .ok (.aload_n 0, 1) := by decide +kernel
theorem dX12_ways_1 : decode bX12_ways 1 = .ok (.iconst 0, 1) := by decide +kernel
theorem dX12_ways_2 : decode bX12_ways 2 = .ok (.putfield 1, 3) := by decide +kernel
theorem dX12_ways_5 : decode bX12_ways 5 = .ok (.aload_n 0, 1) := by decide +kernel
theorem dX12_ways_6 : decode bX12_ways 6 = .ok (.iload_n 1, 1) := by decide +kernel
theorem dX12_ways_7 : decode bX12_ways 7 = .ok (.invokevirtual 236, 3) := by decide +kernel
theorem dX12_ways_10 : decode bX12_ways 10 = .ok (.ifCond .ne 31, 3) := by decide +kernel
theorem dX12_ways_13 : decode bX12_ways 13 = .ok (.iload_n 1, 1) := by decide +kernel
theorem dX12_ways_14 : decode bX12_ways 14 = .ok (.ifCond .eq 27, 3) := by decide +kernel
theorem dX12_ways_17 : decode bX12_ways 17 = .ok (.iload_n 2, 1) := by decide +kernel
theorem dX12_ways_18 : decode bX12_ways 18 = .ok (.i2l, 1) := by decide +kernel
theorem dX12_ways_19 : decode bX12_ways 19 = .ok (.lconst 0, 1) := by decide +kernel
theorem dX12_ways_20 : decode bX12_ways 20 = .ok (.ldc2_w 207, 3) := by decide +kernel
theorem dX12_ways_23 : decode bX12_ways 23 = .ok (.invokestatic 75, 3) := by decide +kernel
theorem dX12_ways_26 : decode bX12_ways 26 = .ok (.ifCond .eq 15, 3) := by decide +kernel
theorem dX12_ways_29 : decode bX12_ways 29 = .ok (.iload_n 3, 1) := by decide +kernel
theorem dX12_ways_30 : decode bX12_ways 30 = .ok (.i2l, 1) := by decide +kernel
theorem dX12_ways_31 : decode bX12_ways 31 = .ok (.lconst 0, 1) := by decide +kernel
theorem dX12_ways_32 : decode bX12_ways 32 = .ok (.ldc2_w 144, 3) := by decide +kernel
theorem dX12_ways_35 : decode bX12_ways 35 = .ok (.invokestatic 75, 3) := by decide +kernel
theorem dX12_ways_38 : decode bX12_ways 38 = .ok (.ifCond .ne 7, 3) := by decide +kernel
theorem dX12_ways_41 : decode bX12_ways 41 = .ok (.iconst (-1), 1) := by decide +kernel
theorem dX12_ways_42 : decode bX12_ways 42 = .ok (.goto 10, 3) := by decide +kernel
theorem dX12_ways_45 : decode bX12_ways 45 = .ok (.aload_n 0, 1) := by decide +kernel
theorem dX12_ways_46 : decode bX12_ways 46 = .ok (.iload_n 1, 1) := by decide +kernel
theorem dX12_ways_47 : decode bX12_ways 47 = .ok (.iload_n 2, 1) := by decide +kernel
theorem dX12_ways_48 : decode bX12_ways 48 = .ok (.iload_n 3, 1) := by decide +kernel
theorem dX12_ways_49 : decode bX12_ways 49 = .ok (.invokevirtual 239, 3) := by decide +kernel
theorem dX12_ways_52 : decode bX12_ways 52 = .ok (.ireturn, 1) := by decide +kernel
section
variable {p : Program} {l : Launch} {e : Env} {s : State} {m : MethodId} {args : Array Value} {below : List Frame} {meth : Method} {c : Code} {G : GG} {n : Nat} {h' : Hp} {rv : Int32}
set_option maxHeartbeats 4000000
set_option maxRecDepth 100000
theorem k_X12_ways (l : Launch) (G : GG) (n : Nat) (hN : NT ≤ n) {h h' : Hp} {x0 : Nat} {x1 : Int32} {x2 : Int32} {x3 : Int32} {rv : Int32} (hf : f_X12_ways h x0 x1 x2 x3 = some (rv, h')) : CT l G n n yX12_ways (.code yX12_ways bX12_ways 4 (some .int)) 2 0 0 [.ref (bs G + x0), .int x1, .int x2, .int x3] h h' (some (.int rv)) := by
  refine ct_of (maxL := 4) (ret := (some .int)) (bytes := bX12_ways) (by decide) (Nat.le_of_ble_eq_true rfl) (fun p e s m below meth c C0 X ls hl => ?_)
  have hl : lv_has ls 4 [(0, .ref (bs G + x0)), (1, .int x1), (2, .int x2), (3, .int x3)] := hl
  obtain ⟨hx, hb, hr, hml, hown, hts, hK, hlocks, hnm⟩ := id C0
  unfold f_X12_ways at hf
  obtain ⟨o0, hf⟩ := gd_e hf
  refine lv_aload_n hx hb dX12_ways_0 rfl (lv_at hl 0 rfl) ?_
  refine lv_iconst (v := (0 : Int32)) hx hb dX12_ways_1 (by decide) ?_
  refine g_PI hx hb hts hown hK X o0 hN fl_X12_1 ft_12_0 (by decide) rfl dX12_ways_2 (fun H locs X => ?_)
  obtain ⟨h1, e2, hf⟩ := lt_e hf
  rw [← e2] at X
  refine lv_aload_n hx hb dX12_ways_5 rfl (lv_at hl 0 rfl) ?_
  refine lv_iload_n hx hb dX12_ways_6 rfl (lv_at hl 1 rfl) ?_
  obtain ⟨r3, h4, q5, hf⟩ := bd_e hf
  refine c_V0 (As := [.int x1]) (rest := []) (st1 := [.int r3]) hx hb hml hown hts hK X (k_X12_noSet l G n hN q5) o0 hN lc_X12_noSet lv_X12_236 (ci := 12) rfl rfl (by decide) rfl hl.1 (Nat.le_of_ble_eq_true rfl) dX12_ways_7 rfl (fun H locs X => ?_)
  refine lv_if_ne (tgt := 41) hx hb dX12_ways_10 (by decide) (fun c10 => ?_) (fun c10 => ?_)
  · have hf := ite_f hf c10
    refine lv_iconst (v := (-1 : Int32)) hx hb dX12_ways_41 (by decide) ?_
    refine lv_goto (tgt := 52) hx hb dX12_ways_42 (by decide) ?_
    exact r_I hx hb hr hlocks X hf dX12_ways_52
  · have hf := ite_t hf c10
    refine lv_iload_n hx hb dX12_ways_13 rfl (lv_at hl 1 rfl) ?_
    refine lv_if_eq (tgt := 41) hx hb dX12_ways_14 (by decide) (fun c14 => ?_) (fun c14 => ?_)
    · have hf := ite_t hf c14
      refine lv_iconst (v := (-1 : Int32)) hx hb dX12_ways_41 (by decide) ?_
      refine lv_goto (tgt := 52) hx hb dX12_ways_42 (by decide) ?_
      exact r_I hx hb hr hlocks X hf dX12_ways_52
    · have hf := ite_f hf c14
      refine lv_iload_n hx hb dX12_ways_17 rfl (lv_at hl 2 rfl) ?_
      refine lv_i2l hx hb dX12_ways_18 rfl ?_
      refine lv_lconst (v := 0) hx hb dX12_ways_19 (by decide) ?_
      refine lv_ldc2 hx hb hown (hts _ cn_X12_207) dX12_ways_20 ?_
      obtain ⟨r6, h7, q8, hf⟩ := bd_e hf
      refine c_S0 (As := [.long x2.toInt64, .long (0 : Int64), .long (99 : Int64)]) (rest := []) (st1 := [.int r6]) hx hb hml hown hts hK X (k_X12_in l G n hN q8) lc_X12_in ls_X12_75 (by decide) rfl hl.1 (Nat.le_of_ble_eq_true rfl) dX12_ways_23 rfl (fun H locs X => ?_)
      refine lv_if_eq (tgt := 41) hx hb dX12_ways_26 (by decide) (fun c26 => ?_) (fun c26 => ?_)
      · have hf := ite_t hf c26
        refine lv_iconst (v := (-1 : Int32)) hx hb dX12_ways_41 (by decide) ?_
        refine lv_goto (tgt := 52) hx hb dX12_ways_42 (by decide) ?_
        exact r_I hx hb hr hlocks X hf dX12_ways_52
      · have hf := ite_f hf c26
        refine lv_iload_n hx hb dX12_ways_29 rfl (lv_at hl 3 rfl) ?_
        refine lv_i2l hx hb dX12_ways_30 rfl ?_
        refine lv_lconst (v := 0) hx hb dX12_ways_31 (by decide) ?_
        refine lv_ldc2 hx hb hown (hts _ cn_X12_144) dX12_ways_32 ?_
        obtain ⟨r9, h10, q11, hf⟩ := bd_e hf
        refine c_S0 (As := [.long x3.toInt64, .long (0 : Int64), .long (3 : Int64)]) (rest := []) (st1 := [.int r9]) hx hb hml hown hts hK X (k_X12_in l G n hN q11) lc_X12_in ls_X12_75 (by decide) rfl hl.1 (Nat.le_of_ble_eq_true rfl) dX12_ways_35 rfl (fun H locs X => ?_)
        refine lv_if_ne (tgt := 45) hx hb dX12_ways_38 (by decide) (fun c38 => ?_) (fun c38 => ?_)
        · have hf := ite_f hf c38
          refine lv_aload_n hx hb dX12_ways_45 rfl (lv_at hl 0 rfl) ?_
          refine lv_iload_n hx hb dX12_ways_46 rfl (lv_at hl 1 rfl) ?_
          refine lv_iload_n hx hb dX12_ways_47 rfl (lv_at hl 2 rfl) ?_
          refine lv_iload_n hx hb dX12_ways_48 rfl (lv_at hl 3 rfl) ?_
          obtain ⟨r12, h13, q14, hf⟩ := bd_e hf
          refine c_V0 (As := [.int x1, .int x2, .int x3]) (rest := []) (st1 := [.int r12]) hx hb hml hown hts hK X (k_X12_waysOf l G n hN q14) o0 hN lc_X12_waysOf lv_X12_239 (ci := 12) rfl rfl (by decide) rfl hl.1 (Nat.le_of_ble_eq_true rfl) dX12_ways_49 rfl (fun H locs X => ?_)
          exact r_I hx hb hr hlocks X hf dX12_ways_52
        · have hf := ite_t hf c38
          refine lv_iconst (v := (-1 : Int32)) hx hb dX12_ways_41 (by decide) ?_
          refine lv_goto (tgt := 52) hx hb dX12_ways_42 (by decide) ?_
          exact r_I hx hb hr hlocks X hf dX12_ways_52
end
theorem dX12_lowest_0 : decode bX12_lowest 0 = .ok (.aload_n 0, 1) := by decide +kernel
theorem dX12_lowest_1 : decode bX12_lowest 1 = .ok (.iconst 0, 1) := by decide +kernel
theorem dX12_lowest_2 : decode bX12_lowest 2 = .ok (.putfield 1, 3) := by decide +kernel
theorem dX12_lowest_5 : decode bX12_lowest 5 = .ok (.aload_n 0, 1) := by decide +kernel
theorem dX12_lowest_6 : decode bX12_lowest 6 = .ok (.iload_n 1, 1) := by decide +kernel
theorem dX12_lowest_7 : decode bX12_lowest 7 = .ok (.invokevirtual 138, 3) := by decide +kernel
theorem dX12_lowest_10 : decode bX12_lowest 10 = .ok (.ifCond .eq 5, 3) := by decide +kernel
theorem dX12_lowest_13 : decode bX12_lowest 13 = .ok (.iconst (-1), 1) := by decide +kernel
theorem dX12_lowest_14 : decode bX12_lowest 14 = .ok (.ireturn, 1) := by decide +kernel
theorem dX12_lowest_15 : decode bX12_lowest 15 = .ok (.iconst 1, 1) := by decide +kernel
theorem dX12_lowest_16 : decode bX12_lowest 16 = .ok (.istore_n 2, 1) := by decide +kernel
theorem dX12_lowest_17 : decode bX12_lowest 17 = .ok (.iload_n 2, 1) := by decide +kernel
theorem dX12_lowest_18 : decode bX12_lowest 18 = .ok (.bipush 100, 2) := by decide +kernel
theorem dX12_lowest_20 : decode bX12_lowest 20 = .ok (.if_icmp .ge 32, 3) := by decide +kernel
theorem dX12_lowest_23 : decode bX12_lowest 23 = .ok (.aload_n 0, 1) := by decide +kernel
theorem dX12_lowest_24 : decode bX12_lowest 24 = .ok (.aload_n 0, 1) := by decide +kernel
theorem dX12_lowest_25 : decode bX12_lowest 25 = .ok (.iload_n 1, 1) := by decide +kernel
theorem dX12_lowest_26 : decode bX12_lowest 26 = .ok (.invokevirtual 141, 3) := by decide +kernel
theorem dX12_lowest_29 : decode bX12_lowest 29 = .ok (.iload_n 2, 1) := by decide +kernel
theorem dX12_lowest_30 : decode bX12_lowest 30 = .ok (.aload_n 0, 1) := by decide +kernel
theorem dX12_lowest_31 : decode bX12_lowest 31 = .ok (.getfield 13, 3) := by decide +kernel
theorem dX12_lowest_34 : decode bX12_lowest 34 = .ok (.iconst 2, 1) := by decide +kernel
theorem dX12_lowest_35 : decode bX12_lowest 35 = .ok (.iaload, 1) := by decide +kernel
theorem dX12_lowest_36 : decode bX12_lowest 36 = .ok (.invokevirtual 191, 3) := by decide +kernel
theorem dX12_lowest_39 : decode bX12_lowest 39 = .ok (.bipush (-4), 2) := by decide +kernel
theorem dX12_lowest_41 : decode bX12_lowest 41 = .ok (.if_icmp .ne 5, 3) := by decide +kernel
theorem dX12_lowest_44 : decode bX12_lowest 44 = .ok (.iload_n 2, 1) := by decide +kernel
theorem dX12_lowest_45 : decode bX12_lowest 45 = .ok (.ireturn, 1) := by decide +kernel
theorem dX12_lowest_46 : decode bX12_lowest 46 = .ok (.iinc 2 1, 3) := by decide +kernel
theorem dX12_lowest_49 : decode bX12_lowest 49 = .ok (.goto (-32), 3) := by decide +kernel
theorem dX12_lowest_52 : decode bX12_lowest 52 = .ok (.bipush (-4), 2) := by decide +kernel
theorem dX12_lowest_54 : decode bX12_lowest 54 = .ok (.ireturn, 1) := by decide +kernel
section
variable {p : Program} {l : Launch} {e : Env} {s : State} {m : MethodId} {args : Array Value} {below : List Frame} {meth : Method} {c : Code} {G : GG} {n : Nat} {h' : Hp} {rv : Int32}
set_option maxHeartbeats 4000000
set_option maxRecDepth 100000
theorem j_X12_lowest_17 (C0 : Cx p s m args meth c G bX12_lowest RX12 3 (some .int) "lowest") (hN : NT ≤ n) : ∀ (fu : Nat), ∀ {H : Heap} {locs : List Loc} {ls : Array Slot} {h : Hp} {x0 : Nat} {x1 : Int32} {x2 : Int32}, XW G n h s 0 H locs → lv_has ls 3 [(0, .ref (bs G + x0)), (1, .int x1), (2, .int x2)] → kd x0 = 12 → f_X12_lowest_17 fu h x0 x1 x2 = some (rv, h') → W p l e (rmC 5 0 0) s m args below meth c H locs 0 0 (MQ below (QP G n h' (some (.int rv))) args s 0 0 (Ab G)) (F0 m 17 ls []) := by
  obtain ⟨hx, hb, hr, hml, hown, hts, hK, hlocks, hnm⟩ := id C0
  intro fu
  induction fu with
  | zero => intro H locs ls h x0 x1 x2 X hl o0 hf; cases hf
  | succ fu ih =>
    intro H locs ls h x0 x1 x2 X hl o0 hf
    rw [f_X12_lowest_17] at hf
    refine lv_iload_n hx hb dX12_lowest_17 rfl (lv_at hl 2 rfl) ?_
    refine lv_bipush (v := (100 : Int32)) hx hb dX12_lowest_18 (by decide) ?_
    refine lv_icmp_ge (tgt := 52) hx hb dX12_lowest_20 (by decide) (fun c20 => ?_) (fun c20 => ?_)
    · have hf := ite_t hf c20
      refine lv_bipush (v := (-4 : Int32)) hx hb dX12_lowest_52 (by decide) ?_
      exact r_I hx hb hr hlocks X hf dX12_lowest_54
    · have hf := ite_f hf c20
      refine lv_aload_n hx hb dX12_lowest_23 rfl (lv_at hl 0 rfl) ?_
      refine lv_aload_n hx hb dX12_lowest_24 rfl (lv_at hl 0 rfl) ?_
      refine lv_iload_n hx hb dX12_lowest_25 rfl (lv_at hl 1 rfl) ?_
      obtain ⟨r1, h2, q3, hf⟩ := bd_e hf
      refine c_V0 (As := [.int x1]) (rest := [.ref (bs G + x0)]) (st1 := [.int r1, .ref (bs G + x0)]) hx hb hml hown hts hK X (k_X12_mayOf l G n hN q3) o0 hN lc_X12_mayOf lv_X12_141 (ci := 12) rfl rfl (by decide) rfl hl.1 (Nat.le_of_ble_eq_true rfl) dX12_lowest_26 rfl (fun H locs X => ?_)
      refine lv_iload_n hx hb dX12_lowest_29 rfl (lv_at hl 2 rfl) ?_
      refine lv_aload_n hx hb dX12_lowest_30 rfl (lv_at hl 0 rfl) ?_
      obtain ⟨g4, hf⟩ := gd_e hf
      refine g_R hx hb hts hown hK X o0 hN g4 fl_X12_13 (by decide) rfl (by decide) dX12_lowest_31 ?_
      refine lv_iconst (v := (2 : Int32)) hx hb dX12_lowest_34 (by decide) ?_
      obtain ⟨g5, hf⟩ := gd_e hf
      refine g_ia hx hb hK X g4 hN g5 (by decide) dX12_lowest_35 ?_
      obtain ⟨r6, h7, q8, hf⟩ := bd_e hf
      refine c_V0 (As := [.int r1, .int x2, .int (h2.1 (h2.2 x0 1) (2 : Int32).toNatClampNeg)]) (rest := []) (st1 := [.int r6]) hx hb hml hown hts hK X (k_X12_bestOf l G n hN q8) o0 hN lc_X12_bestOf lv_X12_191 (ci := 12) rfl rfl (by decide) rfl hl.1 (Nat.le_of_ble_eq_true rfl) dX12_lowest_36 rfl (fun H locs X => ?_)
      refine lv_bipush (v := (-4 : Int32)) hx hb dX12_lowest_39 (by decide) ?_
      refine lv_icmp_ne (tgt := 46) hx hb dX12_lowest_41 (by decide) (fun c41 => ?_) (fun c41 => ?_)
      · have hf := ite_f hf c41
        refine lv_iinc (v := (x2 + (1 : Int32))) (lv' := [(2, .int (x2 + (1 : Int32))), (0, .ref (bs G + x0)), (1, .int x1)]) hx hb dX12_lowest_46 hl (k := 2) rfl rfl (by decide) rfl (fun ls hl => ?_)
        refine lv_goto (tgt := 17) hx hb dX12_lowest_49 (by decide) ?_
        exact ih X (lv_sub hl [1, 2, 0] rfl) o0 hf
      · have hf := ite_t hf c41
        refine lv_iload_n hx hb dX12_lowest_44 rfl (lv_at hl 2 rfl) ?_
        exact r_I hx hb hr hlocks X hf dX12_lowest_45
theorem k_X12_lowest (l : Launch) (G : GG) (n : Nat) (hN : NT ≤ n) {h h' : Hp} {x0 : Nat} {x1 : Int32} {rv : Int32} (hf : f_X12_lowest h x0 x1 = some (rv, h')) : CT l G n n yX12_lowest (.code yX12_lowest bX12_lowest 3 (some .int)) 5 0 0 [.ref (bs G + x0), .int x1] h h' (some (.int rv)) := by
  refine ct_of (maxL := 3) (ret := (some .int)) (bytes := bX12_lowest) (by decide) (Nat.le_of_ble_eq_true rfl) (fun p e s m below meth c C0 X ls hl => ?_)
  have hl : lv_has ls 3 [(0, .ref (bs G + x0)), (1, .int x1)] := hl
  obtain ⟨hx, hb, hr, hml, hown, hts, hK, hlocks, hnm⟩ := id C0
  unfold f_X12_lowest at hf
  obtain ⟨o0, hf⟩ := gd_e hf
  refine lv_aload_n hx hb dX12_lowest_0 rfl (lv_at hl 0 rfl) ?_
  refine lv_iconst (v := (0 : Int32)) hx hb dX12_lowest_1 (by decide) ?_
  refine g_PI hx hb hts hown hK X o0 hN fl_X12_1 ft_12_0 (by decide) rfl dX12_lowest_2 (fun H locs X => ?_)
  obtain ⟨h1, e2, hf⟩ := lt_e hf
  rw [← e2] at X
  refine lv_aload_n hx hb dX12_lowest_5 rfl (lv_at hl 0 rfl) ?_
  refine lv_iload_n hx hb dX12_lowest_6 rfl (lv_at hl 1 rfl) ?_
  obtain ⟨r3, h4, q5, hf⟩ := bd_e hf
  refine c_V0 (As := [.int x1]) (rest := []) (st1 := [.int r3]) hx hb hml hown hts hK X (k_X12_noOne l G n hN q5) o0 hN lc_X12_noOne lv_X12_138 (ci := 12) rfl rfl (by decide) rfl hl.1 (Nat.le_of_ble_eq_true rfl) dX12_lowest_7 rfl (fun H locs X => ?_)
  refine lv_if_eq (tgt := 15) hx hb dX12_lowest_10 (by decide) (fun c10 => ?_) (fun c10 => ?_)
  · have hf := ite_t hf c10
    refine lv_iconst (v := (1 : Int32)) hx hb dX12_lowest_15 (by decide) ?_
    refine lv_istore_n (lv' := [(2, .int (1 : Int32)), (0, .ref (bs G + x0)), (1, .int x1)]) hx hb dX12_lowest_16 rfl hl (by decide) rfl (fun ls hl => ?_)
    exact j_X12_lowest_17 C0 hN FU X (lv_sub hl [1, 2, 0] rfl) o0 hf
  · have hf := ite_f hf c10
    refine lv_iconst (v := (-1 : Int32)) hx hb dX12_lowest_13 (by decide) ?_
    exact r_I hx hb hr hlocks X hf dX12_lowest_14
end
theorem dX12_enter_0 : decode bX12_enter 0 = .ok (.aload_n 0, 1) := by decide +kernel
theorem dX12_enter_1 : decode bX12_enter 1 = .ok (.iconst 0, 1) := by decide +kernel
theorem dX12_enter_2 : decode bX12_enter 2 = .ok (.putfield 1, 3) := by decide +kernel
theorem dX12_enter_5 : decode bX12_enter 5 = .ok (.aload_n 0, 1) := by decide +kernel
theorem dX12_enter_6 : decode bX12_enter 6 = .ok (.iload_n 1, 1) := by decide +kernel
theorem dX12_enter_7 : decode bX12_enter 7 = .ok (.invokevirtual 236, 3) := by decide +kernel
theorem dX12_enter_10 : decode bX12_enter 10 = .ok (.ifCond .ne 7, 3) := by decide +kernel
theorem dX12_enter_13 : decode bX12_enter 13 = .ok (.iload_n 1, 1) := by decide +kernel
theorem dX12_enter_14 : decode bX12_enter 14 = .ok (.ifCond .ne 5, 3) := by decide +kernel
theorem dX12_enter_17 : decode bX12_enter 17 = .ok (.iconst (-1), 1) := by decide +kernel
theorem dX12_enter_18 : decode bX12_enter 18 = .ok (.ireturn, 1) := by decide +kernel
theorem dX12_enter_19 : decode bX12_enter 19 = .ok (.aload_n 0, 1) := by decide +kernel
theorem dX12_enter_20 : decode bX12_enter 20 = .ok (.getfield 116, 3) := by decide +kernel
theorem dX12_enter_23 : decode bX12_enter 23 = .ok (.bipush 6, 2) := by decide +kernel
theorem dX12_enter_25 : decode bX12_enter 25 = .ok (.if_icmp .ne 6, 3) := by decide +kernel
theorem dX12_enter_28 : decode bX12_enter 28 = .ok (.bipush (-3), 2) := by decide +kernel
theorem dX12_enter_30 : decode bX12_enter 30 = .ok (.ireturn, 1) := by decide +kernel
theorem dX12_enter_31 : decode bX12_enter 31 = .ok (.aload_n 0, 1) := by decide +kernel
theorem dX12_enter_32 : decode bX12_enter 32 = .ok (.getfield 59, 3) := by decide +kernel
theorem dX12_enter_35 : decode bX12_enter 35 = .ok (.aload_n 0, 1) := by decide +kernel
theorem dX12_enter_36 : decode bX12_enter 36 = .ok (.getfield 116, 3) := by decide +kernel
theorem dX12_enter_39 : decode bX12_enter 39 = .ok (.iload_n 1, 1) := by decide +kernel
theorem dX12_enter_40 : decode bX12_enter 40 = .ok (.iastore, 1) := by decide +kernel
theorem dX12_enter_41 : decode bX12_enter 41 = .ok (.aload_n 0, 1) := by decide +kernel
theorem dX12_enter_42 : decode bX12_enter 42 = .ok (.dup, 1) := by decide +kernel
theorem dX12_enter_43 : decode bX12_enter 43 = .ok (.getfield 116, 3) := by decide +kernel
theorem dX12_enter_46 : decode bX12_enter 46 = .ok (.iconst 1, 1) := by decide +kernel
theorem dX12_enter_47 : decode bX12_enter 47 = .ok (.iadd, 1) := by decide +kernel
theorem dX12_enter_48 : decode bX12_enter 48 = .ok (.putfield 116, 3) := by decide +kernel
theorem dX12_enter_51 : decode bX12_enter 51 = .ok (.aload_n 0, 1) := by decide +kernel
theorem dX12_enter_52 : decode bX12_enter 52 = .ok (.getfield 116, 3) := by decide +kernel
theorem dX12_enter_55 : decode bX12_enter 55 = .ok (.ireturn, 1) := by decide +kernel
section
variable {p : Program} {l : Launch} {e : Env} {s : State} {m : MethodId} {args : Array Value} {below : List Frame} {meth : Method} {c : Code} {G : GG} {n : Nat} {h' : Hp} {rv : Int32}
set_option maxHeartbeats 4000000
set_option maxRecDepth 100000
theorem k_X12_enter (l : Launch) (G : GG) (n : Nat) (hN : NT ≤ n) {h h' : Hp} {x0 : Nat} {x1 : Int32} {rv : Int32} (hf : f_X12_enter h x0 x1 = some (rv, h')) : CT l G n n yX12_enter (.code yX12_enter bX12_enter 2 (some .int)) 2 0 0 [.ref (bs G + x0), .int x1] h h' (some (.int rv)) := by
  refine ct_of (maxL := 2) (ret := (some .int)) (bytes := bX12_enter) (by decide) (Nat.le_of_ble_eq_true rfl) (fun p e s m below meth c C0 X ls hl => ?_)
  have hl : lv_has ls 2 [(0, .ref (bs G + x0)), (1, .int x1)] := hl
  obtain ⟨hx, hb, hr, hml, hown, hts, hK, hlocks, hnm⟩ := id C0
  unfold f_X12_enter at hf
  obtain ⟨o0, hf⟩ := gd_e hf
  refine lv_aload_n hx hb dX12_enter_0 rfl (lv_at hl 0 rfl) ?_
  refine lv_iconst (v := (0 : Int32)) hx hb dX12_enter_1 (by decide) ?_
  refine g_PI hx hb hts hown hK X o0 hN fl_X12_1 ft_12_0 (by decide) rfl dX12_enter_2 (fun H locs X => ?_)
  obtain ⟨h1, e2, hf⟩ := lt_e hf
  rw [← e2] at X
  refine lv_aload_n hx hb dX12_enter_5 rfl (lv_at hl 0 rfl) ?_
  refine lv_iload_n hx hb dX12_enter_6 rfl (lv_at hl 1 rfl) ?_
  obtain ⟨r3, h4, q5, hf⟩ := bd_e hf
  refine c_V0 (As := [.int x1]) (rest := []) (st1 := [.int r3]) hx hb hml hown hts hK X (k_X12_noSet l G n hN q5) o0 hN lc_X12_noSet lv_X12_236 (ci := 12) rfl rfl (by decide) rfl hl.1 (Nat.le_of_ble_eq_true rfl) dX12_enter_7 rfl (fun H locs X => ?_)
  refine lv_if_ne (tgt := 17) hx hb dX12_enter_10 (by decide) (fun c10 => ?_) (fun c10 => ?_)
  · have hf := ite_f hf c10
    refine lv_iconst (v := (-1 : Int32)) hx hb dX12_enter_17 (by decide) ?_
    exact r_I hx hb hr hlocks X hf dX12_enter_18
  · have hf := ite_t hf c10
    refine lv_iload_n hx hb dX12_enter_13 rfl (lv_at hl 1 rfl) ?_
    refine lv_if_ne (tgt := 19) hx hb dX12_enter_14 (by decide) (fun c14 => ?_) (fun c14 => ?_)
    · have hf := ite_f hf c14
      refine lv_aload_n hx hb dX12_enter_19 rfl (lv_at hl 0 rfl) ?_
      refine g_I hx hb hts hown hK X o0 hN fl_X12_116 (by decide) rfl dX12_enter_20 ?_
      refine lv_bipush (v := (6 : Int32)) hx hb dX12_enter_23 (by decide) ?_
      refine lv_icmp_ne (tgt := 31) hx hb dX12_enter_25 (by decide) (fun c25 => ?_) (fun c25 => ?_)
      · have hf := ite_f hf c25
        refine lv_aload_n hx hb dX12_enter_31 rfl (lv_at hl 0 rfl) ?_
        obtain ⟨g6, hf⟩ := gd_e hf
        refine g_R hx hb hts hown hK X o0 hN g6 fl_X12_59 (by decide) rfl (by decide) dX12_enter_32 ?_
        refine lv_aload_n hx hb dX12_enter_35 rfl (lv_at hl 0 rfl) ?_
        refine g_I hx hb hts hown hK X o0 hN fl_X12_116 (by decide) rfl dX12_enter_36 ?_
        refine lv_iload_n hx hb dX12_enter_39 rfl (lv_at hl 1 rfl) ?_
        obtain ⟨g7, hf⟩ := gd_e hf
        refine g_is hx hb hK X g6 hN g7 (by decide) dX12_enter_40 (fun H locs X => ?_)
        obtain ⟨h8, e9, hf⟩ := lt_e hf
        rw [← e9] at X
        refine lv_aload_n hx hb dX12_enter_41 rfl (lv_at hl 0 rfl) ?_
        refine lv_dup hx hb dX12_enter_42 rfl ?_
        refine g_I hx hb hts hown hK X o0 hN fl_X12_116 (by decide) rfl dX12_enter_43 ?_
        refine lv_iconst (v := (1 : Int32)) hx hb dX12_enter_46 (by decide) ?_
        refine lv_iadd hx hb dX12_enter_47 ?_
        refine g_PI hx hb hts hown hK X o0 hN fl_X12_116 ft_12_27 (by decide) rfl dX12_enter_48 (fun H locs X => ?_)
        obtain ⟨h10, e11, hf⟩ := lt_e hf
        rw [← e11] at X
        refine lv_aload_n hx hb dX12_enter_51 rfl (lv_at hl 0 rfl) ?_
        refine g_I hx hb hts hown hK X o0 hN fl_X12_116 (by decide) rfl dX12_enter_52 ?_
        exact r_I hx hb hr hlocks X hf dX12_enter_55
      · have hf := ite_t hf c25
        refine lv_bipush (v := (-3 : Int32)) hx hb dX12_enter_28 (by decide) ?_
        exact r_I hx hb hr hlocks X hf dX12_enter_30
    · have hf := ite_t hf c14
      refine lv_iconst (v := (-1 : Int32)) hx hb dX12_enter_17 (by decide) ?_
      exact r_I hx hb hr hlocks X hf dX12_enter_18
end
theorem dX12_close_0 : decode bX12_close 0 = .ok (.aload_n 0, 1) := by decide +kernel
theorem dX12_close_1 : decode bX12_close 1 = .ok (.iconst 0, 1) := by decide +kernel
theorem dX12_close_2 : decode bX12_close 2 = .ok (.putfield 1, 3) := by decide +kernel
theorem dX12_close_5 : decode bX12_close 5 = .ok (.aload_n 0, 1) := by decide +kernel
theorem dX12_close_6 : decode bX12_close 6 = .ok (.getfield 116, 3) := by decide +kernel
theorem dX12_close_9 : decode bX12_close 9 = .ok (.istore_n 1, 1) := by decide +kernel
theorem dX12_close_10 : decode bX12_close 10 = .ok (.aload_n 0, 1) := by decide +kernel
theorem dX12_close_11 : decode bX12_close 11 = .ok (.iconst 0, 1) := by decide +kernel
theorem dX12_close_12 : decode bX12_close 12 = .ok (.putfield 116, 3) := by decide +kernel
theorem dX12_close_15 : decode bX12_close 15 = .ok (.iload_n 1, 1) := by decide +kernel
theorem dX12_close_16 : decode bX12_close 16 = .ok (.ireturn, 1) := by decide +kernel
section
variable {p : Program} {l : Launch} {e : Env} {s : State} {m : MethodId} {args : Array Value} {below : List Frame} {meth : Method} {c : Code} {G : GG} {n : Nat} {h' : Hp} {rv : Int32}
set_option maxHeartbeats 4000000
set_option maxRecDepth 100000
theorem k_X12_close (l : Launch) (G : GG) (n : Nat) (hN : NT ≤ n) {h h' : Hp} {x0 : Nat} {rv : Int32} (hf : f_X12_close h x0 = some (rv, h')) : CT l G n n yX12_close (.code yX12_close bX12_close 2 (some .int)) 0 0 0 [.ref (bs G + x0)] h h' (some (.int rv)) := by
  refine ct_of (maxL := 2) (ret := (some .int)) (bytes := bX12_close) (by decide) (Nat.le_of_ble_eq_true rfl) (fun p e s m below meth c C0 X ls hl => ?_)
  have hl : lv_has ls 2 [(0, .ref (bs G + x0))] := hl
  obtain ⟨hx, hb, hr, hml, hown, hts, hK, hlocks, hnm⟩ := id C0
  unfold f_X12_close at hf
  obtain ⟨o0, hf⟩ := gd_e hf
  refine lv_aload_n hx hb dX12_close_0 rfl (lv_at hl 0 rfl) ?_
  refine lv_iconst (v := (0 : Int32)) hx hb dX12_close_1 (by decide) ?_
  refine g_PI hx hb hts hown hK X o0 hN fl_X12_1 ft_12_0 (by decide) rfl dX12_close_2 (fun H locs X => ?_)
  obtain ⟨h1, e2, hf⟩ := lt_e hf
  rw [← e2] at X
  refine lv_aload_n hx hb dX12_close_5 rfl (lv_at hl 0 rfl) ?_
  refine g_I hx hb hts hown hK X o0 hN fl_X12_116 (by decide) rfl dX12_close_6 ?_
  refine lv_istore_n (lv' := [(1, .int (h1.1 x0 27)), (0, .ref (bs G + x0))]) hx hb dX12_close_9 rfl hl (by decide) rfl (fun ls hl => ?_)
  refine lv_aload_n hx hb dX12_close_10 rfl (lv_at hl 1 rfl) ?_
  refine lv_iconst (v := (0 : Int32)) hx hb dX12_close_11 (by decide) ?_
  refine g_PI hx hb hts hown hK X o0 hN fl_X12_116 ft_12_27 (by decide) rfl dX12_close_12 (fun H locs X => ?_)
  obtain ⟨h3, e4, hf⟩ := lt_e hf
  rw [← e4] at X
  refine lv_iload_n hx hb dX12_close_15 rfl (lv_at hl 0 rfl) ?_
  exact r_I hx hb hr hlocks X hf dX12_close_16
end
