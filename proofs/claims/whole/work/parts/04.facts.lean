set_option maxRecDepth 100000
theorem cn_J6_265 : Cond.constant "java/lang/Integer" 265 (1431655765 : Int32) ∈ TT := mt (i := 777) (by decide +kernel) (by decide +kernel)
theorem cn_J6_266 : Cond.constant "java/lang/Integer" 266 (858993459 : Int32) ∈ TT := mt (i := 778) (by decide +kernel) (by decide +kernel)
theorem cn_J6_267 : Cond.constant "java/lang/Integer" 267 (252645135 : Int32) ∈ TT := mt (i := 779) (by decide +kernel) (by decide +kernel)
theorem cn_X12_103 : Cond.constantLong RX12 103 (24 : Int64) ∈ TT := mt (i := 1130) (by decide +kernel) (by decide +kernel)
theorem cn_X12_144 : Cond.constantLong RX12 144 (3 : Int64) ∈ TT := mt (i := 1171) (by decide +kernel) (by decide +kernel)
theorem cn_X12_162 : Cond.constantLong RX12 162 (-300 : Int64) ∈ TT := mt (i := 1231) (by decide +kernel) (by decide +kernel)
theorem cn_X12_164 : Cond.constantLong RX12 164 (300 : Int64) ∈ TT := mt (i := 1232) (by decide +kernel) (by decide +kernel)
theorem cn_X12_166 : Cond.constant RX12 166 (1000000 : Int32) ∈ TT := mt (i := 1226) (by decide +kernel) (by decide +kernel)
theorem cn_X12_207 : Cond.constantLong RX12 207 (99 : Int64) ∈ TT := mt (i := 1264) (by decide +kernel) (by decide +kernel)
theorem cn_X12_209 : Cond.constantLong RX12 209 (4 : Int64) ∈ TT := mt (i := 1265) (by decide +kernel) (by decide +kernel)
theorem cn_X12_227 : Cond.constantLong RX12 227 (-1 : Int64) ∈ TT := mt (i := 1290) (by decide +kernel) (by decide +kernel)
theorem cn_X12_229 : Cond.constantLong RX12 229 (5 : Int64) ∈ TT := mt (i := 1291) (by decide +kernel) (by decide +kernel)
theorem cn_X12_234 : Cond.constantLong RX12 234 (600 : Int64) ∈ TT := mt (i := 1328) (by decide +kernel) (by decide +kernel)
theorem cn_X12_245 : Cond.constantLong RX12 245 (9999 : Int64) ∈ TT := mt (i := 1361) (by decide +kernel) (by decide +kernel)
theorem cn_X12_247 : Cond.constantLong RX12 247 (30 : Int64) ∈ TT := mt (i := 1362) (by decide +kernel) (by decide +kernel)
theorem cn_X12_249 : Cond.constantLong RX12 249 (7919 : Int64) ∈ TT := mt (i := 1363) (by decide +kernel) (by decide +kernel)
theorem cn_X12_251 : Cond.constantLong RX12 251 (6151 : Int64) ∈ TT := mt (i := 1364) (by decide +kernel) (by decide +kernel)
theorem cn_X12_253 : Cond.constantLong RX12 253 (101 : Int64) ∈ TT := mt (i := 1365) (by decide +kernel) (by decide +kernel)
theorem cn_X12_255 : Cond.constantLong RX12 255 (65521 : Int64) ∈ TT := mt (i := 1366) (by decide +kernel) (by decide +kernel)
theorem cn_X12_79 : Cond.constantLong RX12 79 (32 : Int64) ∈ TT := mt (i := 1098) (by decide +kernel) (by decide +kernel)
theorem cn_X12_81 : Cond.constantLong RX12 81 (126 : Int64) ∈ TT := mt (i := 1099) (by decide +kernel) (by decide +kernel)
theorem cn_X12_89 : Cond.constantLong RX12 89 (48 : Int64) ∈ TT := mt (i := 1127) (by decide +kernel) (by decide +kernel)
theorem cn_X12_91 : Cond.constantLong RX12 91 (57 : Int64) ∈ TT := mt (i := 1128) (by decide +kernel) (by decide +kernel)
theorem cn_X12_97 : Cond.constantLong RX12 97 (2 : Int64) ∈ TT := mt (i := 1129) (by decide +kernel) (by decide +kernel)
theorem cn_X6_43 : Cond.constantLong RX6 43 (7919 : Int64) ∈ TT := mt (i := 972) (by decide +kernel) (by decide +kernel)
theorem cn_X6_45 : Cond.constantLong RX6 45 (6151 : Int64) ∈ TT := mt (i := 973) (by decide +kernel) (by decide +kernel)
theorem cn_X6_47 : Cond.constantLong RX6 47 (101 : Int64) ∈ TT := mt (i := 974) (by decide +kernel) (by decide +kernel)
theorem cn_X6_49 : Cond.constantLong RX6 49 (65521 : Int64) ∈ TT := mt (i := 975) (by decide +kernel) (by decide +kernel)
theorem cn_X6_51 : Cond.constantLong RX6 51 (99 : Int64) ∈ TT := mt (i := 976) (by decide +kernel) (by decide +kernel)
theorem cn_X7_49 : Cond.constant RX7 49 (1000000 : Int32) ∈ TT := mt (i := 746) (by decide +kernel) (by decide +kernel)
theorem fl_X0_15 : FL RX0 15 0 3 := ⟨RX0, TX0, 6, rfl, by decide, mt (i := 228) (by decide +kernel) (by decide +kernel)⟩
theorem fl_X0_18 : FL RX0 18 0 4 := ⟨RX0, TX0, 6, rfl, by decide, mt (i := 229) (by decide +kernel) (by decide +kernel)⟩
theorem fl_X0_21 : FL RX0 21 0 5 := ⟨RX0, TX0, 6, rfl, by decide, mt (i := 230) (by decide +kernel) (by decide +kernel)⟩
theorem fl_X0_24 : FL RX0 24 0 0 := ⟨RX0, TX0, 6, rfl, by decide, mt (i := 223) (by decide +kernel) (by decide +kernel)⟩
theorem fl_X0_28 : FL RX0 28 4 2 := ⟨RX4, TX4, 8, rfl, by decide, mt (i := 117) (by decide +kernel) (by decide +kernel)⟩
theorem fl_X0_39 : FL RX0 39 4 1 := ⟨RX4, TX4, 8, rfl, by decide, mt (i := 114) (by decide +kernel) (by decide +kernel)⟩
theorem fl_X0_42 : FL RX0 42 4 7 := ⟨RX4, TX4, 8, rfl, by decide, mt (i := 132) (by decide +kernel) (by decide +kernel)⟩
theorem fl_X0_49 : FL RX0 49 0 1 := ⟨RX0, TX0, 6, rfl, by decide, mt (i := 225) (by decide +kernel) (by decide +kernel)⟩
theorem fl_X0_9 : FL RX0 9 0 2 := ⟨RX0, TX0, 6, rfl, by decide, mt (i := 227) (by decide +kernel) (by decide +kernel)⟩
theorem fl_X10_15 : FL RX10 15 10 2 := ⟨RX10, TX10, 3, rfl, by decide, mt (i := 209) (by decide +kernel) (by decide +kernel)⟩
theorem fl_X10_18 : FL RX10 18 10 0 := ⟨RX10, TX10, 3, rfl, by decide, mt (i := 206) (by decide +kernel) (by decide +kernel)⟩
theorem fl_X10_9 : FL RX10 9 10 1 := ⟨RX10, TX10, 3, rfl, by decide, mt (i := 208) (by decide +kernel) (by decide +kernel)⟩
theorem fl_X11_10 : FL RX11 10 11 0 := ⟨RX11, TX11, 12, rfl, by decide, mt (i := 538) (by decide +kernel) (by decide +kernel)⟩
theorem fl_X11_109 : FL RX11 109 8 0 := ⟨RX8, TX8, 5, rfl, by decide, mt (i := 86) (by decide +kernel) (by decide +kernel)⟩
theorem fl_X11_116 : FL RX11 116 4 1 := ⟨RX4, TX4, 8, rfl, by decide, mt (i := 116) (by decide +kernel) (by decide +kernel)⟩
theorem fl_X11_123 : FL RX11 123 3 0 := ⟨RX3, TX3, 2, rfl, by decide, mt (i := 193) (by decide +kernel) (by decide +kernel)⟩
theorem fl_X11_126 : FL RX11 126 10 0 := ⟨RX10, TX10, 3, rfl, by decide, mt (i := 207) (by decide +kernel) (by decide +kernel)⟩
theorem fl_X11_127 : FL RX11 127 0 0 := ⟨RX0, TX0, 6, rfl, by decide, mt (i := 224) (by decide +kernel) (by decide +kernel)⟩
theorem fl_X11_128 : FL RX11 128 4 0 := ⟨RX4, TX4, 8, rfl, by decide, mt (i := 112) (by decide +kernel) (by decide +kernel)⟩
theorem fl_X11_135 : FL RX11 135 4 5 := ⟨RX4, TX4, 8, rfl, by decide, mt (i := 126) (by decide +kernel) (by decide +kernel)⟩
theorem fl_X11_139 : FL RX11 139 4 6 := ⟨RX4, TX4, 8, rfl, by decide, mt (i := 129) (by decide +kernel) (by decide +kernel)⟩
theorem fl_X11_146 : FL RX11 146 2 0 := ⟨RX2, TX2, 5, rfl, by decide, mt (i := 158) (by decide +kernel) (by decide +kernel)⟩
theorem fl_X11_149 : FL RX11 149 2 1 := ⟨RX2, TX2, 5, rfl, by decide, mt (i := 161) (by decide +kernel) (by decide +kernel)⟩
theorem fl_X11_155 : FL RX11 155 4 7 := ⟨RX4, TX4, 8, rfl, by decide, mt (i := 133) (by decide +kernel) (by decide +kernel)⟩
theorem fl_X11_158 : FL RX11 158 2 2 := ⟨RX2, TX2, 5, rfl, by decide, mt (i := 164) (by decide +kernel) (by decide +kernel)⟩
theorem fl_X11_172 : FL RX11 172 4 2 := ⟨RX4, TX4, 8, rfl, by decide, mt (i := 119) (by decide +kernel) (by decide +kernel)⟩
theorem fl_X11_175 : FL RX11 175 4 3 := ⟨RX4, TX4, 8, rfl, by decide, mt (i := 122) (by decide +kernel) (by decide +kernel)⟩
theorem fl_X11_178 : FL RX11 178 4 4 := ⟨RX4, TX4, 8, rfl, by decide, mt (i := 124) (by decide +kernel) (by decide +kernel)⟩
theorem fl_X11_19 : FL RX11 19 11 1 := ⟨RX11, TX11, 12, rfl, by decide, mt (i := 539) (by decide +kernel) (by decide +kernel)⟩
theorem fl_X11_222 : FL RX11 222 2 3 := ⟨RX2, TX2, 5, rfl, by decide, mt (i := 166) (by decide +kernel) (by decide +kernel)⟩
theorem fl_X11_225 : FL RX11 225 2 4 := ⟨RX2, TX2, 5, rfl, by decide, mt (i := 168) (by decide +kernel) (by decide +kernel)⟩
theorem fl_X11_23 : FL RX11 23 11 2 := ⟨RX11, TX11, 12, rfl, by decide, mt (i := 540) (by decide +kernel) (by decide +kernel)⟩
theorem fl_X11_242 : FL RX11 242 6 2 := ⟨RX6, TX6, 7, rfl, by decide, mt (i := 354) (by decide +kernel) (by decide +kernel)⟩
theorem fl_X11_252 : FL RX11 252 1 4 := ⟨RX1, TX1, 10, rfl, by decide, mt (i := 393) (by decide +kernel) (by decide +kernel)⟩
theorem fl_X11_255 : FL RX11 255 6 0 := ⟨RX6, TX6, 7, rfl, by decide, mt (i := 349) (by decide +kernel) (by decide +kernel)⟩
theorem fl_X11_258 : FL RX11 258 1 5 := ⟨RX1, TX1, 10, rfl, by decide, mt (i := 395) (by decide +kernel) (by decide +kernel)⟩
theorem fl_X11_268 : FL RX11 268 1 0 := ⟨RX1, TX1, 10, rfl, by decide, mt (i := 385) (by decide +kernel) (by decide +kernel)⟩
theorem fl_X11_271 : FL RX11 271 1 1 := ⟨RX1, TX1, 10, rfl, by decide, mt (i := 387) (by decide +kernel) (by decide +kernel)⟩
theorem fl_X11_274 : FL RX11 274 1 2 := ⟨RX1, TX1, 10, rfl, by decide, mt (i := 389) (by decide +kernel) (by decide +kernel)⟩
theorem fl_X11_277 : FL RX11 277 6 3 := ⟨RX6, TX6, 7, rfl, by decide, mt (i := 356) (by decide +kernel) (by decide +kernel)⟩
theorem fl_X11_280 : FL RX11 280 6 4 := ⟨RX6, TX6, 7, rfl, by decide, mt (i := 359) (by decide +kernel) (by decide +kernel)⟩
theorem fl_X11_29 : FL RX11 29 11 3 := ⟨RX11, TX11, 12, rfl, by decide, mt (i := 541) (by decide +kernel) (by decide +kernel)⟩
theorem fl_X11_296 : FL RX11 296 0 1 := ⟨RX0, TX0, 6, rfl, by decide, mt (i := 226) (by decide +kernel) (by decide +kernel)⟩
theorem fl_X11_312 : FL RX11 312 1 3 := ⟨RX1, TX1, 10, rfl, by decide, mt (i := 391) (by decide +kernel) (by decide +kernel)⟩
theorem fl_X11_38 : FL RX11 38 11 4 := ⟨RX11, TX11, 12, rfl, by decide, mt (i := 542) (by decide +kernel) (by decide +kernel)⟩
theorem fl_X11_42 : FL RX11 42 11 5 := ⟨RX11, TX11, 12, rfl, by decide, mt (i := 543) (by decide +kernel) (by decide +kernel)⟩
theorem fl_X11_48 : FL RX11 48 11 6 := ⟨RX11, TX11, 12, rfl, by decide, mt (i := 544) (by decide +kernel) (by decide +kernel)⟩
theorem fl_X11_55 : FL RX11 55 11 7 := ⟨RX11, TX11, 12, rfl, by decide, mt (i := 545) (by decide +kernel) (by decide +kernel)⟩
theorem fl_X11_62 : FL RX11 62 11 8 := ⟨RX11, TX11, 12, rfl, by decide, mt (i := 546) (by decide +kernel) (by decide +kernel)⟩
theorem fl_X11_69 : FL RX11 69 11 9 := ⟨RX11, TX11, 12, rfl, by decide, mt (i := 547) (by decide +kernel) (by decide +kernel)⟩
theorem fl_X11_76 : FL RX11 76 11 10 := ⟨RX11, TX11, 12, rfl, by decide, mt (i := 548) (by decide +kernel) (by decide +kernel)⟩
theorem fl_X11_85 : FL RX11 85 11 11 := ⟨RX11, TX11, 12, rfl, by decide, mt (i := 549) (by decide +kernel) (by decide +kernel)⟩
theorem fl_X12_1 : FL RX12 1 12 0 := ⟨RX12, TX12, 30, rfl, by decide, mt (i := 1003) (by decide +kernel) (by decide +kernel)⟩
theorem fl_X12_113 : FL RX12 113 12 14 := ⟨RX12, TX12, 30, rfl, by decide, mt (i := 1017) (by decide +kernel) (by decide +kernel)⟩
theorem fl_X12_116 : FL RX12 116 12 27 := ⟨RX12, TX12, 30, rfl, by decide, mt (i := 1030) (by decide +kernel) (by decide +kernel)⟩
theorem fl_X12_119 : FL RX12 119 12 5 := ⟨RX12, TX12, 30, rfl, by decide, mt (i := 1008) (by decide +kernel) (by decide +kernel)⟩
theorem fl_X12_122 : FL RX12 122 12 7 := ⟨RX12, TX12, 30, rfl, by decide, mt (i := 1010) (by decide +kernel) (by decide +kernel)⟩
theorem fl_X12_128 : FL RX12 128 12 12 := ⟨RX12, TX12, 30, rfl, by decide, mt (i := 1015) (by decide +kernel) (by decide +kernel)⟩
theorem fl_X12_13 : FL RX12 13 12 1 := ⟨RX12, TX12, 30, rfl, by decide, mt (i := 1004) (by decide +kernel) (by decide +kernel)⟩
theorem fl_X12_17 : FL RX12 17 12 2 := ⟨RX12, TX12, 30, rfl, by decide, mt (i := 1005) (by decide +kernel) (by decide +kernel)⟩
theorem fl_X12_178 : FL RX12 178 12 16 := ⟨RX12, TX12, 30, rfl, by decide, mt (i := 1019) (by decide +kernel) (by decide +kernel)⟩
theorem fl_X12_181 : FL RX12 181 12 17 := ⟨RX12, TX12, 30, rfl, by decide, mt (i := 1020) (by decide +kernel) (by decide +kernel)⟩
theorem fl_X12_184 : FL RX12 184 12 18 := ⟨RX12, TX12, 30, rfl, by decide, mt (i := 1021) (by decide +kernel) (by decide +kernel)⟩
theorem fl_X12_20 : FL RX12 20 12 3 := ⟨RX12, TX12, 30, rfl, by decide, mt (i := 1006) (by decide +kernel) (by decide +kernel)⟩
theorem fl_X12_221 : FL RX12 221 12 23 := ⟨RX12, TX12, 30, rfl, by decide, mt (i := 1026) (by decide +kernel) (by decide +kernel)⟩
theorem fl_X12_23 : FL RX12 23 12 4 := ⟨RX12, TX12, 30, rfl, by decide, mt (i := 1007) (by decide +kernel) (by decide +kernel)⟩
theorem fl_X12_26 : FL RX12 26 12 6 := ⟨RX12, TX12, 30, rfl, by decide, mt (i := 1009) (by decide +kernel) (by decide +kernel)⟩
theorem fl_X12_29 : FL RX12 29 12 8 := ⟨RX12, TX12, 30, rfl, by decide, mt (i := 1011) (by decide +kernel) (by decide +kernel)⟩
theorem fl_X12_32 : FL RX12 32 12 11 := ⟨RX12, TX12, 30, rfl, by decide, mt (i := 1014) (by decide +kernel) (by decide +kernel)⟩
theorem fl_X12_35 : FL RX12 35 12 13 := ⟨RX12, TX12, 30, rfl, by decide, mt (i := 1016) (by decide +kernel) (by decide +kernel)⟩
theorem fl_X12_38 : FL RX12 38 12 15 := ⟨RX12, TX12, 30, rfl, by decide, mt (i := 1018) (by decide +kernel) (by decide +kernel)⟩
theorem fl_X12_41 : FL RX12 41 12 19 := ⟨RX12, TX12, 30, rfl, by decide, mt (i := 1022) (by decide +kernel) (by decide +kernel)⟩
theorem fl_X12_44 : FL RX12 44 12 20 := ⟨RX12, TX12, 30, rfl, by decide, mt (i := 1023) (by decide +kernel) (by decide +kernel)⟩
theorem fl_X12_47 : FL RX12 47 12 21 := ⟨RX12, TX12, 30, rfl, by decide, mt (i := 1024) (by decide +kernel) (by decide +kernel)⟩
theorem fl_X12_50 : FL RX12 50 12 22 := ⟨RX12, TX12, 30, rfl, by decide, mt (i := 1025) (by decide +kernel) (by decide +kernel)⟩
theorem fl_X12_53 : FL RX12 53 12 24 := ⟨RX12, TX12, 30, rfl, by decide, mt (i := 1027) (by decide +kernel) (by decide +kernel)⟩
theorem fl_X12_56 : FL RX12 56 12 25 := ⟨RX12, TX12, 30, rfl, by decide, mt (i := 1028) (by decide +kernel) (by decide +kernel)⟩
theorem fl_X12_59 : FL RX12 59 12 26 := ⟨RX12, TX12, 30, rfl, by decide, mt (i := 1029) (by decide +kernel) (by decide +kernel)⟩
theorem fl_X12_62 : FL RX12 62 12 28 := ⟨RX12, TX12, 30, rfl, by decide, mt (i := 1031) (by decide +kernel) (by decide +kernel)⟩
theorem fl_X12_65 : FL RX12 65 12 29 := ⟨RX12, TX12, 30, rfl, by decide, mt (i := 1032) (by decide +kernel) (by decide +kernel)⟩
theorem fl_X12_83 : FL RX12 83 12 9 := ⟨RX12, TX12, 30, rfl, by decide, mt (i := 1012) (by decide +kernel) (by decide +kernel)⟩
theorem fl_X12_86 : FL RX12 86 12 10 := ⟨RX12, TX12, 30, rfl, by decide, mt (i := 1013) (by decide +kernel) (by decide +kernel)⟩
theorem fl_X1_15 : FL RX1 15 1 7 := ⟨RX1, TX1, 10, rfl, by decide, mt (i := 397) (by decide +kernel) (by decide +kernel)⟩
theorem fl_X1_18 : FL RX1 18 1 8 := ⟨RX1, TX1, 10, rfl, by decide, mt (i := 398) (by decide +kernel) (by decide +kernel)⟩
theorem fl_X1_21 : FL RX1 21 1 9 := ⟨RX1, TX1, 10, rfl, by decide, mt (i := 399) (by decide +kernel) (by decide +kernel)⟩
theorem fl_X1_24 : FL RX1 24 1 6 := ⟨RX1, TX1, 10, rfl, by decide, mt (i := 396) (by decide +kernel) (by decide +kernel)⟩
theorem fl_X1_28 : FL RX1 28 6 2 := ⟨RX6, TX6, 7, rfl, by decide, mt (i := 352) (by decide +kernel) (by decide +kernel)⟩
theorem fl_X1_34 : FL RX1 34 6 0 := ⟨RX6, TX6, 7, rfl, by decide, mt (i := 348) (by decide +kernel) (by decide +kernel)⟩
theorem fl_X1_45 : FL RX1 45 6 5 := ⟨RX6, TX6, 7, rfl, by decide, mt (i := 361) (by decide +kernel) (by decide +kernel)⟩
theorem fl_X1_48 : FL RX1 48 6 4 := ⟨RX6, TX6, 7, rfl, by decide, mt (i := 357) (by decide +kernel) (by decide +kernel)⟩
theorem fl_X1_57 : FL RX1 57 1 0 := ⟨RX1, TX1, 10, rfl, by decide, mt (i := 384) (by decide +kernel) (by decide +kernel)⟩
theorem fl_X1_60 : FL RX1 60 6 1 := ⟨RX6, TX6, 7, rfl, by decide, mt (i := 350) (by decide +kernel) (by decide +kernel)⟩
theorem fl_X1_67 : FL RX1 67 1 1 := ⟨RX1, TX1, 10, rfl, by decide, mt (i := 386) (by decide +kernel) (by decide +kernel)⟩
theorem fl_X1_70 : FL RX1 70 1 2 := ⟨RX1, TX1, 10, rfl, by decide, mt (i := 388) (by decide +kernel) (by decide +kernel)⟩
theorem fl_X1_73 : FL RX1 73 1 3 := ⟨RX1, TX1, 10, rfl, by decide, mt (i := 390) (by decide +kernel) (by decide +kernel)⟩
theorem fl_X1_76 : FL RX1 76 1 4 := ⟨RX1, TX1, 10, rfl, by decide, mt (i := 392) (by decide +kernel) (by decide +kernel)⟩
theorem fl_X1_9 : FL RX1 9 1 5 := ⟨RX1, TX1, 10, rfl, by decide, mt (i := 394) (by decide +kernel) (by decide +kernel)⟩
theorem fl_X2_15 : FL RX2 15 2 1 := ⟨RX2, TX2, 5, rfl, by decide, mt (i := 159) (by decide +kernel) (by decide +kernel)⟩
theorem fl_X2_18 : FL RX2 18 2 2 := ⟨RX2, TX2, 5, rfl, by decide, mt (i := 163) (by decide +kernel) (by decide +kernel)⟩
theorem fl_X2_22 : FL RX2 22 2 3 := ⟨RX2, TX2, 5, rfl, by decide, mt (i := 165) (by decide +kernel) (by decide +kernel)⟩
theorem fl_X2_25 : FL RX2 25 2 4 := ⟨RX2, TX2, 5, rfl, by decide, mt (i := 167) (by decide +kernel) (by decide +kernel)⟩
theorem fl_X2_9 : FL RX2 9 2 0 := ⟨RX2, TX2, 5, rfl, by decide, mt (i := 157) (by decide +kernel) (by decide +kernel)⟩
theorem fl_X3_15 : FL RX3 15 3 1 := ⟨RX3, TX3, 2, rfl, by decide, mt (i := 194) (by decide +kernel) (by decide +kernel)⟩
theorem fl_X3_22 : FL RX3 22 3 0 := ⟨RX3, TX3, 2, rfl, by decide, mt (i := 192) (by decide +kernel) (by decide +kernel)⟩
theorem fl_X4_15 : FL RX4 15 4 6 := ⟨RX4, TX4, 8, rfl, by decide, mt (i := 127) (by decide +kernel) (by decide +kernel)⟩
theorem fl_X4_18 : FL RX4 18 4 7 := ⟨RX4, TX4, 8, rfl, by decide, mt (i := 130) (by decide +kernel) (by decide +kernel)⟩
theorem fl_X4_21 : FL RX4 21 4 0 := ⟨RX4, TX4, 8, rfl, by decide, mt (i := 111) (by decide +kernel) (by decide +kernel)⟩
theorem fl_X4_25 : FL RX4 25 4 1 := ⟨RX4, TX4, 8, rfl, by decide, mt (i := 113) (by decide +kernel) (by decide +kernel)⟩
theorem fl_X4_40 : FL RX4 40 4 3 := ⟨RX4, TX4, 8, rfl, by decide, mt (i := 121) (by decide +kernel) (by decide +kernel)⟩
theorem fl_X4_43 : FL RX4 43 4 4 := ⟨RX4, TX4, 8, rfl, by decide, mt (i := 123) (by decide +kernel) (by decide +kernel)⟩
theorem fl_X4_49 : FL RX4 49 4 2 := ⟨RX4, TX4, 8, rfl, by decide, mt (i := 120) (by decide +kernel) (by decide +kernel)⟩
theorem fl_X4_9 : FL RX4 9 4 5 := ⟨RX4, TX4, 8, rfl, by decide, mt (i := 125) (by decide +kernel) (by decide +kernel)⟩
theorem fl_X5_14 : FL RX5 14 5 0 := ⟨RX5, TX5, 9, rfl, by decide, mt (i := 313) (by decide +kernel) (by decide +kernel)⟩
theorem fl_X5_18 : FL RX5 18 5 1 := ⟨RX5, TX5, 9, rfl, by decide, mt (i := 314) (by decide +kernel) (by decide +kernel)⟩
theorem fl_X5_22 : FL RX5 22 5 2 := ⟨RX5, TX5, 9, rfl, by decide, mt (i := 315) (by decide +kernel) (by decide +kernel)⟩
theorem fl_X5_25 : FL RX5 25 5 3 := ⟨RX5, TX5, 9, rfl, by decide, mt (i := 316) (by decide +kernel) (by decide +kernel)⟩
theorem fl_X5_28 : FL RX5 28 5 4 := ⟨RX5, TX5, 9, rfl, by decide, mt (i := 317) (by decide +kernel) (by decide +kernel)⟩
theorem fl_X5_31 : FL RX5 31 5 5 := ⟨RX5, TX5, 9, rfl, by decide, mt (i := 318) (by decide +kernel) (by decide +kernel)⟩
theorem fl_X5_34 : FL RX5 34 5 6 := ⟨RX5, TX5, 9, rfl, by decide, mt (i := 319) (by decide +kernel) (by decide +kernel)⟩
theorem fl_X5_37 : FL RX5 37 5 7 := ⟨RX5, TX5, 9, rfl, by decide, mt (i := 320) (by decide +kernel) (by decide +kernel)⟩
theorem fl_X5_44 : FL RX5 44 5 8 := ⟨RX5, TX5, 9, rfl, by decide, mt (i := 321) (by decide +kernel) (by decide +kernel)⟩
theorem fl_X5_63 : FL RX5 63 7 0 := ⟨RX7, TX7, 12, rfl, by decide, mt (i := 272) (by decide +kernel) (by decide +kernel)⟩
theorem fl_X5_65 : FL RX5 65 7 1 := ⟨RX7, TX7, 12, rfl, by decide, mt (i := 274) (by decide +kernel) (by decide +kernel)⟩
theorem fl_X5_67 : FL RX5 67 7 2 := ⟨RX7, TX7, 12, rfl, by decide, mt (i := 276) (by decide +kernel) (by decide +kernel)⟩
theorem fl_X5_69 : FL RX5 69 7 3 := ⟨RX7, TX7, 12, rfl, by decide, mt (i := 278) (by decide +kernel) (by decide +kernel)⟩
theorem fl_X6_15 : FL RX6 15 6 6 := ⟨RX6, TX6, 7, rfl, by decide, mt (i := 362) (by decide +kernel) (by decide +kernel)⟩
theorem fl_X6_22 : FL RX6 22 6 0 := ⟨RX6, TX6, 7, rfl, by decide, mt (i := 347) (by decide +kernel) (by decide +kernel)⟩
theorem fl_X6_26 : FL RX6 26 2 2 := ⟨RX2, TX2, 5, rfl, by decide, mt (i := 162) (by decide +kernel) (by decide +kernel)⟩
theorem fl_X6_35 : FL RX6 35 6 2 := ⟨RX6, TX6, 7, rfl, by decide, mt (i := 353) (by decide +kernel) (by decide +kernel)⟩
theorem fl_X6_37 : FL RX6 37 2 1 := ⟨RX2, TX2, 5, rfl, by decide, mt (i := 160) (by decide +kernel) (by decide +kernel)⟩
theorem fl_X6_40 : FL RX6 40 4 7 := ⟨RX4, TX4, 8, rfl, by decide, mt (i := 131) (by decide +kernel) (by decide +kernel)⟩
theorem fl_X6_53 : FL RX6 53 6 3 := ⟨RX6, TX6, 7, rfl, by decide, mt (i := 355) (by decide +kernel) (by decide +kernel)⟩
theorem fl_X6_56 : FL RX6 56 4 1 := ⟨RX4, TX4, 8, rfl, by decide, mt (i := 115) (by decide +kernel) (by decide +kernel)⟩
theorem fl_X6_62 : FL RX6 62 6 1 := ⟨RX6, TX6, 7, rfl, by decide, mt (i := 351) (by decide +kernel) (by decide +kernel)⟩
theorem fl_X6_64 : FL RX6 64 4 6 := ⟨RX4, TX4, 8, rfl, by decide, mt (i := 128) (by decide +kernel) (by decide +kernel)⟩
theorem fl_X6_71 : FL RX6 71 4 2 := ⟨RX4, TX4, 8, rfl, by decide, mt (i := 118) (by decide +kernel) (by decide +kernel)⟩
theorem fl_X6_74 : FL RX6 74 6 4 := ⟨RX6, TX6, 7, rfl, by decide, mt (i := 358) (by decide +kernel) (by decide +kernel)⟩
theorem fl_X6_9 : FL RX6 9 6 5 := ⟨RX6, TX6, 7, rfl, by decide, mt (i := 360) (by decide +kernel) (by decide +kernel)⟩
theorem fl_X7_11 : FL RX7 11 7 4 := ⟨RX7, TX7, 12, rfl, by decide, mt (i := 280) (by decide +kernel) (by decide +kernel)⟩
theorem fl_X7_15 : FL RX7 15 7 5 := ⟨RX7, TX7, 12, rfl, by decide, mt (i := 281) (by decide +kernel) (by decide +kernel)⟩
theorem fl_X7_18 : FL RX7 18 7 6 := ⟨RX7, TX7, 12, rfl, by decide, mt (i := 282) (by decide +kernel) (by decide +kernel)⟩
theorem fl_X7_21 : FL RX7 21 7 7 := ⟨RX7, TX7, 12, rfl, by decide, mt (i := 283) (by decide +kernel) (by decide +kernel)⟩
theorem fl_X7_24 : FL RX7 24 7 8 := ⟨RX7, TX7, 12, rfl, by decide, mt (i := 284) (by decide +kernel) (by decide +kernel)⟩
theorem fl_X7_27 : FL RX7 27 7 11 := ⟨RX7, TX7, 12, rfl, by decide, mt (i := 287) (by decide +kernel) (by decide +kernel)⟩
theorem fl_X7_37 : FL RX7 37 7 10 := ⟨RX7, TX7, 12, rfl, by decide, mt (i := 286) (by decide +kernel) (by decide +kernel)⟩
theorem fl_X7_46 : FL RX7 46 7 9 := ⟨RX7, TX7, 12, rfl, by decide, mt (i := 285) (by decide +kernel) (by decide +kernel)⟩
theorem fl_X7_68 : FL RX7 68 7 0 := ⟨RX7, TX7, 12, rfl, by decide, mt (i := 273) (by decide +kernel) (by decide +kernel)⟩
theorem fl_X7_71 : FL RX7 71 7 1 := ⟨RX7, TX7, 12, rfl, by decide, mt (i := 275) (by decide +kernel) (by decide +kernel)⟩
theorem fl_X7_74 : FL RX7 74 7 2 := ⟨RX7, TX7, 12, rfl, by decide, mt (i := 277) (by decide +kernel) (by decide +kernel)⟩
theorem fl_X7_77 : FL RX7 77 7 3 := ⟨RX7, TX7, 12, rfl, by decide, mt (i := 279) (by decide +kernel) (by decide +kernel)⟩
theorem fl_X8_15 : FL RX8 15 8 2 := ⟨RX8, TX8, 5, rfl, by decide, mt (i := 89) (by decide +kernel) (by decide +kernel)⟩
theorem fl_X8_19 : FL RX8 19 8 0 := ⟨RX8, TX8, 5, rfl, by decide, mt (i := 87) (by decide +kernel) (by decide +kernel)⟩
theorem fl_X8_28 : FL RX8 28 8 3 := ⟨RX8, TX8, 5, rfl, by decide, mt (i := 90) (by decide +kernel) (by decide +kernel)⟩
theorem fl_X8_31 : FL RX8 31 8 4 := ⟨RX8, TX8, 5, rfl, by decide, mt (i := 91) (by decide +kernel) (by decide +kernel)⟩
theorem fl_X8_9 : FL RX8 9 8 1 := ⟨RX8, TX8, 5, rfl, by decide, mt (i := 88) (by decide +kernel) (by decide +kernel)⟩
theorem fl_X9_15 : FL RX9 15 9 1 := ⟨RX9, TX9, 3, rfl, by decide, mt (i := 251) (by decide +kernel) (by decide +kernel)⟩
theorem fl_X9_18 : FL RX9 18 9 2 := ⟨RX9, TX9, 3, rfl, by decide, mt (i := 252) (by decide +kernel) (by decide +kernel)⟩
theorem fl_X9_9 : FL RX9 9 9 0 := ⟨RX9, TX9, 3, rfl, by decide, mt (i := 250) (by decide +kernel) (by decide +kernel)⟩
theorem ft_0_0 : FT 0 0 .int false := ⟨RX0, TX0, 6, rfl, tX0_ok 0 (by decide), rfl⟩
theorem ft_0_1 : FT 0 1 .int false := ⟨RX0, TX0, 6, rfl, tX0_ok 1 (by decide), rfl⟩
theorem ft_10_0 : FT 10 0 .int false := ⟨RX10, TX10, 3, rfl, tX10_ok 0 (by decide), rfl⟩
theorem ft_11_1 : FT 11 1 (.object "TakenNumbers$Port") false := ⟨RX11, TX11, 12, rfl, tX11_ok 1 (by decide), rfl⟩
theorem ft_11_2 : FT 11 2 (.object "TakenNumbers$Port") false := ⟨RX11, TX11, 12, rfl, tX11_ok 2 (by decide), rfl⟩
theorem ft_12_0 : FT 12 0 .int false := ⟨RX12, TX12, 30, rfl, tX12_ok 0 (by decide), rfl⟩
theorem ft_12_10 : FT 12 10 .int false := ⟨RX12, TX12, 30, rfl, tX12_ok 10 (by decide), rfl⟩
theorem ft_12_12 : FT 12 12 .int false := ⟨RX12, TX12, 30, rfl, tX12_ok 12 (by decide), rfl⟩
theorem ft_12_14 : FT 12 14 .int false := ⟨RX12, TX12, 30, rfl, tX12_ok 14 (by decide), rfl⟩
theorem ft_12_16 : FT 12 16 .int false := ⟨RX12, TX12, 30, rfl, tX12_ok 16 (by decide), rfl⟩
theorem ft_12_17 : FT 12 17 .int false := ⟨RX12, TX12, 30, rfl, tX12_ok 17 (by decide), rfl⟩
theorem ft_12_18 : FT 12 18 .int false := ⟨RX12, TX12, 30, rfl, tX12_ok 18 (by decide), rfl⟩
theorem ft_12_23 : FT 12 23 .int false := ⟨RX12, TX12, 30, rfl, tX12_ok 23 (by decide), rfl⟩
theorem ft_12_27 : FT 12 27 .int false := ⟨RX12, TX12, 30, rfl, tX12_ok 27 (by decide), rfl⟩
theorem ft_12_5 : FT 12 5 .int false := ⟨RX12, TX12, 30, rfl, tX12_ok 5 (by decide), rfl⟩
theorem ft_12_7 : FT 12 7 .int false := ⟨RX12, TX12, 30, rfl, tX12_ok 7 (by decide), rfl⟩
theorem ft_12_9 : FT 12 9 .int false := ⟨RX12, TX12, 30, rfl, tX12_ok 9 (by decide), rfl⟩
theorem ft_1_0 : FT 1 0 .int false := ⟨RX1, TX1, 10, rfl, tX1_ok 0 (by decide), rfl⟩
theorem ft_1_1 : FT 1 1 .int false := ⟨RX1, TX1, 10, rfl, tX1_ok 1 (by decide), rfl⟩
theorem ft_1_2 : FT 1 2 .int false := ⟨RX1, TX1, 10, rfl, tX1_ok 2 (by decide), rfl⟩
theorem ft_1_3 : FT 1 3 .int false := ⟨RX1, TX1, 10, rfl, tX1_ok 3 (by decide), rfl⟩
theorem ft_1_4 : FT 1 4 .int false := ⟨RX1, TX1, 10, rfl, tX1_ok 4 (by decide), rfl⟩
theorem ft_2_2 : FT 2 2 .int false := ⟨RX2, TX2, 5, rfl, tX2_ok 2 (by decide), rfl⟩
theorem ft_2_3 : FT 2 3 .int false := ⟨RX2, TX2, 5, rfl, tX2_ok 3 (by decide), rfl⟩
theorem ft_2_4 : FT 2 4 .boolean false := ⟨RX2, TX2, 5, rfl, tX2_ok 4 (by decide), rfl⟩
theorem ft_3_0 : FT 3 0 .int false := ⟨RX3, TX3, 2, rfl, tX3_ok 0 (by decide), rfl⟩
theorem ft_4_0 : FT 4 0 .int false := ⟨RX4, TX4, 8, rfl, tX4_ok 0 (by decide), rfl⟩
theorem ft_4_1 : FT 4 1 .int false := ⟨RX4, TX4, 8, rfl, tX4_ok 1 (by decide), rfl⟩
theorem ft_4_2 : FT 4 2 .int false := ⟨RX4, TX4, 8, rfl, tX4_ok 2 (by decide), rfl⟩
theorem ft_4_3 : FT 4 3 .int false := ⟨RX4, TX4, 8, rfl, tX4_ok 3 (by decide), rfl⟩
theorem ft_4_4 : FT 4 4 .int false := ⟨RX4, TX4, 8, rfl, tX4_ok 4 (by decide), rfl⟩
theorem ft_5_8 : FT 5 8 .int false := ⟨RX5, TX5, 9, rfl, tX5_ok 8 (by decide), rfl⟩
theorem ft_6_0 : FT 6 0 .int false := ⟨RX6, TX6, 7, rfl, tX6_ok 0 (by decide), rfl⟩
theorem ft_6_1 : FT 6 1 .int false := ⟨RX6, TX6, 7, rfl, tX6_ok 1 (by decide), rfl⟩
theorem ft_6_2 : FT 6 2 .int false := ⟨RX6, TX6, 7, rfl, tX6_ok 2 (by decide), rfl⟩
theorem ft_6_3 : FT 6 3 .int false := ⟨RX6, TX6, 7, rfl, tX6_ok 3 (by decide), rfl⟩
theorem ft_6_4 : FT 6 4 .int false := ⟨RX6, TX6, 7, rfl, tX6_ok 4 (by decide), rfl⟩
theorem ft_7_0 : FT 7 0 .int false := ⟨RX7, TX7, 12, rfl, tX7_ok 0 (by decide), rfl⟩
theorem ft_7_1 : FT 7 1 .int false := ⟨RX7, TX7, 12, rfl, tX7_ok 1 (by decide), rfl⟩
theorem ft_7_10 : FT 7 10 .int false := ⟨RX7, TX7, 12, rfl, tX7_ok 10 (by decide), rfl⟩
theorem ft_7_11 : FT 7 11 .int false := ⟨RX7, TX7, 12, rfl, tX7_ok 11 (by decide), rfl⟩
theorem ft_7_2 : FT 7 2 .int false := ⟨RX7, TX7, 12, rfl, tX7_ok 2 (by decide), rfl⟩
theorem ft_7_3 : FT 7 3 .int false := ⟨RX7, TX7, 12, rfl, tX7_ok 3 (by decide), rfl⟩
theorem ft_7_9 : FT 7 9 .int false := ⟨RX7, TX7, 12, rfl, tX7_ok 9 (by decide), rfl⟩
theorem ft_8_0 : FT 8 0 .int false := ⟨RX8, TX8, 5, rfl, tX8_ok 0 (by decide), rfl⟩
theorem ft_8_3 : FT 8 3 .int false := ⟨RX8, TX8, 5, rfl, tX8_ok 3 (by decide), rfl⟩
theorem ft_8_4 : FT 8 4 .boolean false := ⟨RX8, TX8, 5, rfl, tX8_ok 4 (by decide), rfl⟩
theorem ft_9_0 : FT 9 0 (.array .int) false := ⟨RX9, TX9, 3, rfl, tX9_ok 0 (by decide), rfl⟩
theorem ft_9_1 : FT 9 1 (.array .int) false := ⟨RX9, TX9, 3, rfl, tX9_ok 1 (by decide), rfl⟩
theorem ft_9_2 : FT 9 2 .int false := ⟨RX9, TX9, 3, rfl, tX9_ok 2 (by decide), rfl⟩
theorem lc_J6_bitCount_0f7a4 : LC yJ6_bitCount_0f7a4 bJ6_bitCount_0f7a4 1 (some .int) 1 := ⟨mt (i := 776) (by first | rfl | decide +kernel) (by decide +kernel), mt (i := 71) (by decide +kernel) (by decide +kernel), ⟨by decide +kernel, by decide +kernel, by decide +kernel⟩, by decide⟩
theorem lc_X0_append : LC yX0_append bX0_append 2 (some .boolean) 1 := ⟨mt (i := 919) (by first | rfl | decide +kernel) (by decide +kernel), mt (i := 59) (by decide +kernel) (by decide +kernel), ⟨by decide +kernel, by decide +kernel, by decide +kernel⟩, by decide⟩
theorem lc_X0_inTwoRows : LC yX0_inTwoRows bX0_inTwoRows 4 (some .int) 0 := ⟨mt (i := 954) (by first | rfl | decide +kernel) (by decide +kernel), mt (i := 59) (by decide +kernel) (by decide +kernel), ⟨by decide +kernel, by decide +kernel, by decide +kernel⟩, by decide⟩
theorem lc_X0_read : LC yX0_read bX0_read 5 none 2 := ⟨mt (i := 931) (by first | rfl | decide +kernel) (by decide +kernel), mt (i := 59) (by decide +kernel) (by decide +kernel), ⟨by decide +kernel, by decide +kernel, by decide +kernel⟩, by decide⟩
theorem lc_X0_readFrom : LC yX0_readFrom bX0_readFrom 4 none 2 := ⟨mt (i := 937) (by first | rfl | decide +kernel) (by decide +kernel), mt (i := 59) (by decide +kernel) (by decide +kernel), ⟨by decide +kernel, by decide +kernel, by decide +kernel⟩, by decide⟩
theorem lc_X0_surePerson : LC yX0_surePerson bX0_surePerson 2 (some .int) 1 := ⟨mt (i := 942) (by first | rfl | decide +kernel) (by decide +kernel), mt (i := 59) (by decide +kernel) (by decide +kernel), ⟨by decide +kernel, by decide +kernel, by decide +kernel⟩, by decide⟩
theorem lc_X10_append : LC yX10_append bX10_append 3 (some .boolean) 2 := ⟨mt (i := 659) (by first | rfl | decide +kernel) (by decide +kernel), mt (i := 58) (by decide +kernel) (by decide +kernel), ⟨by decide +kernel, by decide +kernel, by decide +kernel⟩, by decide⟩
theorem lc_X10_areSaying : LC yX10_areSaying bX10_areSaying 3 (some .boolean) 1 := ⟨mt (i := 683) (by first | rfl | decide +kernel) (by decide +kernel), mt (i := 58) (by decide +kernel) (by decide +kernel), ⟨by decide +kernel, by decide +kernel, by decide +kernel⟩, by decide⟩
theorem lc_X10_price : LC yX10_price bX10_price 4 (some .int) 1 := ⟨mt (i := 678) (by first | rfl | decide +kernel) (by decide +kernel), mt (i := 58) (by decide +kernel) (by decide +kernel), ⟨by decide +kernel, by decide +kernel, by decide +kernel⟩, by decide⟩
theorem lc_X10_set : LC yX10_set bX10_set 3 (some .int) 0 := ⟨mt (i := 652) (by first | rfl | decide +kernel) (by decide +kernel), mt (i := 58) (by decide +kernel) (by decide +kernel), ⟨by decide +kernel, by decide +kernel, by decide +kernel⟩, by decide⟩
theorem lc_X10_sum : LC yX10_sum bX10_sum 3 (some .int) 0 := ⟨mt (i := 671) (by first | rfl | decide +kernel) (by decide +kernel), mt (i := 58) (by decide +kernel) (by decide +kernel), ⟨by decide +kernel, by decide +kernel, by decide +kernel⟩, by decide⟩
theorem lc_X11_canStand : LC yX11_canStand bX11_canStand 2 (some .boolean) 2 := ⟨mt (i := 655) (by first | rfl | decide +kernel) (by decide +kernel), mt (i := 52) (by decide +kernel) (by decide +kernel), ⟨by decide +kernel, by decide +kernel, by decide +kernel⟩, by decide⟩
theorem lc_X11_countsAs : LC yX11_countsAs bX11_countsAs 2 (some .int) 2 := ⟨mt (i := 674) (by first | rfl | decide +kernel) (by decide +kernel), mt (i := 52) (by decide +kernel) (by decide +kernel), ⟨by decide +kernel, by decide +kernel, by decide +kernel⟩, by decide⟩
theorem lc_X11_firstBit : LC yX11_firstBit bX11_firstBit 2 (some .int) 1 := ⟨mt (i := 946) (by first | rfl | decide +kernel) (by decide +kernel), mt (i := 52) (by decide +kernel) (by decide +kernel), ⟨by decide +kernel, by decide +kernel, by decide +kernel⟩, by decide⟩
theorem lc_X11_hasBit : LC yX11_hasBit bX11_hasBit 2 (some .boolean) 2 := ⟨mt (i := 606) (by first | rfl | decide +kernel) (by decide +kernel), mt (i := 52) (by decide +kernel) (by decide +kernel), ⟨by decide +kernel, by decide +kernel, by decide +kernel⟩, by decide⟩
theorem lc_X11_holderOf : LC yX11_holderOf bX11_holderOf 3 (some .int) 2 := ⟨mt (i := 603) (by first | rfl | decide +kernel) (by decide +kernel), mt (i := 52) (by decide +kernel) (by decide +kernel), ⟨by decide +kernel, by decide +kernel, by decide +kernel⟩, by decide⟩
theorem lc_X11_lastUse : LC yX11_lastUse bX11_lastUse 1 (some .int) 1 := ⟨mt (i := 686) (by first | rfl | decide +kernel) (by decide +kernel), mt (i := 52) (by decide +kernel) (by decide +kernel), ⟨by decide +kernel, by decide +kernel, by decide +kernel⟩, by decide⟩
theorem lc_X11_sceneNow : LC yX11_sceneNow bX11_sceneNow 1 (some (.object "TakenNumbers$Scene")) 0 := ⟨mt (i := 615) (by first | rfl | decide +kernel) (by decide +kernel), mt (i := 52) (by decide +kernel) (by decide +kernel), ⟨by decide +kernel, by decide +kernel, by decide +kernel⟩, by decide⟩
theorem lc_X11_together : LC yX11_together bX11_together 6 (some .int) 1 := ⟨mt (i := 630) (by first | rfl | decide +kernel) (by decide +kernel), mt (i := 52) (by decide +kernel) (by decide +kernel), ⟨by decide +kernel, by decide +kernel, by decide +kernel⟩, by decide⟩
theorem lc_X11_usedNow : LC yX11_usedNow bX11_usedNow 3 (some .int) 2 := ⟨mt (i := 717) (by first | rfl | decide +kernel) (by decide +kernel), mt (i := 52) (by decide +kernel) (by decide +kernel), ⟨by decide +kernel, by decide +kernel, by decide +kernel⟩, by decide⟩
theorem lc_X12_areNumbers : LC yX12_areNumbers bX12_areNumbers 5 (some .boolean) 1 := ⟨mt (i := 1122) (by first | rfl | decide +kernel) (by decide +kernel), mt (i := 69) (by decide +kernel) (by decide +kernel), ⟨by decide +kernel, by decide +kernel, by decide +kernel⟩, by decide⟩
theorem lc_X12_begin : LC yX12_begin bX12_begin 2 none 0 := ⟨mt (i := 998) (by first | rfl | decide +kernel) (by decide +kernel), mt (i := 69) (by decide +kernel) (by decide +kernel), ⟨by decide +kernel, by decide +kernel, by decide +kernel⟩, by decide⟩
theorem lc_X12_bestOf : LC yX12_bestOf bX12_bestOf 9 (some .int) 3 := ⟨mt (i := 1221) (by first | rfl | decide +kernel) (by decide +kernel), mt (i := 69) (by decide +kernel) (by decide +kernel), ⟨by decide +kernel, by decide +kernel, by decide +kernel⟩, by decide⟩
theorem lc_X12_bits : LC yX12_bits bX12_bits 3 (some .int) 1 := ⟨mt (i := 1255) (by first | rfl | decide +kernel) (by decide +kernel), mt (i := 69) (by decide +kernel) (by decide +kernel), ⟨by decide +kernel, by decide +kernel, by decide +kernel⟩, by decide⟩
theorem lc_X12_by : LC yX12_by bX12_by 7 (some .int) 4 := ⟨mt (i := 1236) (by first | rfl | decide +kernel) (by decide +kernel), mt (i := 69) (by decide +kernel) (by decide +kernel), ⟨by decide +kernel, by decide +kernel, by decide +kernel⟩, by decide⟩
theorem lc_X12_counts : LC yX12_counts bX12_counts 2 (some .int) 2 := ⟨mt (i := 1186) (by first | rfl | decide +kernel) (by decide +kernel), mt (i := 69) (by decide +kernel) (by decide +kernel), ⟨by decide +kernel, by decide +kernel, by decide +kernel⟩, by decide⟩
theorem lc_X12_dawn : LC yX12_dawn bX12_dawn 3 none 1 := ⟨mt (i := 1002) (by first | rfl | decide +kernel) (by decide +kernel), mt (i := 69) (by decide +kernel) (by decide +kernel), ⟨by decide +kernel, by decide +kernel, by decide +kernel⟩, by decide⟩
theorem lc_X12_has : LC yX12_has bX12_has 2 (some .boolean) 2 := ⟨mt (i := 1205) (by first | rfl | decide +kernel) (by decide +kernel), mt (i := 69) (by decide +kernel) (by decide +kernel), ⟨by decide +kernel, by decide +kernel, by decide +kernel⟩, by decide⟩
theorem lc_X12_hasBest : LC yX12_hasBest bX12_hasBest 4 (some .boolean) 3 := ⟨mt (i := 1281) (by first | rfl | decide +kernel) (by decide +kernel), mt (i := 69) (by decide +kernel) (by decide +kernel), ⟨by decide +kernel, by decide +kernel, by decide +kernel⟩, by decide⟩
theorem lc_X12_in : LC yX12_in bX12_in 6 (some .boolean) 3 := ⟨mt (i := 1102) (by first | rfl | decide +kernel) (by decide +kernel), mt (i := 69) (by decide +kernel) (by decide +kernel), ⟨by decide +kernel, by decide +kernel, by decide +kernel⟩, by decide⟩
theorem lc_X12_isAhead : LC yX12_isAhead bX12_isAhead 5 (some .boolean) 2 := ⟨mt (i := 1299) (by first | rfl | decide +kernel) (by decide +kernel), mt (i := 69) (by decide +kernel) (by decide +kernel), ⟨by decide +kernel, by decide +kernel, by decide +kernel⟩, by decide⟩
theorem lc_X12_isFigure : LC yX12_isFigure bX12_isFigure 1 (some .boolean) 0 := ⟨mt (i := 1126) (by first | rfl | decide +kernel) (by decide +kernel), mt (i := 69) (by decide +kernel) (by decide +kernel), ⟨by decide +kernel, by decide +kernel, by decide +kernel⟩, by decide⟩
theorem lc_X12_isSaying : LC yX12_isSaying bX12_isSaying 5 (some .boolean) 0 := ⟨mt (i := 1198) (by first | rfl | decide +kernel) (by decide +kernel), mt (i := 69) (by decide +kernel) (by decide +kernel), ⟨by decide +kernel, by decide +kernel, by decide +kernel⟩, by decide⟩
theorem lc_X12_keepDay : LC yX12_keepDay bX12_keepDay 2 none 0 := ⟨mt (i := 1209) (by first | rfl | decide +kernel) (by decide +kernel), mt (i := 69) (by decide +kernel) (by decide +kernel), ⟨by decide +kernel, by decide +kernel, by decide +kernel⟩, by decide⟩
theorem lc_X12_laid : LC yX12_laid bX12_laid 3 (some .int) 2 := ⟨mt (i := 1230) (by first | rfl | decide +kernel) (by decide +kernel), mt (i := 69) (by decide +kernel) (by decide +kernel), ⟨by decide +kernel, by decide +kernel, by decide +kernel⟩, by decide⟩
theorem lc_X12_layOrder : LC yX12_layOrder bX12_layOrder 6 none 0 := ⟨mt (i := 1295) (by first | rfl | decide +kernel) (by decide +kernel), mt (i := 69) (by decide +kernel) (by decide +kernel), ⟨by decide +kernel, by decide +kernel, by decide +kernel⟩, by decide⟩
theorem lc_X12_layTable : LC yX12_layTable bX12_layTable 9 none 2 := ⟨mt (i := 1225) (by first | rfl | decide +kernel) (by decide +kernel), mt (i := 69) (by decide +kernel) (by decide +kernel), ⟨by decide +kernel, by decide +kernel, by decide +kernel⟩, by decide⟩
theorem lc_X12_mayOf : LC yX12_mayOf bX12_mayOf 2 (some .int) 1 := ⟨mt (i := 1154) (by first | rfl | decide +kernel) (by decide +kernel), mt (i := 69) (by decide +kernel) (by decide +kernel), ⟨by decide +kernel, by decide +kernel, by decide +kernel⟩, by decide⟩
theorem lc_X12_noNumber : LC yX12_noNumber bX12_noNumber 2 (some .boolean) 1 := ⟨mt (i := 1142) (by first | rfl | decide +kernel) (by decide +kernel), mt (i := 69) (by decide +kernel) (by decide +kernel), ⟨by decide +kernel, by decide +kernel, by decide +kernel⟩, by decide⟩
theorem lc_X12_noOne : LC yX12_noOne bX12_noOne 2 (some .boolean) 1 := ⟨mt (i := 1150) (by first | rfl | decide +kernel) (by decide +kernel), mt (i := 69) (by decide +kernel) (by decide +kernel), ⟨by decide +kernel, by decide +kernel, by decide +kernel⟩, by decide⟩
theorem lc_X12_noSet : LC yX12_noSet bX12_noSet 2 (some .boolean) 1 := ⟨mt (i := 1323) (by first | rfl | decide +kernel) (by decide +kernel), mt (i := 69) (by decide +kernel) (by decide +kernel), ⟨by decide +kernel, by decide +kernel, by decide +kernel⟩, by decide⟩
theorem lc_X12_ofOne : LC yX12_ofOne bX12_ofOne 5 (some .int) 1 := ⟨mt (i := 1158) (by first | rfl | decide +kernel) (by decide +kernel), mt (i := 69) (by decide +kernel) (by decide +kernel), ⟨by decide +kernel, by decide +kernel, by decide +kernel⟩, by decide⟩
theorem lc_X12_priceOf : LC yX12_priceOf bX12_priceOf 3 (some .int) 2 := ⟨mt (i := 1194) (by first | rfl | decide +kernel) (by decide +kernel), mt (i := 69) (by decide +kernel) (by decide +kernel), ⟨by decide +kernel, by decide +kernel, by decide +kernel⟩, by decide⟩
theorem lc_X12_priceOfWords : LC yX12_priceOfWords bX12_priceOfWords 3 (some .int) 0 := ⟨mt (i := 1190) (by first | rfl | decide +kernel) (by decide +kernel), mt (i := 69) (by decide +kernel) (by decide +kernel), ⟨by decide +kernel, by decide +kernel, by decide +kernel⟩, by decide⟩
theorem lc_X12_readAll : LC yX12_readAll bX12_readAll 4 (some .int) 0 := ⟨mt (i := 1114) (by first | rfl | decide +kernel) (by decide +kernel), mt (i := 69) (by decide +kernel) (by decide +kernel), ⟨by decide +kernel, by decide +kernel, by decide +kernel⟩, by decide⟩
theorem lc_X12_readItem : LC yX12_readItem bX12_readItem 4 (some .boolean) 2 := ⟨mt (i := 1118) (by first | rfl | decide +kernel) (by decide +kernel), mt (i := 69) (by decide +kernel) (by decide +kernel), ⟨by decide +kernel, by decide +kernel, by decide +kernel⟩, by decide⟩
theorem lc_X12_readingsBy : LC yX12_readingsBy bX12_readingsBy 8 (some .int) 2 := ⟨mt (i := 1348) (by first | rfl | decide +kernel) (by decide +kernel), mt (i := 69) (by decide +kernel) (by decide +kernel), ⟨by decide +kernel, by decide +kernel, by decide +kernel⟩, by decide⟩
theorem lc_X12_silent : LC yX12_silent bX12_silent 1 (some .int) 0 := ⟨mt (i := 1273) (by first | rfl | decide +kernel) (by decide +kernel), mt (i := 69) (by decide +kernel) (by decide +kernel), ⟨by decide +kernel, by decide +kernel, by decide +kernel⟩, by decide⟩
theorem lc_X12_stuckOf : LC yX12_stuckOf bX12_stuckOf 8 (some .int) 3 := ⟨mt (i := 1277) (by first | rfl | decide +kernel) (by decide +kernel), mt (i := 69) (by decide +kernel) (by decide +kernel), ⟨by decide +kernel, by decide +kernel, by decide +kernel⟩, by decide⟩
theorem lc_X12_sumOfWords : LC yX12_sumOfWords bX12_sumOfWords 3 (some .int) 0 := ⟨mt (i := 1183) (by first | rfl | decide +kernel) (by decide +kernel), mt (i := 69) (by decide +kernel) (by decide +kernel), ⟨by decide +kernel, by decide +kernel, by decide +kernel⟩, by decide⟩
theorem lc_X12_take : LC yX12_take bX12_take 4 none 2 := ⟨mt (i := 1213) (by first | rfl | decide +kernel) (by decide +kernel), mt (i := 69) (by decide +kernel) (by decide +kernel), ⟨by decide +kernel, by decide +kernel, by decide +kernel⟩, by decide⟩
theorem lc_X12_taken : LC yX12_taken bX12_taken 3 (some .int) 0 := ⟨mt (i := 1162) (by first | rfl | decide +kernel) (by decide +kernel), mt (i := 69) (by decide +kernel) (by decide +kernel), ⟨by decide +kernel, by decide +kernel, by decide +kernel⟩, by decide⟩
theorem lc_X12_usedSet : LC yX12_usedSet bX12_usedSet 1 (some .int) 0 := ⟨mt (i := 1240) (by first | rfl | decide +kernel) (by decide +kernel), mt (i := 69) (by decide +kernel) (by decide +kernel), ⟨by decide +kernel, by decide +kernel, by decide +kernel⟩, by decide⟩
theorem lc_X12_waysOf : LC yX12_waysOf bX12_waysOf 7 (some .int) 3 := ⟨mt (i := 1327) (by first | rfl | decide +kernel) (by decide +kernel), mt (i := 69) (by decide +kernel) (by decide +kernel), ⟨by decide +kernel, by decide +kernel, by decide +kernel⟩, by decide⟩
theorem lc_X1_ableAt : LC yX1_ableAt bX1_ableAt 8 (some .int) 4 := ⟨mt (i := 846) (by first | rfl | decide +kernel) (by decide +kernel), mt (i := 64) (by decide +kernel) (by decide +kernel), ⟨by decide +kernel, by decide +kernel, by decide +kernel⟩, by decide⟩
theorem lc_X1_cornerBy : LC yX1_cornerBy bX1_cornerBy 6 (some .boolean) 2 := ⟨mt (i := 963) (by first | rfl | decide +kernel) (by decide +kernel), mt (i := 64) (by decide +kernel) (by decide +kernel), ⟨by decide +kernel, by decide +kernel, by decide +kernel⟩, by decide⟩
theorem lc_X1_denyOne : LC yX1_denyOne bX1_denyOne 5 (some .boolean) 1 := ⟨mt (i := 859) (by first | rfl | decide +kernel) (by decide +kernel), mt (i := 64) (by decide +kernel) (by decide +kernel), ⟨by decide +kernel, by decide +kernel, by decide +kernel⟩, by decide⟩
theorem lc_X1_denyTwo : LC yX1_denyTwo bX1_denyTwo 6 (some .boolean) 1 := ⟨mt (i := 868) (by first | rfl | decide +kernel) (by decide +kernel), mt (i := 64) (by decide +kernel) (by decide +kernel), ⟨by decide +kernel, by decide +kernel, by decide +kernel⟩, by decide⟩
theorem lc_X1_findOrder : LC yX1_findOrder bX1_findOrder 2 none 1 := ⟨mt (i := 838) (by first | rfl | decide +kernel) (by decide +kernel), mt (i := 64) (by decide +kernel) (by decide +kernel), ⟨by decide +kernel, by decide +kernel, by decide +kernel⟩, by decide⟩
theorem lc_X1_getsWorse : LC yX1_getsWorse bX1_getsWorse 4 (some .boolean) 2 := ⟨mt (i := 863) (by first | rfl | decide +kernel) (by decide +kernel), mt (i := 64) (by decide +kernel) (by decide +kernel), ⟨by decide +kernel, by decide +kernel, by decide +kernel⟩, by decide⟩
theorem lc_X1_record : LC yX1_record bX1_record 6 none 3 := ⟨mt (i := 851) (by first | rfl | decide +kernel) (by decide +kernel), mt (i := 64) (by decide +kernel) (by decide +kernel), ⟨by decide +kernel, by decide +kernel, by decide +kernel⟩, by decide⟩
theorem lc_X1_search : LC yX1_search bX1_search 9 none 5 := ⟨mt (i := 842) (by first | rfl | decide +kernel) (by decide +kernel), mt (i := 64) (by decide +kernel) (by decide +kernel), ⟨by decide +kernel, by decide +kernel, by decide +kernel⟩, by decide⟩
theorem lc_X1_stuckIn : LC yX1_stuckIn bX1_stuckIn 6 (some .int) 1 := ⟨mt (i := 823) (by first | rfl | decide +kernel) (by decide +kernel), mt (i := 64) (by decide +kernel) (by decide +kernel), ⟨by decide +kernel, by decide +kernel, by decide +kernel⟩, by decide⟩
theorem lc_X2_begin : LC yX2_begin bX2_begin 3 none 1 := ⟨mt (i := 595) (by first | rfl | decide +kernel) (by decide +kernel), mt (i := 55) (by decide +kernel) (by decide +kernel), ⟨by decide +kernel, by decide +kernel, by decide +kernel⟩, by decide⟩
theorem lc_X2_copy : LC yX2_copy bX2_copy 2 none 1 := ⟨mt (i := 702) (by first | rfl | decide +kernel) (by decide +kernel), mt (i := 55) (by decide +kernel) (by decide +kernel), ⟨by decide +kernel, by decide +kernel, by decide +kernel⟩, by decide⟩
theorem lc_X2_lent : LC yX2_lent bX2_lent 1 (some .int) 0 := ⟨mt (i := 787) (by first | rfl | decide +kernel) (by decide +kernel), mt (i := 55) (by decide +kernel) (by decide +kernel), ⟨by decide +kernel, by decide +kernel, by decide +kernel⟩, by decide⟩
theorem lc_X2_take : LC yX2_take bX2_take 3 none 2 := ⟨mt (i := 709) (by first | rfl | decide +kernel) (by decide +kernel), mt (i := 55) (by decide +kernel) (by decide +kernel), ⟨by decide +kernel, by decide +kernel, by decide +kernel⟩, by decide⟩
theorem lc_X2_taken : LC yX2_taken bX2_taken 1 (some .int) 0 := ⟨mt (i := 634) (by first | rfl | decide +kernel) (by decide +kernel), mt (i := 55) (by decide +kernel) (by decide +kernel), ⟨by decide +kernel, by decide +kernel, by decide +kernel⟩, by decide⟩
theorem lc_X3_dropOldest : LC yX3_dropOldest bX3_dropOldest 3 none 0 := ⟨mt (i := 698) (by first | rfl | decide +kernel) (by decide +kernel), mt (i := 56) (by decide +kernel) (by decide +kernel), ⟨by decide +kernel, by decide +kernel, by decide +kernel⟩, by decide⟩
theorem lc_X3_pop : LC yX3_pop bX3_pop 2 (some .boolean) 1 := ⟨mt (i := 803) (by first | rfl | decide +kernel) (by decide +kernel), mt (i := 56) (by decide +kernel) (by decide +kernel), ⟨by decide +kernel, by decide +kernel, by decide +kernel⟩, by decide⟩
theorem lc_X3_push : LC yX3_push bX3_push 2 none 1 := ⟨mt (i := 694) (by first | rfl | decide +kernel) (by decide +kernel), mt (i := 56) (by decide +kernel) (by decide +kernel), ⟨by decide +kernel, by decide +kernel, by decide +kernel⟩, by decide⟩
theorem lc_X4_addPerson : LC yX4_addPerson bX4_addPerson 2 (some .boolean) 1 := ⟨mt (i := 508) (by first | rfl | decide +kernel) (by decide +kernel), mt (i := 54) (by decide +kernel) (by decide +kernel), ⟨by decide +kernel, by decide +kernel, by decide +kernel⟩, by decide⟩
theorem lc_X4_all : LC yX4_all bX4_all 1 (some .int) 0 := ⟨mt (i := 627) (by first | rfl | decide +kernel) (by decide +kernel), mt (i := 54) (by decide +kernel) (by decide +kernel), ⟨by decide +kernel, by decide +kernel, by decide +kernel⟩, by decide⟩
theorem lc_X4_clear : LC yX4_clear bX4_clear 2 none 0 := ⟨mt (i := 481) (by first | rfl | decide +kernel) (by decide +kernel), mt (i := 54) (by decide +kernel) (by decide +kernel), ⟨by decide +kernel, by decide +kernel, by decide +kernel⟩, by decide⟩
theorem lc_X4_isNumber : LC yX4_isNumber bX4_isNumber 2 (some .boolean) 1 := ⟨mt (i := 516) (by first | rfl | decide +kernel) (by decide +kernel), mt (i := 54) (by decide +kernel) (by decide +kernel), ⟨by decide +kernel, by decide +kernel, by decide +kernel⟩, by decide⟩
theorem lc_X4_isPerson : LC yX4_isPerson bX4_isPerson 2 (some .boolean) 1 := ⟨mt (i := 524) (by first | rfl | decide +kernel) (by decide +kernel), mt (i := 54) (by decide +kernel) (by decide +kernel), ⟨by decide +kernel, by decide +kernel, by decide +kernel⟩, by decide⟩
theorem lc_X4_isSet : LC yX4_isSet bX4_isSet 2 (some .boolean) 1 := ⟨mt (i := 888) (by first | rfl | decide +kernel) (by decide +kernel), mt (i := 54) (by decide +kernel) (by decide +kernel), ⟨by decide +kernel, by decide +kernel, by decide +kernel⟩, by decide⟩
theorem lc_X4_price : LC yX4_price bX4_price 3 (some .int) 2 := ⟨mt (i := 537) (by first | rfl | decide +kernel) (by decide +kernel), mt (i := 54) (by decide +kernel) (by decide +kernel), ⟨by decide +kernel, by decide +kernel, by decide +kernel⟩, by decide⟩
theorem lc_X4_setCost : LC yX4_setCost bX4_setCost 3 (some .boolean) 2 := ⟨mt (i := 512) (by first | rfl | decide +kernel) (by decide +kernel), mt (i := 54) (by decide +kernel) (by decide +kernel), ⟨by decide +kernel, by decide +kernel, by decide +kernel⟩, by decide⟩
theorem lc_X4_setLaw : LC yX4_setLaw bX4_setLaw 4 (some .boolean) 3 := ⟨mt (i := 485) (by first | rfl | decide +kernel) (by decide +kernel), mt (i := 54) (by decide +kernel) (by decide +kernel), ⟨by decide +kernel, by decide +kernel, by decide +kernel⟩, by decide⟩
theorem lc_X4_setNumbers : LC yX4_setNumbers bX4_setNumbers 2 (some .boolean) 1 := ⟨mt (i := 504) (by first | rfl | decide +kernel) (by decide +kernel), mt (i := 54) (by decide +kernel) (by decide +kernel), ⟨by decide +kernel, by decide +kernel, by decide +kernel⟩, by decide⟩
theorem lc_X4_setOwner : LC yX4_setOwner bX4_setOwner 5 (some .boolean) 2 := ⟨mt (i := 520) (by first | rfl | decide +kernel) (by decide +kernel), mt (i := 54) (by decide +kernel) (by decide +kernel), ⟨by decide +kernel, by decide +kernel, by decide +kernel⟩, by decide⟩
theorem lc_X5_find : LC yX5_find bX5_find 6 (some .int) 3 := ⟨mt (i := 721) (by first | rfl | decide +kernel) (by decide +kernel), mt (i := 61) (by decide +kernel) (by decide +kernel), ⟨by decide +kernel, by decide +kernel, by decide +kernel⟩, by decide⟩
theorem lc_X5_forget : LC yX5_forget bX5_forget 3 none 1 := ⟨mt (i := 529) (by first | rfl | decide +kernel) (by decide +kernel), mt (i := 61) (by decide +kernel) (by decide +kernel), ⟨by decide +kernel, by decide +kernel, by decide +kernel⟩, by decide⟩
theorem lc_X5_inUse : LC yX5_inUse bX5_inUse 2 (some .int) 1 := ⟨mt (i := 815) (by first | rfl | decide +kernel) (by decide +kernel), mt (i := 61) (by decide +kernel) (by decide +kernel), ⟨by decide +kernel, by decide +kernel, by decide +kernel⟩, by decide⟩
theorem lc_X5_oneOf : LC yX5_oneOf bX5_oneOf 1 (some .int) 1 := ⟨mt (i := 728) (by first | rfl | decide +kernel) (by decide +kernel), mt (i := 61) (by decide +kernel) (by decide +kernel), ⟨by decide +kernel, by decide +kernel, by decide +kernel⟩, by decide⟩
theorem lc_X5_price : LC yX5_price bX5_price 1 (some .int) 0 := ⟨mt (i := 811) (by first | rfl | decide +kernel) (by decide +kernel), mt (i := 61) (by decide +kernel) (by decide +kernel), ⟨by decide +kernel, by decide +kernel, by decide +kernel⟩, by decide⟩
theorem lc_X5_used : LC yX5_used bX5_used 2 (some .int) 1 := ⟨mt (i := 725) (by first | rfl | decide +kernel) (by decide +kernel), mt (i := 61) (by decide +kernel) (by decide +kernel), ⟨by decide +kernel, by decide +kernel, by decide +kernel⟩, by decide⟩
theorem lc_X6_mayUse : LC yX6_mayUse bX6_mayUse 3 (some .int) 2 := ⟨mt (i := 640) (by first | rfl | decide +kernel) (by decide +kernel), mt (i := 63) (by decide +kernel) (by decide +kernel), ⟨by decide +kernel, by decide +kernel, by decide +kernel⟩, by decide⟩
theorem lc_X6_setDrawn : LC yX6_setDrawn bX6_setDrawn 7 none 3 := ⟨mt (i := 971) (by first | rfl | decide +kernel) (by decide +kernel), mt (i := 63) (by decide +kernel) (by decide +kernel), ⟨by decide +kernel, by decide +kernel, by decide +kernel⟩, by decide⟩
theorem lc_X6_setFree : LC yX6_setFree bX6_setFree 3 none 1 := ⟨mt (i := 623) (by first | rfl | decide +kernel) (by decide +kernel), mt (i := 63) (by decide +kernel) (by decide +kernel), ⟨by decide +kernel, by decide +kernel, by decide +kernel⟩, by decide⟩
theorem lc_X6_setNow : LC yX6_setNow bX6_setNow 4 none 2 := ⟨mt (i := 619) (by first | rfl | decide +kernel) (by decide +kernel), mt (i := 63) (by decide +kernel) (by decide +kernel), ⟨by decide +kernel, by decide +kernel, by decide +kernel⟩, by decide⟩
theorem lc_X7_add : LC yX7_add bX7_add 4 none 2 := ⟨mt (i := 773) (by first | rfl | decide +kernel) (by decide +kernel), mt (i := 62) (by decide +kernel) (by decide +kernel), ⟨by decide +kernel, by decide +kernel, by decide +kernel⟩, by decide⟩
theorem lc_X7_at : LC yX7_at bX7_at 3 (some .int) 2 := ⟨mt (i := 765) (by first | rfl | decide +kernel) (by decide +kernel), mt (i := 62) (by decide +kernel) (by decide +kernel), ⟨by decide +kernel, by decide +kernel, by decide +kernel⟩, by decide⟩
theorem lc_X7_build : LC yX7_build bX7_build 6 none 2 := ⟨mt (i := 732) (by first | rfl | decide +kernel) (by decide +kernel), mt (i := 62) (by decide +kernel) (by decide +kernel), ⟨by decide +kernel, by decide +kernel, by decide +kernel⟩, by decide⟩
theorem lc_X7_firstUse : LC yX7_firstUse bX7_firstUse 6 (some .int) 3 := ⟨mt (i := 769) (by first | rfl | decide +kernel) (by decide +kernel), mt (i := 62) (by decide +kernel) (by decide +kernel), ⟨by decide +kernel, by decide +kernel, by decide +kernel⟩, by decide⟩
theorem lc_X7_listNumbers : LC yX7_listNumbers bX7_listNumbers 2 none 0 := ⟨mt (i := 736) (by first | rfl | decide +kernel) (by decide +kernel), mt (i := 62) (by decide +kernel) (by decide +kernel), ⟨by decide +kernel, by decide +kernel, by decide +kernel⟩, by decide⟩
theorem lc_X7_pick : LC yX7_pick bX7_pick 6 none 1 := ⟨mt (i := 761) (by first | rfl | decide +kernel) (by decide +kernel), mt (i := 62) (by decide +kernel) (by decide +kernel), ⟨by decide +kernel, by decide +kernel, by decide +kernel⟩, by decide⟩
theorem lc_X7_setBounds : LC yX7_setBounds bX7_setBounds 5 none 0 := ⟨mt (i := 741) (by first | rfl | decide +kernel) (by decide +kernel), mt (i := 62) (by decide +kernel) (by decide +kernel), ⟨by decide +kernel, by decide +kernel, by decide +kernel⟩, by decide⟩
theorem lc_X7_setPort : LC yX7_setPort bX7_setPort 4 none 1 := ⟨mt (i := 533) (by first | rfl | decide +kernel) (by decide +kernel), mt (i := 62) (by decide +kernel) (by decide +kernel), ⟨by decide +kernel, by decide +kernel, by decide +kernel⟩, by decide⟩
theorem lc_X7_spread : LC yX7_spread bX7_spread 9 none 3 := ⟨mt (i := 750) (by first | rfl | decide +kernel) (by decide +kernel), mt (i := 62) (by decide +kernel) (by decide +kernel), ⟨by decide +kernel, by decide +kernel, by decide +kernel⟩, by decide⟩
theorem lc_X7_weight : LC yX7_weight bX7_weight 3 (some .int) 2 := ⟨mt (i := 757) (by first | rfl | decide +kernel) (by decide +kernel), mt (i := 62) (by decide +kernel) (by decide +kernel), ⟨by decide +kernel, by decide +kernel, by decide +kernel⟩, by decide⟩
theorem lc_X8_accept : LC yX8_accept bX8_accept 3 (some .boolean) 2 := ⟨mt (i := 500) (by first | rfl | decide +kernel) (by decide +kernel), mt (i := 53) (by decide +kernel) (by decide +kernel), ⟨by decide +kernel, by decide +kernel, by decide +kernel⟩, by decide⟩
theorem lc_X8_append : LC yX8_append bX8_append 2 (some .boolean) 1 := ⟨mt (i := 473) (by first | rfl | decide +kernel) (by decide +kernel), mt (i := 53) (by decide +kernel) (by decide +kernel), ⟨by decide +kernel, by decide +kernel, by decide +kernel⟩, by decide⟩
theorem lc_X8_numbersBehind : LC yX8_numbersBehind bX8_numbersBehind 1 (some .int) 1 := ⟨mt (i := 488) (by first | rfl | decide +kernel) (by decide +kernel), mt (i := 53) (by decide +kernel) (by decide +kernel), ⟨by decide +kernel, by decide +kernel, by decide +kernel⟩, by decide⟩
theorem lc_X8_readInto : LC yX8_readInto bX8_readInto 5 (some .int) 1 := ⟨mt (i := 477) (by first | rfl | decide +kernel) (by decide +kernel), mt (i := 53) (by decide +kernel) (by decide +kernel), ⟨by decide +kernel, by decide +kernel, by decide +kernel⟩, by decide⟩
theorem lc_X8_readItem : LC yX8_readItem bX8_readItem 3 (some .boolean) 1 := ⟨mt (i := 492) (by first | rfl | decide +kernel) (by decide +kernel), mt (i := 53) (by decide +kernel) (by decide +kernel), ⟨by decide +kernel, by decide +kernel, by decide +kernel⟩, by decide⟩
theorem lc_X8_readNumber : LC yX8_readNumber bX8_readNumber 4 (some .boolean) 1 := ⟨mt (i := 496) (by first | rfl | decide +kernel) (by decide +kernel), mt (i := 53) (by decide +kernel) (by decide +kernel), ⟨by decide +kernel, by decide +kernel, by decide +kernel⟩, by decide⟩
theorem lc_X9_comingTo : LC yX9_comingTo bX9_comingTo 2 (some .int) 1 := ⟨mt (i := 907) (by first | rfl | decide +kernel) (by decide +kernel), mt (i := 60) (by decide +kernel) (by decide +kernel), ⟨by decide +kernel, by decide +kernel, by decide +kernel⟩, by decide⟩
theorem lc_X9_join : LC yX9_join bX9_join 7 none 2 := ⟨mt (i := 900) (by first | rfl | decide +kernel) (by decide +kernel), mt (i := 60) (by decide +kernel) (by decide +kernel), ⟨by decide +kernel, by decide +kernel, by decide +kernel⟩, by decide⟩
theorem lc_X9_reckon : LC yX9_reckon bX9_reckon 4 none 2 := ⟨mt (i := 893) (by first | rfl | decide +kernel) (by decide +kernel), mt (i := 60) (by decide +kernel) (by decide +kernel), ⟨by decide +kernel, by decide +kernel, by decide +kernel⟩, by decide⟩
theorem lm_X2_29 : Cond.methodLink RX2 29 arraycopyName ∈ TT := mt (i := 703) (by decide +kernel) (by decide +kernel)
theorem lm_X7_93 : Cond.methodLink RX7 93 Lib.Math.max.name ∈ TT := mt (i := 742) (by decide +kernel) (by decide +kernel)
theorem lm_X7_98 : Cond.methodLink RX7 98 Lib.Math.min.name ∈ TT := mt (i := 743) (by decide +kernel) (by decide +kernel)
theorem lm_X9_39 : Cond.methodLink RX9 39 Lib.Math.min.name ∈ TT := mt (i := 901) (by decide +kernel) (by decide +kernel)
theorem ls_X0_55 : LSt RX0 55 yJ6_bitCount_0f7a4 := ⟨mt (i := 943) (by decide +kernel) (by decide +kernel), mt (i := 775) (by decide +kernel) (by decide +kernel)⟩
theorem ls_X0_60 : LSN RX0 60 yX11_firstBit := ⟨List.mem_of_getElem? (i := 944) (by decide +kernel), mt (i := 945) (by decide +kernel) (by decide +kernel)⟩
theorem ls_X0_63 : LSN RX0 63 yX11_hasBit := ⟨List.mem_of_getElem? (i := 938) (by decide +kernel), mt (i := 605) (by decide +kernel) (by decide +kernel)⟩
theorem ls_X10_22 : LSN RX10 22 yX11_countsAs := ⟨List.mem_of_getElem? (i := 672) (by decide +kernel), mt (i := 673) (by decide +kernel) (by decide +kernel)⟩
theorem ls_X10_31 : LSN RX10 31 yX11_lastUse := ⟨List.mem_of_getElem? (i := 684) (by decide +kernel), mt (i := 685) (by decide +kernel) (by decide +kernel)⟩
theorem ls_X11_142 : LSt RX11 142 yX11_holderOf := ⟨mt (i := 601) (by decide +kernel) (by decide +kernel), mt (i := 602) (by decide +kernel) (by decide +kernel)⟩
theorem ls_X11_184 : LSt RX11 184 yX11_hasBit := ⟨mt (i := 604) (by decide +kernel) (by decide +kernel), mt (i := 605) (by decide +kernel) (by decide +kernel)⟩
theorem ls_X11_188 : LSt RX11 188 yX11_canStand := ⟨mt (i := 653) (by decide +kernel) (by decide +kernel), mt (i := 654) (by decide +kernel) (by decide +kernel)⟩
theorem ls_X11_213 : LSt RX11 213 yJ6_bitCount_0f7a4 := ⟨mt (i := 774) (by decide +kernel) (by decide +kernel), mt (i := 775) (by decide +kernel) (by decide +kernel)⟩
theorem ls_X11_305 : LSt RX11 305 yX11_firstBit := ⟨mt (i := 955) (by decide +kernel) (by decide +kernel), mt (i := 945) (by decide +kernel) (by decide +kernel)⟩
theorem ls_X12_146 : LSt RX12 146 yX12_counts := ⟨mt (i := 1184) (by decide +kernel) (by decide +kernel), mt (i := 1185) (by decide +kernel) (by decide +kernel)⟩
theorem ls_X12_170 : LSt RX12 170 yX12_has := ⟨mt (i := 1203) (by decide +kernel) (by decide +kernel), mt (i := 1204) (by decide +kernel) (by decide +kernel)⟩
theorem ls_X12_204 : LSt RX12 204 yX12_bits := ⟨mt (i := 1253) (by decide +kernel) (by decide +kernel), mt (i := 1254) (by decide +kernel) (by decide +kernel)⟩
theorem ls_X12_75 : LSt RX12 75 yX12_in := ⟨mt (i := 1100) (by decide +kernel) (by decide +kernel), mt (i := 1101) (by decide +kernel) (by decide +kernel)⟩
theorem ls_X1_37 : LSN RX1 37 yX11_hasBit := ⟨List.mem_of_getElem? (i := 824) (by decide +kernel), mt (i := 605) (by decide +kernel) (by decide +kernel)⟩
theorem ls_X1_83 : LSt RX1 83 yJ6_bitCount_0f7a4 := ⟨mt (i := 847) (by decide +kernel) (by decide +kernel), mt (i := 775) (by decide +kernel) (by decide +kernel)⟩
theorem ls_X2_35 : LSN RX2 35 yX11_together := ⟨List.mem_of_getElem? (i := 635) (by decide +kernel), mt (i := 629) (by decide +kernel) (by decide +kernel)⟩
theorem ls_X5_52 : LSt RX5 52 yX5_oneOf := ⟨mt (i := 726) (by decide +kernel) (by decide +kernel), mt (i := 727) (by decide +kernel) (by decide +kernel)⟩
theorem ls_X6_67 : LSN RX6 67 yX11_together := ⟨List.mem_of_getElem? (i := 628) (by decide +kernel), mt (i := 629) (by decide +kernel) (by decide +kernel)⟩
theorem ls_X7_54 : LSN RX7 54 yX11_lastUse := ⟨List.mem_of_getElem? (i := 751) (by decide +kernel), mt (i := 685) (by decide +kernel) (by decide +kernel)⟩
theorem ls_X7_58 : LSN RX7 58 yX11_canStand := ⟨List.mem_of_getElem? (i := 752) (by decide +kernel), mt (i := 654) (by decide +kernel) (by decide +kernel)⟩
theorem ls_X7_62 : LSN RX7 62 yX11_countsAs := ⟨List.mem_of_getElem? (i := 753) (by decide +kernel), mt (i := 673) (by decide +kernel) (by decide +kernel)⟩
theorem ls_X7_90 : LSN RX7 90 yX11_hasBit := ⟨List.mem_of_getElem? (i := 737) (by decide +kernel), mt (i := 605) (by decide +kernel) (by decide +kernel)⟩
theorem ls_X8_35 : LSt RX8 35 yX8_numbersBehind := ⟨mt (i := 486) (by decide +kernel) (by decide +kernel), mt (i := 487) (by decide +kernel) (by decide +kernel)⟩
theorem ls_X9_22 : LSt RX9 22 yJ6_bitCount_0f7a4 := ⟨mt (i := 894) (by decide +kernel) (by decide +kernel), mt (i := 775) (by decide +kernel) (by decide +kernel)⟩
theorem ls_X9_28 : LSN RX9 28 yX11_hasBit := ⟨List.mem_of_getElem? (i := 895) (by decide +kernel), mt (i := 605) (by decide +kernel) (by decide +kernel)⟩
theorem ls_X9_32 : LSN RX9 32 yX11_lastUse := ⟨List.mem_of_getElem? (i := 896) (by decide +kernel), mt (i := 685) (by decide +kernel) (by decide +kernel)⟩
theorem ls_X9_45 : LSN RX9 45 yX11_countsAs := ⟨List.mem_of_getElem? (i := 902) (by decide +kernel), mt (i := 673) (by decide +kernel) (by decide +kernel)⟩
theorem ls_X9_48 : LSN RX9 48 yX11_canStand := ⟨List.mem_of_getElem? (i := 903) (by decide +kernel), mt (i := 654) (by decide +kernel) (by decide +kernel)⟩
theorem lv_X0_33 : LV RX0 33 yX9_reckon := ⟨mt (i := 932) (by decide +kernel) (by decide +kernel), mt (i := 891) (by decide +kernel) (by decide +kernel), mt (i := 892) (by decide +kernel) (by decide +kernel)⟩
theorem lv_X0_45 : LV RX0 45 yX9_comingTo := ⟨mt (i := 933) (by decide +kernel) (by decide +kernel), mt (i := 905) (by decide +kernel) (by decide +kernel), mt (i := 906) (by decide +kernel) (by decide +kernel)⟩
theorem lv_X0_52 : LV RX0 52 yX0_readFrom := ⟨mt (i := 934) (by decide +kernel) (by decide +kernel), mt (i := 936) (by decide +kernel) (by decide +kernel), mt (i := 20) (by decide +kernel) (by decide +kernel)⟩
theorem lv_X10_26 : LV RX10 26 yX4_price := ⟨mt (i := 679) (by decide +kernel) (by decide +kernel), mt (i := 535) (by decide +kernel) (by decide +kernel), mt (i := 536) (by decide +kernel) (by decide +kernel)⟩
theorem lv_X11_101 : LV RX11 101 yX8_append := ⟨mt (i := 470) (by decide +kernel) (by decide +kernel), mt (i := 471) (by decide +kernel) (by decide +kernel), mt (i := 472) (by decide +kernel) (by decide +kernel)⟩
theorem lv_X11_105 : LV RX11 105 yX8_readInto := ⟨mt (i := 474) (by decide +kernel) (by decide +kernel), mt (i := 475) (by decide +kernel) (by decide +kernel), mt (i := 476) (by decide +kernel) (by decide +kernel)⟩
theorem lv_X11_112 : LV RX11 112 yX5_forget := ⟨mt (i := 526) (by decide +kernel) (by decide +kernel), mt (i := 527) (by decide +kernel) (by decide +kernel), mt (i := 528) (by decide +kernel) (by decide +kernel)⟩
theorem lv_X11_119 : LV RX11 119 yX2_begin := ⟨mt (i := 592) (by decide +kernel) (by decide +kernel), mt (i := 593) (by decide +kernel) (by decide +kernel), mt (i := 594) (by decide +kernel) (by decide +kernel)⟩
theorem lv_X11_131 : LV RX11 131 yX4_isNumber := ⟨mt (i := 600) (by decide +kernel) (by decide +kernel), mt (i := 514) (by decide +kernel) (by decide +kernel), mt (i := 515) (by decide +kernel) (by decide +kernel)⟩
theorem lv_X11_152 : LV RX11 152 yX4_isPerson := ⟨mt (i := 611) (by decide +kernel) (by decide +kernel), mt (i := 522) (by decide +kernel) (by decide +kernel), mt (i := 523) (by decide +kernel) (by decide +kernel)⟩
theorem lv_X11_161 : LV RX11 161 yX11_sceneNow := ⟨mt (i := 612) (by decide +kernel) (by decide +kernel), mt (i := 614) (by decide +kernel) (by decide +kernel), mt (i := 3) (by decide +kernel) (by decide +kernel)⟩
theorem lv_X11_165 : LV RX11 165 yX2_taken := ⟨mt (i := 636) (by decide +kernel) (by decide +kernel), mt (i := 632) (by decide +kernel) (by decide +kernel), mt (i := 633) (by decide +kernel) (by decide +kernel)⟩
theorem lv_X11_168 : LV RX11 168 yX6_mayUse := ⟨mt (i := 637) (by decide +kernel) (by decide +kernel), mt (i := 638) (by decide +kernel) (by decide +kernel), mt (i := 639) (by decide +kernel) (by decide +kernel)⟩
theorem lv_X11_181 : LV RX11 181 yX10_set := ⟨mt (i := 649) (by decide +kernel) (by decide +kernel), mt (i := 650) (by decide +kernel) (by decide +kernel), mt (i := 651) (by decide +kernel) (by decide +kernel)⟩
theorem lv_X11_191 : LV RX11 191 yX10_append := ⟨mt (i := 656) (by decide +kernel) (by decide +kernel), mt (i := 657) (by decide +kernel) (by decide +kernel), mt (i := 658) (by decide +kernel) (by decide +kernel)⟩
theorem lv_X11_193 : LV RX11 193 yX10_sum := ⟨mt (i := 668) (by decide +kernel) (by decide +kernel), mt (i := 669) (by decide +kernel) (by decide +kernel), mt (i := 670) (by decide +kernel) (by decide +kernel)⟩
theorem lv_X11_196 : LV RX11 196 yX10_price := ⟨mt (i := 675) (by decide +kernel) (by decide +kernel), mt (i := 676) (by decide +kernel) (by decide +kernel), mt (i := 677) (by decide +kernel) (by decide +kernel)⟩
theorem lv_X11_199 : LV RX11 199 yX10_areSaying := ⟨mt (i := 680) (by decide +kernel) (by decide +kernel), mt (i := 681) (by decide +kernel) (by decide +kernel), mt (i := 682) (by decide +kernel) (by decide +kernel)⟩
theorem lv_X11_202 : LV RX11 202 yX3_push := ⟨mt (i := 691) (by decide +kernel) (by decide +kernel), mt (i := 692) (by decide +kernel) (by decide +kernel), mt (i := 693) (by decide +kernel) (by decide +kernel)⟩
theorem lv_X11_206 : LV RX11 206 yX2_take := ⟨mt (i := 706) (by decide +kernel) (by decide +kernel), mt (i := 707) (by decide +kernel) (by decide +kernel), mt (i := 708) (by decide +kernel) (by decide +kernel)⟩
theorem lv_X11_210 : LV RX11 210 yX11_usedNow := ⟨mt (i := 714) (by decide +kernel) (by decide +kernel), mt (i := 716) (by decide +kernel) (by decide +kernel), mt (i := 6) (by decide +kernel) (by decide +kernel)⟩
theorem lv_X11_219 : LV RX11 219 yX2_lent := ⟨mt (i := 784) (by decide +kernel) (by decide +kernel), mt (i := 785) (by decide +kernel) (by decide +kernel), mt (i := 786) (by decide +kernel) (by decide +kernel)⟩
theorem lv_X11_229 : LV RX11 229 yX3_pop := ⟨mt (i := 800) (by decide +kernel) (by decide +kernel), mt (i := 801) (by decide +kernel) (by decide +kernel), mt (i := 802) (by decide +kernel) (by decide +kernel)⟩
theorem lv_X11_233 : LV RX11 233 yX5_price := ⟨mt (i := 808) (by decide +kernel) (by decide +kernel), mt (i := 809) (by decide +kernel) (by decide +kernel), mt (i := 810) (by decide +kernel) (by decide +kernel)⟩
theorem lv_X11_235 : LV RX11 235 yX5_inUse := ⟨mt (i := 812) (by decide +kernel) (by decide +kernel), mt (i := 813) (by decide +kernel) (by decide +kernel), mt (i := 814) (by decide +kernel) (by decide +kernel)⟩
theorem lv_X11_238 : LV RX11 238 yX1_stuckIn := ⟨mt (i := 820) (by decide +kernel) (by decide +kernel), mt (i := 821) (by decide +kernel) (by decide +kernel), mt (i := 822) (by decide +kernel) (by decide +kernel)⟩
theorem lv_X11_244 : LV RX11 244 yX5_find := ⟨mt (i := 718) (by decide +kernel) (by decide +kernel), mt (i := 719) (by decide +kernel) (by decide +kernel), mt (i := 720) (by decide +kernel) (by decide +kernel)⟩
theorem lv_X11_248 : LV RX11 248 yX1_findOrder := ⟨mt (i := 835) (by decide +kernel) (by decide +kernel), mt (i := 836) (by decide +kernel) (by decide +kernel), mt (i := 837) (by decide +kernel) (by decide +kernel)⟩
theorem lv_X11_261 : LV RX11 261 yX1_denyOne := ⟨mt (i := 856) (by decide +kernel) (by decide +kernel), mt (i := 857) (by decide +kernel) (by decide +kernel), mt (i := 858) (by decide +kernel) (by decide +kernel)⟩
theorem lv_X11_265 : LV RX11 265 yX1_denyTwo := ⟨mt (i := 865) (by decide +kernel) (by decide +kernel), mt (i := 866) (by decide +kernel) (by decide +kernel), mt (i := 867) (by decide +kernel) (by decide +kernel)⟩
theorem lv_X11_281 : LV RX11 281 yX4_isSet := ⟨mt (i := 885) (by decide +kernel) (by decide +kernel), mt (i := 886) (by decide +kernel) (by decide +kernel), mt (i := 887) (by decide +kernel) (by decide +kernel)⟩
theorem lv_X11_284 : LV RX11 284 yX9_reckon := ⟨mt (i := 890) (by decide +kernel) (by decide +kernel), mt (i := 891) (by decide +kernel) (by decide +kernel), mt (i := 892) (by decide +kernel) (by decide +kernel)⟩
theorem lv_X11_287 : LV RX11 287 yX9_comingTo := ⟨mt (i := 904) (by decide +kernel) (by decide +kernel), mt (i := 905) (by decide +kernel) (by decide +kernel), mt (i := 906) (by decide +kernel) (by decide +kernel)⟩
theorem lv_X11_290 : LV RX11 290 yX0_append := ⟨mt (i := 916) (by decide +kernel) (by decide +kernel), mt (i := 917) (by decide +kernel) (by decide +kernel), mt (i := 918) (by decide +kernel) (by decide +kernel)⟩
theorem lv_X11_292 : LV RX11 292 yX0_read := ⟨mt (i := 928) (by decide +kernel) (by decide +kernel), mt (i := 929) (by decide +kernel) (by decide +kernel), mt (i := 930) (by decide +kernel) (by decide +kernel)⟩
theorem lv_X11_299 : LV RX11 299 yX0_surePerson := ⟨mt (i := 939) (by decide +kernel) (by decide +kernel), mt (i := 940) (by decide +kernel) (by decide +kernel), mt (i := 941) (by decide +kernel) (by decide +kernel)⟩
theorem lv_X11_302 : LV RX11 302 yX0_inTwoRows := ⟨mt (i := 951) (by decide +kernel) (by decide +kernel), mt (i := 952) (by decide +kernel) (by decide +kernel), mt (i := 953) (by decide +kernel) (by decide +kernel)⟩
theorem lv_X11_308 : LV RX11 308 yX1_cornerBy := ⟨mt (i := 960) (by decide +kernel) (by decide +kernel), mt (i := 961) (by decide +kernel) (by decide +kernel), mt (i := 962) (by decide +kernel) (by decide +kernel)⟩
theorem lv_X11_315 : LV RX11 315 yX6_setDrawn := ⟨mt (i := 968) (by decide +kernel) (by decide +kernel), mt (i := 969) (by decide +kernel) (by decide +kernel), mt (i := 970) (by decide +kernel) (by decide +kernel)⟩
theorem lv_X11_319 : LV RX11 319 yX6_setNow := ⟨mt (i := 616) (by decide +kernel) (by decide +kernel), mt (i := 617) (by decide +kernel) (by decide +kernel), mt (i := 618) (by decide +kernel) (by decide +kernel)⟩
theorem lv_X12_105 : LV RX12 105 yX12_readItem := ⟨mt (i := 1115) (by decide +kernel) (by decide +kernel), mt (i := 1117) (by decide +kernel) (by decide +kernel), mt (i := 24) (by decide +kernel) (by decide +kernel)⟩
theorem lv_X12_109 : LV RX12 109 yX12_readAll := ⟨mt (i := 1111) (by decide +kernel) (by decide +kernel), mt (i := 1113) (by decide +kernel) (by decide +kernel), mt (i := 23) (by decide +kernel) (by decide +kernel)⟩
theorem lv_X12_125 : LV RX12 125 yX12_noNumber := ⟨mt (i := 1139) (by decide +kernel) (by decide +kernel), mt (i := 1141) (by decide +kernel) (by decide +kernel), mt (i := 27) (by decide +kernel) (by decide +kernel)⟩
theorem lv_X12_131 : LV RX12 131 yX12_ofOne := ⟨mt (i := 1155) (by decide +kernel) (by decide +kernel), mt (i := 1157) (by decide +kernel) (by decide +kernel), mt (i := 30) (by decide +kernel) (by decide +kernel)⟩
theorem lv_X12_135 : LV RX12 135 yX12_taken := ⟨mt (i := 1159) (by decide +kernel) (by decide +kernel), mt (i := 1161) (by decide +kernel) (by decide +kernel), mt (i := 31) (by decide +kernel) (by decide +kernel)⟩
theorem lv_X12_138 : LV RX12 138 yX12_noOne := ⟨mt (i := 1147) (by decide +kernel) (by decide +kernel), mt (i := 1149) (by decide +kernel) (by decide +kernel), mt (i := 28) (by decide +kernel) (by decide +kernel)⟩
theorem lv_X12_141 : LV RX12 141 yX12_mayOf := ⟨mt (i := 1151) (by decide +kernel) (by decide +kernel), mt (i := 1153) (by decide +kernel) (by decide +kernel), mt (i := 29) (by decide +kernel) (by decide +kernel)⟩
theorem lv_X12_150 : LV RX12 150 yX12_priceOf := ⟨mt (i := 1191) (by decide +kernel) (by decide +kernel), mt (i := 1193) (by decide +kernel) (by decide +kernel), mt (i := 34) (by decide +kernel) (by decide +kernel)⟩
theorem lv_X12_153 : LV RX12 153 yX12_sumOfWords := ⟨mt (i := 1180) (by decide +kernel) (by decide +kernel), mt (i := 1182) (by decide +kernel) (by decide +kernel), mt (i := 32) (by decide +kernel) (by decide +kernel)⟩
theorem lv_X12_156 : LV RX12 156 yX12_priceOfWords := ⟨mt (i := 1187) (by decide +kernel) (by decide +kernel), mt (i := 1189) (by decide +kernel) (by decide +kernel), mt (i := 33) (by decide +kernel) (by decide +kernel)⟩
theorem lv_X12_159 : LV RX12 159 yX12_isSaying := ⟨mt (i := 1195) (by decide +kernel) (by decide +kernel), mt (i := 1197) (by decide +kernel) (by decide +kernel), mt (i := 35) (by decide +kernel) (by decide +kernel)⟩
theorem lv_X12_167 : LV RX12 167 yX12_laid := ⟨mt (i := 1227) (by decide +kernel) (by decide +kernel), mt (i := 1229) (by decide +kernel) (by decide +kernel), mt (i := 40) (by decide +kernel) (by decide +kernel)⟩
theorem lv_X12_174 : LV RX12 174 yX12_by := ⟨mt (i := 1233) (by decide +kernel) (by decide +kernel), mt (i := 1235) (by decide +kernel) (by decide +kernel), mt (i := 41) (by decide +kernel) (by decide +kernel)⟩
theorem lv_X12_187 : LV RX12 187 yX12_layTable := ⟨mt (i := 1222) (by decide +kernel) (by decide +kernel), mt (i := 1224) (by decide +kernel) (by decide +kernel), mt (i := 39) (by decide +kernel) (by decide +kernel)⟩
theorem lv_X12_191 : LV RX12 191 yX12_bestOf := ⟨mt (i := 1218) (by decide +kernel) (by decide +kernel), mt (i := 1220) (by decide +kernel) (by decide +kernel), mt (i := 38) (by decide +kernel) (by decide +kernel)⟩
theorem lv_X12_195 : LV RX12 195 yX12_keepDay := ⟨mt (i := 1206) (by decide +kernel) (by decide +kernel), mt (i := 1208) (by decide +kernel) (by decide +kernel), mt (i := 36) (by decide +kernel) (by decide +kernel)⟩
theorem lv_X12_198 : LV RX12 198 yX12_take := ⟨mt (i := 1210) (by decide +kernel) (by decide +kernel), mt (i := 1212) (by decide +kernel) (by decide +kernel), mt (i := 37) (by decide +kernel) (by decide +kernel)⟩
theorem lv_X12_201 : LV RX12 201 yX12_usedSet := ⟨mt (i := 1237) (by decide +kernel) (by decide +kernel), mt (i := 1239) (by decide +kernel) (by decide +kernel), mt (i := 42) (by decide +kernel) (by decide +kernel)⟩
theorem lv_X12_211 : LV RX12 211 yX12_hasBest := ⟨mt (i := 1278) (by decide +kernel) (by decide +kernel), mt (i := 1280) (by decide +kernel) (by decide +kernel), mt (i := 45) (by decide +kernel) (by decide +kernel)⟩
theorem lv_X12_215 : LV RX12 215 yX12_silent := ⟨mt (i := 1270) (by decide +kernel) (by decide +kernel), mt (i := 1272) (by decide +kernel) (by decide +kernel), mt (i := 43) (by decide +kernel) (by decide +kernel)⟩
theorem lv_X12_218 : LV RX12 218 yX12_stuckOf := ⟨mt (i := 1274) (by decide +kernel) (by decide +kernel), mt (i := 1276) (by decide +kernel) (by decide +kernel), mt (i := 44) (by decide +kernel) (by decide +kernel)⟩
theorem lv_X12_224 : LV RX12 224 yX12_isAhead := ⟨mt (i := 1296) (by decide +kernel) (by decide +kernel), mt (i := 1298) (by decide +kernel) (by decide +kernel), mt (i := 47) (by decide +kernel) (by decide +kernel)⟩
theorem lv_X12_231 : LV RX12 231 yX12_layOrder := ⟨mt (i := 1292) (by decide +kernel) (by decide +kernel), mt (i := 1294) (by decide +kernel) (by decide +kernel), mt (i := 46) (by decide +kernel) (by decide +kernel)⟩
theorem lv_X12_236 : LV RX12 236 yX12_noSet := ⟨mt (i := 1320) (by decide +kernel) (by decide +kernel), mt (i := 1322) (by decide +kernel) (by decide +kernel), mt (i := 48) (by decide +kernel) (by decide +kernel)⟩
theorem lv_X12_239 : LV RX12 239 yX12_waysOf := ⟨mt (i := 1324) (by decide +kernel) (by decide +kernel), mt (i := 1326) (by decide +kernel) (by decide +kernel), mt (i := 49) (by decide +kernel) (by decide +kernel)⟩
theorem lv_X12_242 : LV RX12 242 yX12_readingsBy := ⟨mt (i := 1345) (by decide +kernel) (by decide +kernel), mt (i := 1347) (by decide +kernel) (by decide +kernel), mt (i := 50) (by decide +kernel) (by decide +kernel)⟩
theorem lv_X12_68 : LV RX12 68 yX12_begin := ⟨mt (i := 995) (by decide +kernel) (by decide +kernel), mt (i := 997) (by decide +kernel) (by decide +kernel), mt (i := 21) (by decide +kernel) (by decide +kernel)⟩
theorem lv_X12_71 : LV RX12 71 yX12_dawn := ⟨mt (i := 999) (by decide +kernel) (by decide +kernel), mt (i := 1001) (by decide +kernel) (by decide +kernel), mt (i := 22) (by decide +kernel) (by decide +kernel)⟩
theorem lv_X12_93 : LV RX12 93 yX12_isFigure := ⟨mt (i := 1123) (by decide +kernel) (by decide +kernel), mt (i := 1125) (by decide +kernel) (by decide +kernel), mt (i := 26) (by decide +kernel) (by decide +kernel)⟩
theorem lv_X12_99 : LV RX12 99 yX12_areNumbers := ⟨mt (i := 1119) (by decide +kernel) (by decide +kernel), mt (i := 1121) (by decide +kernel) (by decide +kernel), mt (i := 25) (by decide +kernel) (by decide +kernel)⟩
theorem lv_X1_41 : LV RX1 41 yX6_mayUse := ⟨mt (i := 825) (by decide +kernel) (by decide +kernel), mt (i := 638) (by decide +kernel) (by decide +kernel), mt (i := 639) (by decide +kernel) (by decide +kernel)⟩
theorem lv_X1_51 : LV RX1 51 yX5_find := ⟨mt (i := 826) (by decide +kernel) (by decide +kernel), mt (i := 719) (by decide +kernel) (by decide +kernel), mt (i := 720) (by decide +kernel) (by decide +kernel)⟩
theorem lv_X1_63 : LV RX1 63 yX1_getsWorse := ⟨mt (i := 860) (by decide +kernel) (by decide +kernel), mt (i := 862) (by decide +kernel) (by decide +kernel), mt (i := 18) (by decide +kernel) (by decide +kernel)⟩
theorem lv_X1_79 : LV RX1 79 yX1_search := ⟨mt (i := 839) (by decide +kernel) (by decide +kernel), mt (i := 841) (by decide +kernel) (by decide +kernel), mt (i := 15) (by decide +kernel) (by decide +kernel)⟩
theorem lv_X1_89 : LV RX1 89 yX1_stuckIn := ⟨mt (i := 864) (by decide +kernel) (by decide +kernel), mt (i := 821) (by decide +kernel) (by decide +kernel), mt (i := 822) (by decide +kernel) (by decide +kernel)⟩
theorem lv_X1_93 : LV RX1 93 yX1_ableAt := ⟨mt (i := 843) (by decide +kernel) (by decide +kernel), mt (i := 845) (by decide +kernel) (by decide +kernel), mt (i := 16) (by decide +kernel) (by decide +kernel)⟩
theorem lv_X1_97 : LV RX1 97 yX1_record := ⟨mt (i := 848) (by decide +kernel) (by decide +kernel), mt (i := 850) (by decide +kernel) (by decide +kernel), mt (i := 17) (by decide +kernel) (by decide +kernel)⟩
theorem lv_X3_26 : LV RX3 26 yX3_dropOldest := ⟨mt (i := 695) (by decide +kernel) (by decide +kernel), mt (i := 697) (by decide +kernel) (by decide +kernel), mt (i := 5) (by decide +kernel) (by decide +kernel)⟩
theorem lv_X3_29 : LV RX3 29 yX2_copy := ⟨mt (i := 699) (by decide +kernel) (by decide +kernel), mt (i := 700) (by decide +kernel) (by decide +kernel), mt (i := 701) (by decide +kernel) (by decide +kernel)⟩
theorem lv_X4_28 : LV RX4 28 yX4_setLaw := ⟨mt (i := 482) (by decide +kernel) (by decide +kernel), mt (i := 483) (by decide +kernel) (by decide +kernel), mt (i := 484) (by decide +kernel) (by decide +kernel)⟩
theorem lv_X4_32 : LV RX4 32 yX4_all := ⟨mt (i := 889) (by decide +kernel) (by decide +kernel), mt (i := 625) (by decide +kernel) (by decide +kernel), mt (i := 626) (by decide +kernel) (by decide +kernel)⟩
theorem lv_X4_36 : LV RX4 36 yX4_isNumber := ⟨mt (i := 513) (by decide +kernel) (by decide +kernel), mt (i := 514) (by decide +kernel) (by decide +kernel), mt (i := 515) (by decide +kernel) (by decide +kernel)⟩
theorem lv_X4_46 : LV RX4 46 yX4_isPerson := ⟨mt (i := 521) (by decide +kernel) (by decide +kernel), mt (i := 522) (by decide +kernel) (by decide +kernel), mt (i := 523) (by decide +kernel) (by decide +kernel)⟩
theorem lv_X5_40 : LV RX5 40 yX7_setPort := ⟨mt (i := 530) (by decide +kernel) (by decide +kernel), mt (i := 531) (by decide +kernel) (by decide +kernel), mt (i := 532) (by decide +kernel) (by decide +kernel)⟩
theorem lv_X5_48 : LV RX5 48 yX5_used := ⟨mt (i := 722) (by decide +kernel) (by decide +kernel), mt (i := 724) (by decide +kernel) (by decide +kernel), mt (i := 7) (by decide +kernel) (by decide +kernel)⟩
theorem lv_X5_55 : LV RX5 55 yX7_build := ⟨mt (i := 729) (by decide +kernel) (by decide +kernel), mt (i := 730) (by decide +kernel) (by decide +kernel), mt (i := 731) (by decide +kernel) (by decide +kernel)⟩
theorem lv_X5_59 : LV RX5 59 yX7_pick := ⟨mt (i := 758) (by decide +kernel) (by decide +kernel), mt (i := 759) (by decide +kernel) (by decide +kernel), mt (i := 760) (by decide +kernel) (by decide +kernel)⟩
theorem lv_X6_18 : LV RX6 18 yX6_setFree := ⟨mt (i := 620) (by decide +kernel) (by decide +kernel), mt (i := 622) (by decide +kernel) (by decide +kernel), mt (i := 4) (by decide +kernel) (by decide +kernel)⟩
theorem lv_X6_31 : LV RX6 31 yX2_taken := ⟨mt (i := 631) (by decide +kernel) (by decide +kernel), mt (i := 632) (by decide +kernel) (by decide +kernel), mt (i := 633) (by decide +kernel) (by decide +kernel)⟩
theorem lv_X6_59 : LV RX6 59 yX4_all := ⟨mt (i := 624) (by decide +kernel) (by decide +kernel), mt (i := 625) (by decide +kernel) (by decide +kernel), mt (i := 626) (by decide +kernel) (by decide +kernel)⟩
theorem lv_X7_31 : LV RX7 31 yX4_price := ⟨mt (i := 534) (by decide +kernel) (by decide +kernel), mt (i := 535) (by decide +kernel) (by decide +kernel), mt (i := 536) (by decide +kernel) (by decide +kernel)⟩
theorem lv_X7_40 : LV RX7 40 yX7_listNumbers := ⟨mt (i := 733) (by decide +kernel) (by decide +kernel), mt (i := 735) (by decide +kernel) (by decide +kernel), mt (i := 8) (by decide +kernel) (by decide +kernel)⟩
theorem lv_X7_43 : LV RX7 43 yX7_setBounds := ⟨mt (i := 738) (by decide +kernel) (by decide +kernel), mt (i := 740) (by decide +kernel) (by decide +kernel), mt (i := 9) (by decide +kernel) (by decide +kernel)⟩
theorem lv_X7_50 : LV RX7 50 yX7_spread := ⟨mt (i := 747) (by decide +kernel) (by decide +kernel), mt (i := 749) (by decide +kernel) (by decide +kernel), mt (i := 10) (by decide +kernel) (by decide +kernel)⟩
theorem lv_X7_65 : LV RX7 65 yX7_weight := ⟨mt (i := 754) (by decide +kernel) (by decide +kernel), mt (i := 756) (by decide +kernel) (by decide +kernel), mt (i := 11) (by decide +kernel) (by decide +kernel)⟩
theorem lv_X7_79 : LV RX7 79 yX7_at := ⟨mt (i := 762) (by decide +kernel) (by decide +kernel), mt (i := 764) (by decide +kernel) (by decide +kernel), mt (i := 12) (by decide +kernel) (by decide +kernel)⟩
theorem lv_X7_82 : LV RX7 82 yX7_firstUse := ⟨mt (i := 766) (by decide +kernel) (by decide +kernel), mt (i := 768) (by decide +kernel) (by decide +kernel), mt (i := 13) (by decide +kernel) (by decide +kernel)⟩
theorem lv_X7_86 : LV RX7 86 yX7_add := ⟨mt (i := 770) (by decide +kernel) (by decide +kernel), mt (i := 772) (by decide +kernel) (by decide +kernel), mt (i := 14) (by decide +kernel) (by decide +kernel)⟩
theorem lv_X8_23 : LV RX8 23 yX4_clear := ⟨mt (i := 478) (by decide +kernel) (by decide +kernel), mt (i := 479) (by decide +kernel) (by decide +kernel), mt (i := 480) (by decide +kernel) (by decide +kernel)⟩
theorem lv_X8_39 : LV RX8 39 yX8_readItem := ⟨mt (i := 489) (by decide +kernel) (by decide +kernel), mt (i := 491) (by decide +kernel) (by decide +kernel), mt (i := 0) (by decide +kernel) (by decide +kernel)⟩
theorem lv_X8_43 : LV RX8 43 yX8_accept := ⟨mt (i := 497) (by decide +kernel) (by decide +kernel), mt (i := 499) (by decide +kernel) (by decide +kernel), mt (i := 2) (by decide +kernel) (by decide +kernel)⟩
theorem lv_X8_47 : LV RX8 47 yX8_readNumber := ⟨mt (i := 493) (by decide +kernel) (by decide +kernel), mt (i := 495) (by decide +kernel) (by decide +kernel), mt (i := 1) (by decide +kernel) (by decide +kernel)⟩
theorem lv_X8_50 : LV RX8 50 yX4_setNumbers := ⟨mt (i := 501) (by decide +kernel) (by decide +kernel), mt (i := 502) (by decide +kernel) (by decide +kernel), mt (i := 503) (by decide +kernel) (by decide +kernel)⟩
theorem lv_X8_53 : LV RX8 53 yX4_addPerson := ⟨mt (i := 505) (by decide +kernel) (by decide +kernel), mt (i := 506) (by decide +kernel) (by decide +kernel), mt (i := 507) (by decide +kernel) (by decide +kernel)⟩
theorem lv_X8_56 : LV RX8 56 yX4_setCost := ⟨mt (i := 509) (by decide +kernel) (by decide +kernel), mt (i := 510) (by decide +kernel) (by decide +kernel), mt (i := 511) (by decide +kernel) (by decide +kernel)⟩
theorem lv_X8_60 : LV RX8 60 yX4_setOwner := ⟨mt (i := 517) (by decide +kernel) (by decide +kernel), mt (i := 518) (by decide +kernel) (by decide +kernel), mt (i := 519) (by decide +kernel) (by decide +kernel)⟩
theorem lv_X8_63 : LV RX8 63 yX4_setLaw := ⟨mt (i := 525) (by decide +kernel) (by decide +kernel), mt (i := 483) (by decide +kernel) (by decide +kernel), mt (i := 484) (by decide +kernel) (by decide +kernel)⟩
theorem lv_X9_35 : LV RX9 35 yX9_join := ⟨mt (i := 897) (by decide +kernel) (by decide +kernel), mt (i := 899) (by decide +kernel) (by decide +kernel), mt (i := 19) (by decide +kernel) (by decide +kernel)⟩
