set_option maxRecDepth 100000
theorem fo_0_2 : FO 0 2 RX0 := ⟨RX0, TX0, 6, rfl, rfl⟩
theorem fo_0_3 : FO 0 3 RX0 := ⟨RX0, TX0, 6, rfl, rfl⟩
theorem fo_0_4 : FO 0 4 RX0 := ⟨RX0, TX0, 6, rfl, rfl⟩
theorem fo_0_5 : FO 0 5 RX0 := ⟨RX0, TX0, 6, rfl, rfl⟩
theorem fo_10_1 : FO 10 1 RX10 := ⟨RX10, TX10, 3, rfl, rfl⟩
theorem fo_10_2 : FO 10 2 RX10 := ⟨RX10, TX10, 3, rfl, rfl⟩
theorem fo_11_0 : FO 11 0 RX11 := ⟨RX11, TX11, 12, rfl, rfl⟩
theorem fo_11_10 : FO 11 10 RX11 := ⟨RX11, TX11, 12, rfl, rfl⟩
theorem fo_11_11 : FO 11 11 RX11 := ⟨RX11, TX11, 12, rfl, rfl⟩
theorem fo_11_3 : FO 11 3 RX11 := ⟨RX11, TX11, 12, rfl, rfl⟩
theorem fo_11_4 : FO 11 4 RX11 := ⟨RX11, TX11, 12, rfl, rfl⟩
theorem fo_11_5 : FO 11 5 RX11 := ⟨RX11, TX11, 12, rfl, rfl⟩
theorem fo_11_6 : FO 11 6 RX11 := ⟨RX11, TX11, 12, rfl, rfl⟩
theorem fo_11_7 : FO 11 7 RX11 := ⟨RX11, TX11, 12, rfl, rfl⟩
theorem fo_11_8 : FO 11 8 RX11 := ⟨RX11, TX11, 12, rfl, rfl⟩
theorem fo_11_9 : FO 11 9 RX11 := ⟨RX11, TX11, 12, rfl, rfl⟩
theorem fo_12_1 : FO 12 1 RX12 := ⟨RX12, TX12, 30, rfl, rfl⟩
theorem fo_12_11 : FO 12 11 RX12 := ⟨RX12, TX12, 30, rfl, rfl⟩
theorem fo_12_13 : FO 12 13 RX12 := ⟨RX12, TX12, 30, rfl, rfl⟩
theorem fo_12_15 : FO 12 15 RX12 := ⟨RX12, TX12, 30, rfl, rfl⟩
theorem fo_12_19 : FO 12 19 RX12 := ⟨RX12, TX12, 30, rfl, rfl⟩
theorem fo_12_2 : FO 12 2 RX12 := ⟨RX12, TX12, 30, rfl, rfl⟩
theorem fo_12_20 : FO 12 20 RX12 := ⟨RX12, TX12, 30, rfl, rfl⟩
theorem fo_12_21 : FO 12 21 RX12 := ⟨RX12, TX12, 30, rfl, rfl⟩
theorem fo_12_22 : FO 12 22 RX12 := ⟨RX12, TX12, 30, rfl, rfl⟩
theorem fo_12_24 : FO 12 24 RX12 := ⟨RX12, TX12, 30, rfl, rfl⟩
theorem fo_12_25 : FO 12 25 RX12 := ⟨RX12, TX12, 30, rfl, rfl⟩
theorem fo_12_26 : FO 12 26 RX12 := ⟨RX12, TX12, 30, rfl, rfl⟩
theorem fo_12_28 : FO 12 28 RX12 := ⟨RX12, TX12, 30, rfl, rfl⟩
theorem fo_12_29 : FO 12 29 RX12 := ⟨RX12, TX12, 30, rfl, rfl⟩
theorem fo_12_3 : FO 12 3 RX12 := ⟨RX12, TX12, 30, rfl, rfl⟩
theorem fo_12_4 : FO 12 4 RX12 := ⟨RX12, TX12, 30, rfl, rfl⟩
theorem fo_12_6 : FO 12 6 RX12 := ⟨RX12, TX12, 30, rfl, rfl⟩
theorem fo_12_8 : FO 12 8 RX12 := ⟨RX12, TX12, 30, rfl, rfl⟩
theorem fo_1_5 : FO 1 5 RX1 := ⟨RX1, TX1, 10, rfl, rfl⟩
theorem fo_1_6 : FO 1 6 RX1 := ⟨RX1, TX1, 10, rfl, rfl⟩
theorem fo_1_7 : FO 1 7 RX1 := ⟨RX1, TX1, 10, rfl, rfl⟩
theorem fo_1_8 : FO 1 8 RX1 := ⟨RX1, TX1, 10, rfl, rfl⟩
theorem fo_1_9 : FO 1 9 RX1 := ⟨RX1, TX1, 10, rfl, rfl⟩
theorem fo_2_0 : FO 2 0 RX2 := ⟨RX2, TX2, 5, rfl, rfl⟩
theorem fo_2_1 : FO 2 1 RX2 := ⟨RX2, TX2, 5, rfl, rfl⟩
theorem fo_3_1 : FO 3 1 RX3 := ⟨RX3, TX3, 2, rfl, rfl⟩
theorem fo_4_5 : FO 4 5 RX4 := ⟨RX4, TX4, 8, rfl, rfl⟩
theorem fo_4_6 : FO 4 6 RX4 := ⟨RX4, TX4, 8, rfl, rfl⟩
theorem fo_4_7 : FO 4 7 RX4 := ⟨RX4, TX4, 8, rfl, rfl⟩
theorem fo_5_0 : FO 5 0 RX5 := ⟨RX5, TX5, 9, rfl, rfl⟩
theorem fo_5_1 : FO 5 1 RX5 := ⟨RX5, TX5, 9, rfl, rfl⟩
theorem fo_5_2 : FO 5 2 RX5 := ⟨RX5, TX5, 9, rfl, rfl⟩
theorem fo_5_3 : FO 5 3 RX5 := ⟨RX5, TX5, 9, rfl, rfl⟩
theorem fo_5_4 : FO 5 4 RX5 := ⟨RX5, TX5, 9, rfl, rfl⟩
theorem fo_5_5 : FO 5 5 RX5 := ⟨RX5, TX5, 9, rfl, rfl⟩
theorem fo_5_6 : FO 5 6 RX5 := ⟨RX5, TX5, 9, rfl, rfl⟩
theorem fo_5_7 : FO 5 7 RX5 := ⟨RX5, TX5, 9, rfl, rfl⟩
theorem fo_6_5 : FO 6 5 RX6 := ⟨RX6, TX6, 7, rfl, rfl⟩
theorem fo_6_6 : FO 6 6 RX6 := ⟨RX6, TX6, 7, rfl, rfl⟩
theorem fo_7_4 : FO 7 4 RX7 := ⟨RX7, TX7, 12, rfl, rfl⟩
theorem fo_7_5 : FO 7 5 RX7 := ⟨RX7, TX7, 12, rfl, rfl⟩
theorem fo_7_6 : FO 7 6 RX7 := ⟨RX7, TX7, 12, rfl, rfl⟩
theorem fo_7_7 : FO 7 7 RX7 := ⟨RX7, TX7, 12, rfl, rfl⟩
theorem fo_7_8 : FO 7 8 RX7 := ⟨RX7, TX7, 12, rfl, rfl⟩
theorem fo_8_1 : FO 8 1 RX8 := ⟨RX8, TX8, 5, rfl, rfl⟩
theorem fo_8_2 : FO 8 2 RX8 := ⟨RX8, TX8, 5, rfl, rfl⟩
theorem ft_0_2 : FT 0 2 (.array .int) true := ⟨RX0, TX0, 6, rfl, tX0_ok 2 (by decide), rfl⟩
theorem ft_0_3 : FT 0 3 (.array .int) true := ⟨RX0, TX0, 6, rfl, tX0_ok 3 (by decide), rfl⟩
theorem ft_0_4 : FT 0 4 (.array .int) true := ⟨RX0, TX0, 6, rfl, tX0_ok 4 (by decide), rfl⟩
theorem ft_0_5 : FT 0 5 (.array .int) true := ⟨RX0, TX0, 6, rfl, tX0_ok 5 (by decide), rfl⟩
theorem ft_10_1 : FT 10 1 (.array .int) true := ⟨RX10, TX10, 3, rfl, tX10_ok 1 (by decide), rfl⟩
theorem ft_10_2 : FT 10 2 (.array .int) true := ⟨RX10, TX10, 3, rfl, tX10_ok 2 (by decide), rfl⟩
theorem ft_11_0 : FT 11 0 (.object "TakenNumbers$Text") true := ⟨RX11, TX11, 12, rfl, tX11_ok 0 (by decide), rfl⟩
theorem ft_11_10 : FT 11 10 (.object "TakenNumbers$Scene") true := ⟨RX11, TX11, 12, rfl, tX11_ok 10 (by decide), rfl⟩
theorem ft_11_11 : FT 11 11 (.object "TakenNumbers$Crowd") true := ⟨RX11, TX11, 12, rfl, tX11_ok 11 (by decide), rfl⟩
theorem ft_11_3 : FT 11 3 (.object "TakenNumbers$Day") true := ⟨RX11, TX11, 12, rfl, tX11_ok 3 (by decide), rfl⟩
theorem ft_11_4 : FT 11 4 (.object "TakenNumbers$DayStack") true := ⟨RX11, TX11, 12, rfl, tX11_ok 4 (by decide), rfl⟩
theorem ft_11_5 : FT 11 5 (.object "TakenNumbers$DayStack") true := ⟨RX11, TX11, 12, rfl, tX11_ok 5 (by decide), rfl⟩
theorem ft_11_6 : FT 11 6 (.object "TakenNumbers$Words") true := ⟨RX11, TX11, 12, rfl, tX11_ok 6 (by decide), rfl⟩
theorem ft_11_7 : FT 11 7 (.object "TakenNumbers$Book") true := ⟨RX11, TX11, 12, rfl, tX11_ok 7 (by decide), rfl⟩
theorem ft_11_8 : FT 11 8 (.object "TakenNumbers$WaySums") true := ⟨RX11, TX11, 12, rfl, tX11_ok 8 (by decide), rfl⟩
theorem ft_11_9 : FT 11 9 (.object "TakenNumbers$Sayings") true := ⟨RX11, TX11, 12, rfl, tX11_ok 9 (by decide), rfl⟩
theorem ft_12_1 : FT 12 1 (.array .int) true := ⟨RX12, TX12, 30, rfl, tX12_ok 1 (by decide), rfl⟩
theorem ft_12_11 : FT 12 11 (.array .int) true := ⟨RX12, TX12, 30, rfl, tX12_ok 11 (by decide), rfl⟩
theorem ft_12_13 : FT 12 13 (.array .int) true := ⟨RX12, TX12, 30, rfl, tX12_ok 13 (by decide), rfl⟩
theorem ft_12_15 : FT 12 15 (.array .int) true := ⟨RX12, TX12, 30, rfl, tX12_ok 15 (by decide), rfl⟩
theorem ft_12_19 : FT 12 19 (.array .int) true := ⟨RX12, TX12, 30, rfl, tX12_ok 19 (by decide), rfl⟩
theorem ft_12_2 : FT 12 2 (.array .int) true := ⟨RX12, TX12, 30, rfl, tX12_ok 2 (by decide), rfl⟩
theorem ft_12_20 : FT 12 20 (.array .int) true := ⟨RX12, TX12, 30, rfl, tX12_ok 20 (by decide), rfl⟩
theorem ft_12_21 : FT 12 21 (.array .int) true := ⟨RX12, TX12, 30, rfl, tX12_ok 21 (by decide), rfl⟩
theorem ft_12_22 : FT 12 22 (.array .int) true := ⟨RX12, TX12, 30, rfl, tX12_ok 22 (by decide), rfl⟩
theorem ft_12_24 : FT 12 24 (.array .int) true := ⟨RX12, TX12, 30, rfl, tX12_ok 24 (by decide), rfl⟩
theorem ft_12_25 : FT 12 25 (.array .int) true := ⟨RX12, TX12, 30, rfl, tX12_ok 25 (by decide), rfl⟩
theorem ft_12_26 : FT 12 26 (.array .int) true := ⟨RX12, TX12, 30, rfl, tX12_ok 26 (by decide), rfl⟩
theorem ft_12_28 : FT 12 28 (.array .int) true := ⟨RX12, TX12, 30, rfl, tX12_ok 28 (by decide), rfl⟩
theorem ft_12_29 : FT 12 29 (.array .int) true := ⟨RX12, TX12, 30, rfl, tX12_ok 29 (by decide), rfl⟩
theorem ft_12_3 : FT 12 3 (.array .int) true := ⟨RX12, TX12, 30, rfl, tX12_ok 3 (by decide), rfl⟩
theorem ft_12_4 : FT 12 4 (.array .int) true := ⟨RX12, TX12, 30, rfl, tX12_ok 4 (by decide), rfl⟩
theorem ft_12_6 : FT 12 6 (.array .int) true := ⟨RX12, TX12, 30, rfl, tX12_ok 6 (by decide), rfl⟩
theorem ft_12_8 : FT 12 8 (.array .int) true := ⟨RX12, TX12, 30, rfl, tX12_ok 8 (by decide), rfl⟩
theorem ft_1_5 : FT 1 5 (.array .int) true := ⟨RX1, TX1, 10, rfl, tX1_ok 5 (by decide), rfl⟩
theorem ft_1_6 : FT 1 6 (.object "TakenNumbers$Sayings") true := ⟨RX1, TX1, 10, rfl, tX1_ok 6 (by decide), rfl⟩
theorem ft_1_7 : FT 1 7 (.array .int) true := ⟨RX1, TX1, 10, rfl, tX1_ok 7 (by decide), rfl⟩
theorem ft_1_8 : FT 1 8 (.array .int) true := ⟨RX1, TX1, 10, rfl, tX1_ok 8 (by decide), rfl⟩
theorem ft_1_9 : FT 1 9 (.array .int) true := ⟨RX1, TX1, 10, rfl, tX1_ok 9 (by decide), rfl⟩
theorem ft_2_0 : FT 2 0 (.array .int) true := ⟨RX2, TX2, 5, rfl, tX2_ok 0 (by decide), rfl⟩
theorem ft_2_1 : FT 2 1 (.array .int) true := ⟨RX2, TX2, 5, rfl, tX2_ok 1 (by decide), rfl⟩
theorem ft_3_1 : FT 3 1 (.array (.object "TakenNumbers$Day")) true := ⟨RX3, TX3, 2, rfl, tX3_ok 1 (by decide), rfl⟩
theorem ft_4_5 : FT 4 5 (.array .int) true := ⟨RX4, TX4, 8, rfl, tX4_ok 5 (by decide), rfl⟩
theorem ft_4_6 : FT 4 6 (.array .int) true := ⟨RX4, TX4, 8, rfl, tX4_ok 6 (by decide), rfl⟩
theorem ft_4_7 : FT 4 7 (.array .int) true := ⟨RX4, TX4, 8, rfl, tX4_ok 7 (by decide), rfl⟩
theorem ft_5_0 : FT 5 0 (.object "TakenNumbers$Table") true := ⟨RX5, TX5, 9, rfl, tX5_ok 0 (by decide), rfl⟩
theorem ft_5_1 : FT 5 1 (.array .int) true := ⟨RX5, TX5, 9, rfl, tX5_ok 1 (by decide), rfl⟩
theorem ft_5_2 : FT 5 2 (.array .int) true := ⟨RX5, TX5, 9, rfl, tX5_ok 2 (by decide), rfl⟩
theorem ft_5_3 : FT 5 3 (.array .int) true := ⟨RX5, TX5, 9, rfl, tX5_ok 3 (by decide), rfl⟩
theorem ft_5_4 : FT 5 4 (.array .int) true := ⟨RX5, TX5, 9, rfl, tX5_ok 4 (by decide), rfl⟩
theorem ft_5_5 : FT 5 5 (.array .int) true := ⟨RX5, TX5, 9, rfl, tX5_ok 5 (by decide), rfl⟩
theorem ft_5_6 : FT 5 6 (.array .int) true := ⟨RX5, TX5, 9, rfl, tX5_ok 6 (by decide), rfl⟩
theorem ft_5_7 : FT 5 7 (.array .int) true := ⟨RX5, TX5, 9, rfl, tX5_ok 7 (by decide), rfl⟩
theorem ft_6_5 : FT 6 5 (.array .int) true := ⟨RX6, TX6, 7, rfl, tX6_ok 5 (by decide), rfl⟩
theorem ft_6_6 : FT 6 6 (.array .int) true := ⟨RX6, TX6, 7, rfl, tX6_ok 6 (by decide), rfl⟩
theorem ft_7_4 : FT 7 4 (.array .int) true := ⟨RX7, TX7, 12, rfl, tX7_ok 4 (by decide), rfl⟩
theorem ft_7_5 : FT 7 5 (.array .int) true := ⟨RX7, TX7, 12, rfl, tX7_ok 5 (by decide), rfl⟩
theorem ft_7_6 : FT 7 6 (.array .int) true := ⟨RX7, TX7, 12, rfl, tX7_ok 6 (by decide), rfl⟩
theorem ft_7_7 : FT 7 7 (.array .int) true := ⟨RX7, TX7, 12, rfl, tX7_ok 7 (by decide), rfl⟩
theorem ft_7_8 : FT 7 8 (.array .int) true := ⟨RX7, TX7, 12, rfl, tX7_ok 8 (by decide), rfl⟩
theorem ft_8_1 : FT 8 1 (.array .char) true := ⟨RX8, TX8, 5, rfl, tX8_ok 1 (by decide), rfl⟩
theorem ft_8_2 : FT 8 2 (.array .int) true := ⟨RX8, TX8, 5, rfl, tX8_ok 2 (by decide), rfl⟩
theorem lc_X0_init : LC yX0_init bX0_init 1 none 0 := ⟨mt (i := 221) (by first | rfl | decide +kernel) (by decide +kernel), mt (i := 59) (by decide +kernel) (by decide +kernel), ⟨by decide +kernel, by decide +kernel, by decide +kernel⟩, by decide⟩
theorem lc_X10_init : LC yX10_init bX10_init 1 none 0 := ⟨mt (i := 204) (by first | rfl | decide +kernel) (by decide +kernel), mt (i := 58) (by decide +kernel) (by decide +kernel), ⟨by decide +kernel, by decide +kernel, by decide +kernel⟩, by decide⟩
theorem lc_X1_init : LC yX1_init bX1_init 2 none 1 := ⟨mt (i := 382) (by first | rfl | decide +kernel) (by decide +kernel), mt (i := 64) (by decide +kernel) (by decide +kernel), ⟨by decide +kernel, by decide +kernel, by decide +kernel⟩, by decide⟩
theorem lc_X2_init : LC yX2_init bX2_init 1 none 0 := ⟨mt (i := 155) (by first | rfl | decide +kernel) (by decide +kernel), mt (i := 55) (by decide +kernel) (by decide +kernel), ⟨by decide +kernel, by decide +kernel, by decide +kernel⟩, by decide⟩
theorem lc_X3_init : LC yX3_init bX3_init 3 none 1 := ⟨mt (i := 184) (by first | rfl | decide +kernel) (by decide +kernel), mt (i := 56) (by decide +kernel) (by decide +kernel), ⟨by decide +kernel, by decide +kernel, by decide +kernel⟩, by decide⟩
theorem lc_X4_init : LC yX4_init bX4_init 1 none 0 := ⟨mt (i := 109) (by first | rfl | decide +kernel) (by decide +kernel), mt (i := 54) (by decide +kernel) (by decide +kernel), ⟨by decide +kernel, by decide +kernel, by decide +kernel⟩, by decide⟩
theorem lc_X5_init : LC yX5_init bX5_init 1 none 0 := ⟨mt (i := 264) (by first | rfl | decide +kernel) (by decide +kernel), mt (i := 61) (by decide +kernel) (by decide +kernel), ⟨by decide +kernel, by decide +kernel, by decide +kernel⟩, by decide⟩
theorem lc_X6_init : LC yX6_init bX6_init 1 none 0 := ⟨mt (i := 345) (by first | rfl | decide +kernel) (by decide +kernel), mt (i := 63) (by decide +kernel) (by decide +kernel), ⟨by decide +kernel, by decide +kernel, by decide +kernel⟩, by decide⟩
theorem lc_X7_init : LC yX7_init bX7_init 1 none 0 := ⟨mt (i := 270) (by first | rfl | decide +kernel) (by decide +kernel), mt (i := 62) (by decide +kernel) (by decide +kernel), ⟨by decide +kernel, by decide +kernel, by decide +kernel⟩, by decide⟩
theorem lc_X8_init : LC yX8_init bX8_init 1 none 0 := ⟨mt (i := 84) (by first | rfl | decide +kernel) (by decide +kernel), mt (i := 53) (by decide +kernel) (by decide +kernel), ⟨by decide +kernel, by decide +kernel, by decide +kernel⟩, by decide⟩
theorem lc_X9_init : LC yX9_init bX9_init 1 none 0 := ⟨mt (i := 248) (by first | rfl | decide +kernel) (by decide +kernel), mt (i := 60) (by decide +kernel) (by decide +kernel), ⟨by decide +kernel, by decide +kernel, by decide +kernel⟩, by decide⟩
theorem li_X11_18 : LIN RX11 18 yX4_init := ⟨List.mem_of_getElem? (i := 107) (by decide +kernel), mt (i := 108) (by decide +kernel) (by decide +kernel), rfl⟩
theorem li_X11_28 : LIN RX11 28 yX2_init := ⟨List.mem_of_getElem? (i := 153) (by decide +kernel), mt (i := 154) (by decide +kernel) (by decide +kernel), rfl⟩
theorem li_X11_35 : LI RX11 35 yX3_init := ⟨mt (i := 182) (by decide +kernel) (by decide +kernel), mt (i := 183) (by decide +kernel) (by decide +kernel), rfl⟩
theorem li_X11_47 : LIN RX11 47 yX10_init := ⟨List.mem_of_getElem? (i := 202) (by decide +kernel), mt (i := 203) (by decide +kernel) (by decide +kernel), rfl⟩
theorem li_X11_54 : LIN RX11 54 yX0_init := ⟨List.mem_of_getElem? (i := 219) (by decide +kernel), mt (i := 220) (by decide +kernel) (by decide +kernel), rfl⟩
theorem li_X11_61 : LIN RX11 61 yX9_init := ⟨List.mem_of_getElem? (i := 246) (by decide +kernel), mt (i := 247) (by decide +kernel) (by decide +kernel), rfl⟩
theorem li_X11_68 : LIN RX11 68 yX5_init := ⟨List.mem_of_getElem? (i := 262) (by decide +kernel), mt (i := 263) (by decide +kernel) (by decide +kernel), rfl⟩
theorem li_X11_75 : LIN RX11 75 yX6_init := ⟨List.mem_of_getElem? (i := 343) (by decide +kernel), mt (i := 344) (by decide +kernel) (by decide +kernel), rfl⟩
theorem li_X11_82 : LI RX11 82 yX1_init := ⟨mt (i := 380) (by decide +kernel) (by decide +kernel), mt (i := 381) (by decide +kernel) (by decide +kernel), rfl⟩
theorem li_X11_9 : LIN RX11 9 yX8_init := ⟨List.mem_of_getElem? (i := 82) (by decide +kernel), mt (i := 83) (by decide +kernel) (by decide +kernel), rfl⟩
theorem li_X3_21 : LIN RX3 21 yX2_init := ⟨List.mem_of_getElem? (i := 191) (by decide +kernel), mt (i := 154) (by decide +kernel) (by decide +kernel), rfl⟩
theorem li_X5_13 : LIN RX5 13 yX7_init := ⟨List.mem_of_getElem? (i := 268) (by decide +kernel), mt (i := 269) (by decide +kernel) (by decide +kernel), rfl⟩
theorem lm_X3_7 : Cond.methodLink RX3 7 Lib.Math.max.name ∈ TT := mt (i := 186) (by decide +kernel) (by decide +kernel)
theorem ln_X11_16 : LN RX11 16 RX4 8 := ⟨mt (i := 105) (by decide +kernel) (by decide +kernel), mt (i := 106) (by decide +kernel) (by decide +kernel), mt (i := 54) (by decide +kernel) (by decide +kernel)⟩
theorem ln_X11_26 : LN RX11 26 RX2 5 := ⟨mt (i := 151) (by decide +kernel) (by decide +kernel), mt (i := 152) (by decide +kernel) (by decide +kernel), mt (i := 55) (by decide +kernel) (by decide +kernel)⟩
theorem ln_X11_33 : LN RX11 33 RX3 2 := ⟨mt (i := 180) (by decide +kernel) (by decide +kernel), mt (i := 181) (by decide +kernel) (by decide +kernel), mt (i := 56) (by decide +kernel) (by decide +kernel)⟩
theorem ln_X11_45 : LN RX11 45 RX10 3 := ⟨mt (i := 200) (by decide +kernel) (by decide +kernel), mt (i := 201) (by decide +kernel) (by decide +kernel), mt (i := 58) (by decide +kernel) (by decide +kernel)⟩
theorem ln_X11_52 : LN RX11 52 RX0 6 := ⟨mt (i := 217) (by decide +kernel) (by decide +kernel), mt (i := 218) (by decide +kernel) (by decide +kernel), mt (i := 59) (by decide +kernel) (by decide +kernel)⟩
theorem ln_X11_59 : LN RX11 59 RX9 3 := ⟨mt (i := 244) (by decide +kernel) (by decide +kernel), mt (i := 245) (by decide +kernel) (by decide +kernel), mt (i := 60) (by decide +kernel) (by decide +kernel)⟩
theorem ln_X11_66 : LN RX11 66 RX5 9 := ⟨mt (i := 260) (by decide +kernel) (by decide +kernel), mt (i := 261) (by decide +kernel) (by decide +kernel), mt (i := 61) (by decide +kernel) (by decide +kernel)⟩
theorem ln_X11_7 : LN RX11 7 RX8 5 := ⟨mt (i := 80) (by decide +kernel) (by decide +kernel), mt (i := 81) (by decide +kernel) (by decide +kernel), mt (i := 53) (by decide +kernel) (by decide +kernel)⟩
theorem ln_X11_73 : LN RX11 73 RX6 7 := ⟨mt (i := 341) (by decide +kernel) (by decide +kernel), mt (i := 342) (by decide +kernel) (by decide +kernel), mt (i := 63) (by decide +kernel) (by decide +kernel)⟩
theorem ln_X11_80 : LN RX11 80 RX1 10 := ⟨mt (i := 378) (by decide +kernel) (by decide +kernel), mt (i := 379) (by decide +kernel) (by decide +kernel), mt (i := 64) (by decide +kernel) (by decide +kernel)⟩
theorem ln_X3_13 : LN RX3 13 RX2 5 := ⟨mt (i := 189) (by decide +kernel) (by decide +kernel), mt (i := 152) (by decide +kernel) (by decide +kernel), mt (i := 55) (by decide +kernel) (by decide +kernel)⟩
theorem ln_X5_11 : LN RX5 11 RX7 12 := ⟨mt (i := 266) (by decide +kernel) (by decide +kernel), mt (i := 267) (by decide +kernel) (by decide +kernel), mt (i := 62) (by decide +kernel) (by decide +kernel)⟩
theorem lo_X0_3 : Cond.methodLink RX0 3 Lib.objectInit ∈ TT := mt (i := 222) (by decide +kernel) (by decide +kernel)
theorem lo_X10_3 : Cond.methodLink RX10 3 Lib.objectInit ∈ TT := mt (i := 205) (by decide +kernel) (by decide +kernel)
theorem lo_X11_1 : Cond.methodLink RX11 1 Lib.objectInit ∈ TT := mt (i := 77) (by decide +kernel) (by decide +kernel)
theorem lo_X12_7 : Cond.methodLink RX12 7 Lib.objectInit ∈ TT := mt (i := 994) (by decide +kernel) (by decide +kernel)
theorem lo_X1_3 : Cond.methodLink RX1 3 Lib.objectInit ∈ TT := mt (i := 383) (by decide +kernel) (by decide +kernel)
theorem lo_X2_3 : Cond.methodLink RX2 3 Lib.objectInit ∈ TT := mt (i := 156) (by decide +kernel) (by decide +kernel)
theorem lo_X3_1 : Cond.methodLink RX3 1 Lib.objectInit ∈ TT := mt (i := 185) (by decide +kernel) (by decide +kernel)
theorem lo_X4_3 : Cond.methodLink RX4 3 Lib.objectInit ∈ TT := mt (i := 110) (by decide +kernel) (by decide +kernel)
theorem lo_X5_5 : Cond.methodLink RX5 5 Lib.objectInit ∈ TT := mt (i := 265) (by decide +kernel) (by decide +kernel)
theorem lo_X6_3 : Cond.methodLink RX6 3 Lib.objectInit ∈ TT := mt (i := 346) (by decide +kernel) (by decide +kernel)
theorem lo_X7_3 : Cond.methodLink RX7 3 Lib.objectInit ∈ TT := mt (i := 271) (by decide +kernel) (by decide +kernel)
theorem lo_X8_3 : Cond.methodLink RX8 3 Lib.objectInit ∈ TT := mt (i := 85) (by decide +kernel) (by decide +kernel)
theorem lo_X9_3 : Cond.methodLink RX9 3 Lib.objectInit ∈ TT := mt (i := 249) (by decide +kernel) (by decide +kernel)
theorem la_int : Cond.arrayClass .int ∈ TT := mt (i := 104) (by decide +kernel) (by decide +kernel)
theorem la_char : Cond.arrayClass .char ∈ TT := mt (i := 103) (by decide +kernel) (by decide +kernel)
theorem la_over : Cond.arrayOver (.object RX2) ∈ lw_tbl := List.mem_of_getElem? (i := 190) (by decide +kernel)
theorem cE_ni {G : GG} {h : Hp} {a N : Nat} (hk : kd a = 13 ∨ kd a = 16) (hl : ln a = N) : cE G (sz h a) a = .inl (G.2.1, N, .inl (fun _ => 0)) := by
  rw [cE_i G _ hk, hl]
  simp [sz]
theorem cE_nc {G : GG} {h : Hp} {a N : Nat} (hk : kd a = 14) (hl : ln a = N) : cE G (sz h a) a = .inl (G.2.2.1, N, .inl (fun _ => 0)) := by
  rw [cE_c G _ hk, hl]
  simp [sz]
theorem dX0_init_0 : decode bX0_init 0 = .ok (.aload_n 0, 1) := by decide +kernel
theorem dX0_init_1 : decode bX0_init 1 = .ok (.invokespecial 3, 3) := by decide +kernel
theorem dX0_init_4 : decode bX0_init 4 = .ok (.aload_n 0, 1) := by decide +kernel
theorem dX0_init_5 : decode bX0_init 5 = .ok (.bipush 6, 2) := by decide +kernel
theorem dX0_init_7 : decode bX0_init 7 = .ok (.newarray .int, 2) := by decide +kernel
theorem dX0_init_9 : decode bX0_init 9 = .ok (.putfield 9, 3) := by decide +kernel
theorem dX0_init_12 : decode bX0_init 12 = .ok (.aload_n 0, 1) := by decide +kernel
theorem dX0_init_13 : decode bX0_init 13 = .ok (.bipush 6, 2) := by decide +kernel
theorem dX0_init_15 : decode bX0_init 15 = .ok (.newarray .int, 2) := by decide +kernel
theorem dX0_init_17 : decode bX0_init 17 = .ok (.putfield 15, 3) := by decide +kernel
theorem dX0_init_20 : decode bX0_init 20 = .ok (.aload_n 0, 1) := by decide +kernel
theorem dX0_init_21 : decode bX0_init 21 = .ok (.bipush 6, 2) := by decide +kernel
theorem dX0_init_23 : decode bX0_init 23 = .ok (.newarray .int, 2) := by decide +kernel
theorem dX0_init_25 : decode bX0_init 25 = .ok (.putfield 18, 3) := by decide +kernel
theorem dX0_init_28 : decode bX0_init 28 = .ok (.aload_n 0, 1) := by decide +kernel
theorem dX0_init_29 : decode bX0_init 29 = .ok (.bipush 6, 2) := by decide +kernel
theorem dX0_init_31 : decode bX0_init 31 = .ok (.newarray .int, 2) := by decide +kernel
theorem dX0_init_33 : decode bX0_init 33 = .ok (.putfield 21, 3) := by decide +kernel
theorem dX0_init_36 : decode bX0_init 36 = .ok (.return_, 1) := by decide +kernel
def f_X0_init (n : Nat) (h : Hp) (x0 : Nat) : Option (Unit × Hp) :=
  gd (kd x0 = 0) <|
  gd (kd (n + 1) = 13) <|
  gd (ln (n + 1) = 6) <|
  lt (sz h (n + 1)) <| fun h3 =>
  lt (sr h3 x0 2 (n + 1)) <| fun h5 =>
  gd (kd (n + 2) = 13) <|
  gd (ln (n + 2) = 6) <|
  lt (sz h5 (n + 2)) <| fun h9 =>
  lt (sr h9 x0 3 (n + 2)) <| fun h11 =>
  gd (kd (n + 3) = 13) <|
  gd (ln (n + 3) = 6) <|
  lt (sz h11 (n + 3)) <| fun h15 =>
  lt (sr h15 x0 4 (n + 3)) <| fun h17 =>
  gd (kd (n + 4) = 13) <|
  gd (ln (n + 4) = 6) <|
  lt (sz h17 (n + 4)) <| fun h21 =>
  lt (sr h21 x0 5 (n + 4)) <| fun h23 =>
  some ((), h23)
section
variable {p : Program} {l : Launch} {e : Env} {s : State} {m : MethodId} {args : Array Value} {below : List Frame} {meth : Method} {c : Code} {G : GG} {n : Nat} {h' : Hp} {rv : Unit}
set_option maxHeartbeats 4000000
set_option maxRecDepth 100000
theorem k_X0_init (l : Launch) (G : GG) (n : Nat) {h h' : Hp} {x0 : Nat} {rv : Unit} (b0 : 1 ≤ x0 ∧ x0 ≤ n) (hf : f_X0_init n h x0 = some (rv, h')) : CT l G n (n + 4) yX0_init (.code yX0_init bX0_init 1 none) 1 4 24 [.ref (bs G + x0)] h h' none := by
  refine ct_of (maxL := 1) (ret := none) (bytes := bX0_init) (by decide) (Nat.le_of_ble_eq_true rfl) (fun p e s m below meth c C0 X ls hl => ?_)
  have hl : lv_has ls 1 [(0, .ref (bs G + x0))] := hl
  obtain ⟨hx, hb, hr, hml, hown, hts, hK, hlocks, hnm⟩ := id C0
  unfold f_X0_init at hf
  obtain ⟨o0, hf⟩ := gd_e hf
  refine lv_aload_n hx hb dX0_init_0 rfl (lv_at hl 0 rfl) ?_
  refine n_obj hx hb (hml.trans hl.1.symm) hown hts lo_X0_3 (by decide) (Nat.le_of_ble_eq_true rfl) dX0_init_1 ?_
  refine lv_aload_n hx hb dX0_init_4 rfl (lv_at hl 0 rfl) ?_
  refine lv_bipush (v := (6 : Int32)) hx hb dX0_init_5 (by decide) ?_
  obtain ⟨g1, hf⟩ := gd_e hf
  obtain ⟨g2, hf⟩ := gd_e hf
  refine n_arr (at0 := .int) (ty := .int) (t0 := 0) (cA0 := G.2.1) (N := 6) (cells1 := 1) (slots1 := 6) (n1 := (n + 1)) hx hb hts hK X rfl rfl (fun _ _ z => z) la_int rfl (cE_ni (Or.inl g1) g2) (by decide) (by decide) (by decide) rfl rfl rfl (by decide) (by decide) dX0_init_7 (fun H X => ?_)
  obtain ⟨h3, e4, hf⟩ := lt_e hf
  rw [← e4] at X
  refine g_PFa hx hb hts hown hK X o0 (by omega) (by omega) fl_X0_9 ft_0_2 (by decide) rfl hnm fo_0_2 (fun _ => rfl) (fun _ => rfl) dX0_init_9 (fun H locs X => ?_)
  obtain ⟨h5, e6, hf⟩ := lt_e hf
  rw [← e6] at X
  refine lv_aload_n hx hb dX0_init_12 rfl (lv_at hl 0 rfl) ?_
  refine lv_bipush (v := (6 : Int32)) hx hb dX0_init_13 (by decide) ?_
  obtain ⟨g7, hf⟩ := gd_e hf
  obtain ⟨g8, hf⟩ := gd_e hf
  refine n_arr (at0 := .int) (ty := .int) (t0 := 0) (cA0 := G.2.1) (N := 6) (cells1 := 2) (slots1 := 12) (n1 := (n + 2)) hx hb hts hK X rfl rfl (fun _ _ z => z) la_int rfl (cE_ni (Or.inl g7) g8) (by decide) (by decide) (by decide) rfl rfl rfl (by decide) (by decide) dX0_init_15 (fun H X => ?_)
  obtain ⟨h9, e10, hf⟩ := lt_e hf
  rw [← e10] at X
  refine g_PFa hx hb hts hown hK X o0 (by omega) (by omega) fl_X0_15 ft_0_3 (by decide) rfl hnm fo_0_3 (fun _ => rfl) (fun _ => rfl) dX0_init_17 (fun H locs X => ?_)
  obtain ⟨h11, e12, hf⟩ := lt_e hf
  rw [← e12] at X
  refine lv_aload_n hx hb dX0_init_20 rfl (lv_at hl 0 rfl) ?_
  refine lv_bipush (v := (6 : Int32)) hx hb dX0_init_21 (by decide) ?_
  obtain ⟨g13, hf⟩ := gd_e hf
  obtain ⟨g14, hf⟩ := gd_e hf
  refine n_arr (at0 := .int) (ty := .int) (t0 := 0) (cA0 := G.2.1) (N := 6) (cells1 := 3) (slots1 := 18) (n1 := (n + 3)) hx hb hts hK X rfl rfl (fun _ _ z => z) la_int rfl (cE_ni (Or.inl g13) g14) (by decide) (by decide) (by decide) rfl rfl rfl (by decide) (by decide) dX0_init_23 (fun H X => ?_)
  obtain ⟨h15, e16, hf⟩ := lt_e hf
  rw [← e16] at X
  refine g_PFa hx hb hts hown hK X o0 (by omega) (by omega) fl_X0_18 ft_0_4 (by decide) rfl hnm fo_0_4 (fun _ => rfl) (fun _ => rfl) dX0_init_25 (fun H locs X => ?_)
  obtain ⟨h17, e18, hf⟩ := lt_e hf
  rw [← e18] at X
  refine lv_aload_n hx hb dX0_init_28 rfl (lv_at hl 0 rfl) ?_
  refine lv_bipush (v := (6 : Int32)) hx hb dX0_init_29 (by decide) ?_
  obtain ⟨g19, hf⟩ := gd_e hf
  obtain ⟨g20, hf⟩ := gd_e hf
  refine n_arr (at0 := .int) (ty := .int) (t0 := 0) (cA0 := G.2.1) (N := 6) (cells1 := 4) (slots1 := 24) (n1 := (n + 4)) hx hb hts hK X rfl rfl (fun _ _ z => z) la_int rfl (cE_ni (Or.inl g19) g20) (by decide) (by decide) (by decide) rfl rfl rfl (by decide) (by decide) dX0_init_31 (fun H X => ?_)
  obtain ⟨h21, e22, hf⟩ := lt_e hf
  rw [← e22] at X
  refine g_PFa hx hb hts hown hK X o0 (by omega) (by omega) fl_X0_21 ft_0_5 (by decide) rfl hnm fo_0_5 (fun _ => rfl) (fun _ => rfl) dX0_init_33 (fun H locs X => ?_)
  obtain ⟨h23, e24, hf⟩ := lt_e hf
  rw [← e24] at X
  exact r_V hx hb hr hlocks X hf dX0_init_36
end
theorem dX1_init_0 : decode bX1_init 0 = .ok (.aload_n 0, 1) := by decide +kernel
theorem dX1_init_1 : decode bX1_init 1 = .ok (.invokespecial 3, 3) := by decide +kernel
theorem dX1_init_4 : decode bX1_init 4 = .ok (.aload_n 0, 1) := by decide +kernel
theorem dX1_init_5 : decode bX1_init 5 = .ok (.bipush 6, 2) := by decide +kernel
theorem dX1_init_7 : decode bX1_init 7 = .ok (.newarray .int, 2) := by decide +kernel
theorem dX1_init_9 : decode bX1_init 9 = .ok (.putfield 9, 3) := by decide +kernel
theorem dX1_init_12 : decode bX1_init 12 = .ok (.aload_n 0, 1) := by decide +kernel
theorem dX1_init_13 : decode bX1_init 13 = .ok (.bipush 100, 2) := by decide +kernel
theorem dX1_init_15 : decode bX1_init 15 = .ok (.newarray .int, 2) := by decide +kernel
theorem dX1_init_17 : decode bX1_init 17 = .ok (.putfield 15, 3) := by decide +kernel
theorem dX1_init_20 : decode bX1_init 20 = .ok (.aload_n 0, 1) := by decide +kernel
theorem dX1_init_21 : decode bX1_init 21 = .ok (.bipush 6, 2) := by decide +kernel
theorem dX1_init_23 : decode bX1_init 23 = .ok (.newarray .int, 2) := by decide +kernel
theorem dX1_init_25 : decode bX1_init 25 = .ok (.putfield 18, 3) := by decide +kernel
theorem dX1_init_28 : decode bX1_init 28 = .ok (.aload_n 0, 1) := by decide +kernel
theorem dX1_init_29 : decode bX1_init 29 = .ok (.bipush 36, 2) := by decide +kernel
theorem dX1_init_31 : decode bX1_init 31 = .ok (.newarray .int, 2) := by decide +kernel
theorem dX1_init_33 : decode bX1_init 33 = .ok (.putfield 21, 3) := by decide +kernel
theorem dX1_init_36 : decode bX1_init 36 = .ok (.aload_n 0, 1) := by decide +kernel
theorem dX1_init_37 : decode bX1_init 37 = .ok (.aload_n 1, 1) := by decide +kernel
theorem dX1_init_38 : decode bX1_init 38 = .ok (.putfield 24, 3) := by decide +kernel
theorem dX1_init_41 : decode bX1_init 41 = .ok (.return_, 1) := by decide +kernel
def f_X1_init (n : Nat) (h : Hp) (x0 : Nat) (x1 : Nat) : Option (Unit × Hp) :=
  gd (kd x0 = 1) <|
  gd (kd x1 = 5) <|
  gd (kd (n + 1) = 13) <|
  gd (ln (n + 1) = 6) <|
  lt (sz h (n + 1)) <| fun h3 =>
  lt (sr h3 x0 5 (n + 1)) <| fun h5 =>
  gd (kd (n + 2) = 13) <|
  gd (ln (n + 2) = 100) <|
  lt (sz h5 (n + 2)) <| fun h9 =>
  lt (sr h9 x0 7 (n + 2)) <| fun h11 =>
  gd (kd (n + 3) = 13) <|
  gd (ln (n + 3) = 6) <|
  lt (sz h11 (n + 3)) <| fun h15 =>
  lt (sr h15 x0 8 (n + 3)) <| fun h17 =>
  gd (kd (n + 4) = 13) <|
  gd (ln (n + 4) = 36) <|
  lt (sz h17 (n + 4)) <| fun h21 =>
  lt (sr h21 x0 9 (n + 4)) <| fun h23 =>
  lt (sr h23 x0 6 x1) <| fun h25 =>
  some ((), h25)
section
variable {p : Program} {l : Launch} {e : Env} {s : State} {m : MethodId} {args : Array Value} {below : List Frame} {meth : Method} {c : Code} {G : GG} {n : Nat} {h' : Hp} {rv : Unit}
set_option maxHeartbeats 4000000
set_option maxRecDepth 100000
theorem k_X1_init (l : Launch) (G : GG) (n : Nat) {h h' : Hp} {x0 : Nat} {x1 : Nat} {rv : Unit} (b0 : 1 ≤ x0 ∧ x0 ≤ n) (b1 : 1 ≤ x1 ∧ x1 ≤ n) (hf : f_X1_init n h x0 x1 = some (rv, h')) : CT l G n (n + 4) yX1_init (.code yX1_init bX1_init 2 none) 1 4 148 [.ref (bs G + x0), .ref (bs G + x1)] h h' none := by
  refine ct_of (maxL := 2) (ret := none) (bytes := bX1_init) (by decide) (Nat.le_of_ble_eq_true rfl) (fun p e s m below meth c C0 X ls hl => ?_)
  have hl : lv_has ls 2 [(0, .ref (bs G + x0)), (1, .ref (bs G + x1))] := hl
  obtain ⟨hx, hb, hr, hml, hown, hts, hK, hlocks, hnm⟩ := id C0
  unfold f_X1_init at hf
  obtain ⟨o0, hf⟩ := gd_e hf
  obtain ⟨o1, hf⟩ := gd_e hf
  refine lv_aload_n hx hb dX1_init_0 rfl (lv_at hl 0 rfl) ?_
  refine n_obj hx hb (hml.trans hl.1.symm) hown hts lo_X1_3 (by decide) (Nat.le_of_ble_eq_true rfl) dX1_init_1 ?_
  refine lv_aload_n hx hb dX1_init_4 rfl (lv_at hl 0 rfl) ?_
  refine lv_bipush (v := (6 : Int32)) hx hb dX1_init_5 (by decide) ?_
  obtain ⟨g1, hf⟩ := gd_e hf
  obtain ⟨g2, hf⟩ := gd_e hf
  refine n_arr (at0 := .int) (ty := .int) (t0 := 0) (cA0 := G.2.1) (N := 6) (cells1 := 1) (slots1 := 6) (n1 := (n + 1)) hx hb hts hK X rfl rfl (fun _ _ z => z) la_int rfl (cE_ni (Or.inl g1) g2) (by decide) (by decide) (by decide) rfl rfl rfl (by decide) (by decide) dX1_init_7 (fun H X => ?_)
  obtain ⟨h3, e4, hf⟩ := lt_e hf
  rw [← e4] at X
  refine g_PFa hx hb hts hown hK X o0 (by omega) (by omega) fl_X1_9 ft_1_5 (by decide) rfl hnm fo_1_5 (fun _ => rfl) (fun _ => rfl) dX1_init_9 (fun H locs X => ?_)
  obtain ⟨h5, e6, hf⟩ := lt_e hf
  rw [← e6] at X
  refine lv_aload_n hx hb dX1_init_12 rfl (lv_at hl 0 rfl) ?_
  refine lv_bipush (v := (100 : Int32)) hx hb dX1_init_13 (by decide) ?_
  obtain ⟨g7, hf⟩ := gd_e hf
  obtain ⟨g8, hf⟩ := gd_e hf
  refine n_arr (at0 := .int) (ty := .int) (t0 := 0) (cA0 := G.2.1) (N := 100) (cells1 := 2) (slots1 := 106) (n1 := (n + 2)) hx hb hts hK X rfl rfl (fun _ _ z => z) la_int rfl (cE_ni (Or.inl g7) g8) (by decide) (by decide) (by decide) rfl rfl rfl (by decide) (by decide) dX1_init_15 (fun H X => ?_)
  obtain ⟨h9, e10, hf⟩ := lt_e hf
  rw [← e10] at X
  refine g_PFa hx hb hts hown hK X o0 (by omega) (by omega) fl_X1_15 ft_1_7 (by decide) rfl hnm fo_1_7 (fun _ => rfl) (fun _ => rfl) dX1_init_17 (fun H locs X => ?_)
  obtain ⟨h11, e12, hf⟩ := lt_e hf
  rw [← e12] at X
  refine lv_aload_n hx hb dX1_init_20 rfl (lv_at hl 0 rfl) ?_
  refine lv_bipush (v := (6 : Int32)) hx hb dX1_init_21 (by decide) ?_
  obtain ⟨g13, hf⟩ := gd_e hf
  obtain ⟨g14, hf⟩ := gd_e hf
  refine n_arr (at0 := .int) (ty := .int) (t0 := 0) (cA0 := G.2.1) (N := 6) (cells1 := 3) (slots1 := 112) (n1 := (n + 3)) hx hb hts hK X rfl rfl (fun _ _ z => z) la_int rfl (cE_ni (Or.inl g13) g14) (by decide) (by decide) (by decide) rfl rfl rfl (by decide) (by decide) dX1_init_23 (fun H X => ?_)
  obtain ⟨h15, e16, hf⟩ := lt_e hf
  rw [← e16] at X
  refine g_PFa hx hb hts hown hK X o0 (by omega) (by omega) fl_X1_18 ft_1_8 (by decide) rfl hnm fo_1_8 (fun _ => rfl) (fun _ => rfl) dX1_init_25 (fun H locs X => ?_)
  obtain ⟨h17, e18, hf⟩ := lt_e hf
  rw [← e18] at X
  refine lv_aload_n hx hb dX1_init_28 rfl (lv_at hl 0 rfl) ?_
  refine lv_bipush (v := (36 : Int32)) hx hb dX1_init_29 (by decide) ?_
  obtain ⟨g19, hf⟩ := gd_e hf
  obtain ⟨g20, hf⟩ := gd_e hf
  refine n_arr (at0 := .int) (ty := .int) (t0 := 0) (cA0 := G.2.1) (N := 36) (cells1 := 4) (slots1 := 148) (n1 := (n + 4)) hx hb hts hK X rfl rfl (fun _ _ z => z) la_int rfl (cE_ni (Or.inl g19) g20) (by decide) (by decide) (by decide) rfl rfl rfl (by decide) (by decide) dX1_init_31 (fun H X => ?_)
  obtain ⟨h21, e22, hf⟩ := lt_e hf
  rw [← e22] at X
  refine g_PFa hx hb hts hown hK X o0 (by omega) (by omega) fl_X1_21 ft_1_9 (by decide) rfl hnm fo_1_9 (fun _ => rfl) (fun _ => rfl) dX1_init_33 (fun H locs X => ?_)
  obtain ⟨h23, e24, hf⟩ := lt_e hf
  rw [← e24] at X
  refine lv_aload_n hx hb dX1_init_36 rfl (lv_at hl 0 rfl) ?_
  refine lv_aload_n hx hb dX1_init_37 rfl (lv_at hl 1 rfl) ?_
  refine g_PFa hx hb hts hown hK X o0 (by omega) (by omega) fl_X1_24 ft_1_6 (by decide) rfl hnm fo_1_6 (fun _ => rfl) (fun _ => rfl) dX1_init_38 (fun H locs X => ?_)
  obtain ⟨h25, e26, hf⟩ := lt_e hf
  rw [← e26] at X
  exact r_V hx hb hr hlocks X hf dX1_init_41
end
theorem dX2_init_0 : decode bX2_init 0 = .ok (.aload_n 0, 1) := by decide +kernel
theorem dX2_init_1 : decode bX2_init 1 = .ok (.invokespecial 3, 3) := by decide +kernel
theorem dX2_init_4 : decode bX2_init 4 = .ok (.aload_n 0, 1) := by decide +kernel
theorem dX2_init_5 : decode bX2_init 5 = .ok (.bipush 8, 2) := by decide +kernel
theorem dX2_init_7 : decode bX2_init 7 = .ok (.newarray .int, 2) := by decide +kernel
theorem dX2_init_9 : decode bX2_init 9 = .ok (.putfield 9, 3) := by decide +kernel
theorem dX2_init_12 : decode bX2_init 12 = .ok (.aload_n 0, 1) := by decide +kernel
theorem dX2_init_13 : decode bX2_init 13 = .ok (.bipush 6, 2) := by decide +kernel
theorem dX2_init_15 : decode bX2_init 15 = .ok (.newarray .int, 2) := by decide +kernel
theorem dX2_init_17 : decode bX2_init 17 = .ok (.putfield 15, 3) := by decide +kernel
theorem dX2_init_20 : decode bX2_init 20 = .ok (.return_, 1) := by decide +kernel
def f_X2_init (n : Nat) (h : Hp) (x0 : Nat) : Option (Unit × Hp) :=
  gd (kd x0 = 2) <|
  gd (kd (n + 1) = 13) <|
  gd (ln (n + 1) = 8) <|
  lt (sz h (n + 1)) <| fun h3 =>
  lt (sr h3 x0 0 (n + 1)) <| fun h5 =>
  gd (kd (n + 2) = 13) <|
  gd (ln (n + 2) = 6) <|
  lt (sz h5 (n + 2)) <| fun h9 =>
  lt (sr h9 x0 1 (n + 2)) <| fun h11 =>
  some ((), h11)
section
variable {p : Program} {l : Launch} {e : Env} {s : State} {m : MethodId} {args : Array Value} {below : List Frame} {meth : Method} {c : Code} {G : GG} {n : Nat} {h' : Hp} {rv : Unit}
set_option maxHeartbeats 4000000
set_option maxRecDepth 100000
theorem k_X2_init (l : Launch) (G : GG) (n : Nat) {h h' : Hp} {x0 : Nat} {rv : Unit} (b0 : 1 ≤ x0 ∧ x0 ≤ n) (hf : f_X2_init n h x0 = some (rv, h')) : CT l G n (n + 2) yX2_init (.code yX2_init bX2_init 1 none) 1 2 14 [.ref (bs G + x0)] h h' none := by
  refine ct_of (maxL := 1) (ret := none) (bytes := bX2_init) (by decide) (Nat.le_of_ble_eq_true rfl) (fun p e s m below meth c C0 X ls hl => ?_)
  have hl : lv_has ls 1 [(0, .ref (bs G + x0))] := hl
  obtain ⟨hx, hb, hr, hml, hown, hts, hK, hlocks, hnm⟩ := id C0
  unfold f_X2_init at hf
  obtain ⟨o0, hf⟩ := gd_e hf
  refine lv_aload_n hx hb dX2_init_0 rfl (lv_at hl 0 rfl) ?_
  refine n_obj hx hb (hml.trans hl.1.symm) hown hts lo_X2_3 (by decide) (Nat.le_of_ble_eq_true rfl) dX2_init_1 ?_
  refine lv_aload_n hx hb dX2_init_4 rfl (lv_at hl 0 rfl) ?_
  refine lv_bipush (v := (8 : Int32)) hx hb dX2_init_5 (by decide) ?_
  obtain ⟨g1, hf⟩ := gd_e hf
  obtain ⟨g2, hf⟩ := gd_e hf
  refine n_arr (at0 := .int) (ty := .int) (t0 := 0) (cA0 := G.2.1) (N := 8) (cells1 := 1) (slots1 := 8) (n1 := (n + 1)) hx hb hts hK X rfl rfl (fun _ _ z => z) la_int rfl (cE_ni (Or.inl g1) g2) (by decide) (by decide) (by decide) rfl rfl rfl (by decide) (by decide) dX2_init_7 (fun H X => ?_)
  obtain ⟨h3, e4, hf⟩ := lt_e hf
  rw [← e4] at X
  refine g_PFa hx hb hts hown hK X o0 (by omega) (by omega) fl_X2_9 ft_2_0 (by decide) rfl hnm fo_2_0 (fun _ => rfl) (fun _ => rfl) dX2_init_9 (fun H locs X => ?_)
  obtain ⟨h5, e6, hf⟩ := lt_e hf
  rw [← e6] at X
  refine lv_aload_n hx hb dX2_init_12 rfl (lv_at hl 0 rfl) ?_
  refine lv_bipush (v := (6 : Int32)) hx hb dX2_init_13 (by decide) ?_
  obtain ⟨g7, hf⟩ := gd_e hf
  obtain ⟨g8, hf⟩ := gd_e hf
  refine n_arr (at0 := .int) (ty := .int) (t0 := 0) (cA0 := G.2.1) (N := 6) (cells1 := 2) (slots1 := 14) (n1 := (n + 2)) hx hb hts hK X rfl rfl (fun _ _ z => z) la_int rfl (cE_ni (Or.inl g7) g8) (by decide) (by decide) (by decide) rfl rfl rfl (by decide) (by decide) dX2_init_15 (fun H X => ?_)
  obtain ⟨h9, e10, hf⟩ := lt_e hf
  rw [← e10] at X
  refine g_PFa hx hb hts hown hK X o0 (by omega) (by omega) fl_X2_15 ft_2_1 (by decide) rfl hnm fo_2_1 (fun _ => rfl) (fun _ => rfl) dX2_init_17 (fun H locs X => ?_)
  obtain ⟨h11, e12, hf⟩ := lt_e hf
  rw [← e12] at X
  exact r_V hx hb hr hlocks X hf dX2_init_20
end
theorem dX3_init_0 : decode bX3_init 0 = .ok (.aload_n 0, 1) := by decide +kernel
theorem dX3_init_1 : decode bX3_init 1 = .ok (.invokespecial 1, 3) := by decide +kernel
theorem dX3_init_4 : decode bX3_init 4 = .ok (.aload_n 0, 1) := by decide +kernel
theorem dX3_init_5 : decode bX3_init 5 = .ok (.iconst 1, 1) := by decide +kernel
theorem dX3_init_6 : decode bX3_init 6 = .ok (.iload_n 1, 1) := by decide +kernel
theorem dX3_init_7 : decode bX3_init 7 = .ok (.invokestatic 7, 3) := by decide +kernel
theorem dX3_init_10 : decode bX3_init 10 = .ok (.anewarray 13, 3) := by decide +kernel
theorem dX3_init_13 : decode bX3_init 13 = .ok (.putfield 15, 3) := by decide +kernel
theorem dX3_init_16 : decode bX3_init 16 = .ok (.iconst 0, 1) := by decide +kernel
theorem dX3_init_17 : decode bX3_init 17 = .ok (.istore_n 2, 1) := by decide +kernel
theorem dX3_init_18 : decode bX3_init 18 = .ok (.iload_n 2, 1) := by decide +kernel
theorem dX3_init_19 : decode bX3_init 19 = .ok (.aload_n 0, 1) := by decide +kernel
theorem dX3_init_20 : decode bX3_init 20 = .ok (.getfield 15, 3) := by decide +kernel
theorem dX3_init_23 : decode bX3_init 23 = .ok (.arraylength, 1) := by decide +kernel
theorem dX3_init_24 : decode bX3_init 24 = .ok (.if_icmp .ge 22, 3) := by decide +kernel
theorem dX3_init_27 : decode bX3_init 27 = .ok (.aload_n 0, 1) := by decide +kernel
theorem dX3_init_28 : decode bX3_init 28 = .ok (.getfield 15, 3) := by decide +kernel
theorem dX3_init_31 : decode bX3_init 31 = .ok (.iload_n 2, 1) := by decide +kernel
theorem dX3_init_32 : decode bX3_init 32 = .ok (.new 13, 3) := by decide +kernel
theorem dX3_init_35 : decode bX3_init 35 = .ok (.dup, 1) := by decide +kernel
theorem dX3_init_36 : decode bX3_init 36 = .ok (.invokespecial 21, 3) := by decide +kernel
theorem dX3_init_39 : decode bX3_init 39 = .ok (.aastore, 1) := by decide +kernel
theorem dX3_init_40 : decode bX3_init 40 = .ok (.iinc 2 1, 3) := by decide +kernel
theorem dX3_init_43 : decode bX3_init 43 = .ok (.goto (-25), 3) := by decide +kernel
theorem dX3_init_46 : decode bX3_init 46 = .ok (.return_, 1) := by decide +kernel
section
/-! DayStack(room): a row of days, and a day for each place -/
def f_X3_lp (n x0 : Nat) : Nat → Nat → Hp → Option (Unit × Hp)
  | 0 => fun _ h => gd (h.2 x0 1 = n + 1) <| some ((), h)
  | j + 1 => fun k h =>
    gd (h.2 x0 1 = n + 1) <|
    gd (kd (n + 1 + 3 * k + 1) = 2) <|
    lt (sz h (n + 1 + 3 * k + 1)) <| fun h1 =>
    bd (f_X2_init (n + 1 + 3 * k + 1) h1 (n + 1 + 3 * k + 1)) <| fun _ h2 =>
    lt (sr h2 (n + 1) (nI k).toNatClampNeg (n + 1 + 3 * k + 1)) <| fun h3 =>
    f_X3_lp n x0 j (k + 1) h3
def f_X3_init (rm n : Nat) (h : Hp) (x0 : Nat) (x1 : Int32) : Option (Unit × Hp) :=
  gd (kd x0 = 3) <|
  gd (x1 = nI rm ∧ 1 ≤ rm ∧ rm ≤ 8) <|
  gd (kd (n + 1) = 15) <|
  gd (ln (n + 1) = rm) <|
  lt (sz h (n + 1)) <| fun h1 =>
  lt (sr h1 x0 1 (n + 1)) <| fun h2 =>
  f_X3_lp n x0 rm 0 h2
set_option maxHeartbeats 4000000
set_option maxRecDepth 100000
section DS
variable {p : Program} {l : Launch} {e : Env} {s : State} {m : MethodId} {args : Array Value} {below : List Frame} {meth : Method} {c : Code} {G : GG} {n : Nat} {h' : Hp} {rv : Unit}
theorem j_X3_lp {rm x0 : Nat} (C0 : Cx p s m args meth c G bX3_init RX3 3 none "<init>") (b0 : 1 ≤ x0 ∧ x0 ≤ n) (o0 : kd x0 = 3) (oa : kd (n + 1) = 15) (ol : ln (n + 1) = rm) (hrm : rm ≤ 8) :
    ∀ (j k : Nat) {H : Heap} {locs : List Loc} {ls : Array Slot} {h : Hp}, k + j = rm → XW G (n + 1 + 3 * k) h s (1 + 3 * k) H locs → lv_has ls 3 [(0, .ref (bs G + x0)), (2, .int (nI k))] → f_X3_lp n x0 j k h = some (rv, h') →
      W p l e (rmC 2 (1 + 3 * rm) (rm + 19 * rm)) s m args below meth c H locs (1 + 3 * k) (rm + 19 * k) (MQ below (QP G (n + (1 + 3 * rm)) h' none) args s (1 + 3 * rm) (rm + 19 * rm) (Ab G)) (F0 m 18 ls []) := by
  obtain ⟨hx, hb, hr, hml, hown, hts, hK, hlocks, hnm⟩ := id C0
  intro j
  induction j with
  | zero =>
    intro k H locs ls h hk X hl hf
    rw [f_X3_lp] at hf
    obtain ⟨g1, hf⟩ := gd_e hf
    have hkr : k = rm := by omega
    subst hkr
    refine lv_iload_n hx hb dX3_init_18 rfl (lv_at hl 1 rfl) ?_
    refine lv_aload_n hx hb dX3_init_19 rfl (lv_at hl 0 rfl) ?_
    refine g_Ra (K := 15) hx hb hts hown hK X o0 (by omega) (by rw [g1]; exact oa) fl_X3_15 (by decide) rfl (by decide) dX3_init_20 ?_
    rw [g1]
    have he := wl_at G h (a := n + 1) (n := n + 1 + 3 * k) (by omega) (by omega)
    rw [cE_d G h oa] at he
    refine va_alen (ty := .object RX2) hx hb hK.1 X.1 (n + 1 - 1) 2 he rfl (v := nI k) (by show Int32.ofNat (ln (n + 1)) = _; rw [ol]; rfl) dX3_init_23 ?_
    refine lv_icmp_ge (tgt := 46) hx hb dX3_init_24 (by decide) (fun _ => ?_) (fun z => absurd (nI_le (Nat.le_refl k) (by omega)) z)
    have X2 : XW G (n + (1 + 3 * k)) h s (1 + 3 * k) H locs := by rw [← Nat.add_assoc]; exact X
    exact r_V hx hb hr hlocks X2 hf dX3_init_46
  | succ j ih =>
    intro k H locs ls h hk X hl hf
    rw [f_X3_lp] at hf
    obtain ⟨g1, hf⟩ := gd_e hf
    obtain ⟨g2, hf⟩ := gd_e hf
    obtain ⟨h1, e1, hf⟩ := lt_e hf
    obtain ⟨r2, h2, q2, hf⟩ := bd_e hf
    obtain ⟨h3, e3, hf⟩ := lt_e hf
    refine lv_iload_n hx hb dX3_init_18 rfl (lv_at hl 1 rfl) ?_
    refine lv_aload_n hx hb dX3_init_19 rfl (lv_at hl 0 rfl) ?_
    refine g_Ra (K := 15) hx hb hts hown hK X o0 (by omega) (by rw [g1]; exact oa) fl_X3_15 (by decide) rfl (by decide) dX3_init_20 ?_
    rw [g1]
    have he := wl_at G h (a := n + 1) (n := n + 1 + 3 * k) (by omega) (by omega)
    rw [cE_d G h oa] at he
    refine va_alen (ty := .object RX2) hx hb hK.1 X.1 (n + 1 - 1) 2 he rfl (v := nI rm) (by show Int32.ofNat (ln (n + 1)) = _; rw [ol]; rfl) dX3_init_23 ?_
    refine lv_icmp_ge (tgt := 46) hx hb dX3_init_24 (by decide) (fun z => absurd z (nI_ge (by omega) (by omega))) (fun _ => ?_)
    refine lv_aload_n hx hb dX3_init_27 rfl (lv_at hl 0 rfl) ?_
    refine g_Ra (K := 15) hx hb hts hown hK X o0 (by omega) (by rw [g1]; exact oa) fl_X3_15 (by decide) rfl (by decide) dX3_init_28 ?_
    rw [g1]
    refine lv_iload_n hx hb dX3_init_31 rfl (lv_at hl 1 rfl) ?_
    refine n_new (ci := 2) (cells1 := 1 + 3 * k + 1) (slots1 := rm + 19 * k + 5) (n1 := n + 1 + 3 * k + 1) hx hb hts hown hK X g2 rfl ln_X3_13 rfl rfl rfl (by show _ ≤ 1 + 3 * rm; omega) (by show _ ≤ rm + 19 * rm; omega) dX3_init_32 (fun H X => ?_)
    rw [← e1] at X
    refine lv_dup hx hb dX3_init_35 rfl ?_
    refine c_IN1 (As := []) (rest := [.ref (bs G + (n + 1 + 3 * k + 1)), .int (nI k), .ref (bs G + (n + 1))]) (n1 := n + 1 + 3 * k + 1 + 2) (cells1 := 1 + 3 * (k + 1)) (slots1 := rm + 19 * (k + 1)) hx hb hml hown hts hK X (k_X2_init l G (n + 1 + 3 * k + 1) (by omega) q2) rfl lc_X2_init li_X3_21 (by decide) rfl hl.1 (Nat.le_of_ble_eq_true rfl) dX3_init_36 (by omega) (by omega) ⟨by omega, by omega⟩ (fun H locs X => ?_)
    have hin : inr (nI k) (ln (n + 1)) = true := by
      rw [ol]
      simp only [inr, Bool.and_eq_true, decide_eq_true_eq]
      rw [nI_toInt (by omega)]
      omega
    refine g_ds hx hb hK X oa (by omega) hin g2 (by omega) dX3_init_39 (fun H locs X => ?_)
    rw [← e3] at X
    refine lv_iinc (v := nI (k + 1)) (lv' := [(2, .int (nI (k + 1))), (0, .ref (bs G + x0))]) hx hb dX3_init_40 hl (k := 1) rfl (nI_1 k) (by decide) rfl (fun ls hl => ?_)
    refine lv_goto (tgt := 18) hx hb dX3_init_43 (by decide) ?_
    have X2 : XW G (n + 1 + 3 * (k + 1)) h3 s (1 + 3 * (k + 1)) H locs := by
      have : n + 1 + 3 * k + 1 + 2 = n + 1 + 3 * (k + 1) := by omega
      rw [← this]; exact X
    exact ih (k + 1) (by omega) X2 (lv_sub hl [1, 0] rfl) hf
end DS
theorem k_X3_init (l : Launch) (G : GG) (rm n : Nat) {h h' : Hp} {x0 : Nat} {x1 : Int32} {rv : Unit} (b0 : 1 ≤ x0 ∧ x0 ≤ n) (hf : f_X3_init rm n h x0 x1 = some (rv, h')) : CT l G n (n + (1 + 3 * rm)) yX3_init (.code yX3_init bX3_init 3 none) 2 (1 + 3 * rm) (rm + 19 * rm) [.ref (bs G + x0), .int x1] h h' none := by
  refine ct_of (maxL := 3) (ret := none) (bytes := bX3_init) (by decide) (Nat.le_of_ble_eq_true rfl) (fun p e s m below meth c C0 X ls hl => ?_)
  have hl : lv_has ls 3 [(0, .ref (bs G + x0)), (1, .int x1)] := hl
  obtain ⟨hx, hb, hr, hml, hown, hts, hK, hlocks, hnm⟩ := id C0
  unfold f_X3_init at hf
  obtain ⟨o0, hf⟩ := gd_e hf
  obtain ⟨⟨ex, hr1, hr8⟩, hf⟩ := gd_e hf
  obtain ⟨oa, hf⟩ := gd_e hf
  obtain ⟨ol, hf⟩ := gd_e hf
  obtain ⟨h1, e1, hf⟩ := lt_e hf
  obtain ⟨h2, e2, hf⟩ := lt_e hf
  refine lv_aload_n hx hb dX3_init_0 rfl (lv_at hl 0 rfl) ?_
  refine n_obj hx hb (hml.trans hl.1.symm) hown hts lo_X3_1 (by decide) (Nat.le_of_ble_eq_true rfl) dX3_init_1 ?_
  refine lv_aload_n hx hb dX3_init_4 rfl (lv_at hl 0 rfl) ?_
  refine lv_iconst (v := 1) hx hb dX3_init_5 (by decide) ?_
  refine lv_iload_n hx hb dX3_init_6 rfl (lv_at hl 1 rfl) ?_
  have em : (if (1 : Int32) < x1 then x1 else 1) = x1 := by
    rw [ex]
    by_cases h1 : rm = 1
    · subst h1; rfl
    · rw [if_pos]
      exact nI_lt (a := 1) (by omega) (by omega)
  refine va_mmax (R := rmC 2 (1 + 3 * rm) (rm + 19 * rm)) hx hb (hml.trans hl.1.symm) hown (hts _ lm_X3_7) (hts _ lm_maxS) (hts _ lm_math) (hts _ lm_maxC) (by show 1 ≤ 2; decide) (Nat.le_of_ble_eq_true rfl) (Nat.zero_le _) (Nat.zero_le _) dX3_init_7 ?_
  rw [em]
  refine n_arrD (N := rm) (cells1 := 1) (slots1 := rm) (n1 := n + 1) hx hb hown hts hK X ln_X3_13.1 la_over oa ol (by rw [ex]; exact nI_pos (by omega)) (by rw [ex]; exact nI_clamp (by omega)) (by omega) rfl (by omega) rfl (by show 1 ≤ 1 + 3 * rm; omega) (by show rm ≤ rm + 19 * rm; omega) dX3_init_10 (fun H X => ?_)
  rw [← e1] at X
  refine g_PFa hx hb hts hown hK X o0 (by omega) (by omega) fl_X3_15 ft_3_1 (by decide) rfl hnm fo_3_1 (fun _ => rfl) (fun _ => rfl) dX3_init_13 (fun H locs X => ?_)
  rw [← e2] at X
  refine lv_iconst (v := 0) hx hb dX3_init_16 (by decide) ?_
  refine lv_istore_n (lv' := [(2, .int 0), (0, .ref (bs G + x0)), (1, .int x1)]) hx hb dX3_init_17 rfl hl (by decide) rfl (fun ls hl => ?_)
  exact j_X3_lp C0 b0 o0 oa ol hr8 rm 0 (by omega) X (lv_sub hl [1, 0] rfl) hf
end
theorem dX4_init_0 : decode bX4_init 0 = .ok (.aload_n 0, 1) := by decide +kernel
theorem dX4_init_1 : decode bX4_init 1 = .ok (.invokespecial 3, 3) := by decide +kernel
theorem dX4_init_4 : decode bX4_init 4 = .ok (.aload_n 0, 1) := by decide +kernel
theorem dX4_init_5 : decode bX4_init 5 = .ok (.bipush 25, 2) := by decide +kernel
theorem dX4_init_7 : decode bX4_init 7 = .ok (.newarray .int, 2) := by decide +kernel
theorem dX4_init_9 : decode bX4_init 9 = .ok (.putfield 9, 3) := by decide +kernel
theorem dX4_init_12 : decode bX4_init 12 = .ok (.aload_n 0, 1) := by decide +kernel
theorem dX4_init_13 : decode bX4_init 13 = .ok (.bipush 6, 2) := by decide +kernel
theorem dX4_init_15 : decode bX4_init 15 = .ok (.newarray .int, 2) := by decide +kernel
theorem dX4_init_17 : decode bX4_init 17 = .ok (.putfield 15, 3) := by decide +kernel
theorem dX4_init_20 : decode bX4_init 20 = .ok (.aload_n 0, 1) := by decide +kernel
theorem dX4_init_21 : decode bX4_init 21 = .ok (.bipush 6, 2) := by decide +kernel
theorem dX4_init_23 : decode bX4_init 23 = .ok (.newarray .int, 2) := by decide +kernel
theorem dX4_init_25 : decode bX4_init 25 = .ok (.putfield 18, 3) := by decide +kernel
theorem dX4_init_28 : decode bX4_init 28 = .ok (.return_, 1) := by decide +kernel
def f_X4_init (n : Nat) (h : Hp) (x0 : Nat) : Option (Unit × Hp) :=
  gd (kd x0 = 4) <|
  gd (kd (n + 1) = 13) <|
  gd (ln (n + 1) = 25) <|
  lt (sz h (n + 1)) <| fun h3 =>
  lt (sr h3 x0 5 (n + 1)) <| fun h5 =>
  gd (kd (n + 2) = 13) <|
  gd (ln (n + 2) = 6) <|
  lt (sz h5 (n + 2)) <| fun h9 =>
  lt (sr h9 x0 6 (n + 2)) <| fun h11 =>
  gd (kd (n + 3) = 13) <|
  gd (ln (n + 3) = 6) <|
  lt (sz h11 (n + 3)) <| fun h15 =>
  lt (sr h15 x0 7 (n + 3)) <| fun h17 =>
  some ((), h17)
section
variable {p : Program} {l : Launch} {e : Env} {s : State} {m : MethodId} {args : Array Value} {below : List Frame} {meth : Method} {c : Code} {G : GG} {n : Nat} {h' : Hp} {rv : Unit}
set_option maxHeartbeats 4000000
set_option maxRecDepth 100000
theorem k_X4_init (l : Launch) (G : GG) (n : Nat) {h h' : Hp} {x0 : Nat} {rv : Unit} (b0 : 1 ≤ x0 ∧ x0 ≤ n) (hf : f_X4_init n h x0 = some (rv, h')) : CT l G n (n + 3) yX4_init (.code yX4_init bX4_init 1 none) 1 3 37 [.ref (bs G + x0)] h h' none := by
  refine ct_of (maxL := 1) (ret := none) (bytes := bX4_init) (by decide) (Nat.le_of_ble_eq_true rfl) (fun p e s m below meth c C0 X ls hl => ?_)
  have hl : lv_has ls 1 [(0, .ref (bs G + x0))] := hl
  obtain ⟨hx, hb, hr, hml, hown, hts, hK, hlocks, hnm⟩ := id C0
  unfold f_X4_init at hf
  obtain ⟨o0, hf⟩ := gd_e hf
  refine lv_aload_n hx hb dX4_init_0 rfl (lv_at hl 0 rfl) ?_
  refine n_obj hx hb (hml.trans hl.1.symm) hown hts lo_X4_3 (by decide) (Nat.le_of_ble_eq_true rfl) dX4_init_1 ?_
  refine lv_aload_n hx hb dX4_init_4 rfl (lv_at hl 0 rfl) ?_
  refine lv_bipush (v := (25 : Int32)) hx hb dX4_init_5 (by decide) ?_
  obtain ⟨g1, hf⟩ := gd_e hf
  obtain ⟨g2, hf⟩ := gd_e hf
  refine n_arr (at0 := .int) (ty := .int) (t0 := 0) (cA0 := G.2.1) (N := 25) (cells1 := 1) (slots1 := 25) (n1 := (n + 1)) hx hb hts hK X rfl rfl (fun _ _ z => z) la_int rfl (cE_ni (Or.inl g1) g2) (by decide) (by decide) (by decide) rfl rfl rfl (by decide) (by decide) dX4_init_7 (fun H X => ?_)
  obtain ⟨h3, e4, hf⟩ := lt_e hf
  rw [← e4] at X
  refine g_PFa hx hb hts hown hK X o0 (by omega) (by omega) fl_X4_9 ft_4_5 (by decide) rfl hnm fo_4_5 (fun _ => rfl) (fun _ => rfl) dX4_init_9 (fun H locs X => ?_)
  obtain ⟨h5, e6, hf⟩ := lt_e hf
  rw [← e6] at X
  refine lv_aload_n hx hb dX4_init_12 rfl (lv_at hl 0 rfl) ?_
  refine lv_bipush (v := (6 : Int32)) hx hb dX4_init_13 (by decide) ?_
  obtain ⟨g7, hf⟩ := gd_e hf
  obtain ⟨g8, hf⟩ := gd_e hf
  refine n_arr (at0 := .int) (ty := .int) (t0 := 0) (cA0 := G.2.1) (N := 6) (cells1 := 2) (slots1 := 31) (n1 := (n + 2)) hx hb hts hK X rfl rfl (fun _ _ z => z) la_int rfl (cE_ni (Or.inl g7) g8) (by decide) (by decide) (by decide) rfl rfl rfl (by decide) (by decide) dX4_init_15 (fun H X => ?_)
  obtain ⟨h9, e10, hf⟩ := lt_e hf
  rw [← e10] at X
  refine g_PFa hx hb hts hown hK X o0 (by omega) (by omega) fl_X4_15 ft_4_6 (by decide) rfl hnm fo_4_6 (fun _ => rfl) (fun _ => rfl) dX4_init_17 (fun H locs X => ?_)
  obtain ⟨h11, e12, hf⟩ := lt_e hf
  rw [← e12] at X
  refine lv_aload_n hx hb dX4_init_20 rfl (lv_at hl 0 rfl) ?_
  refine lv_bipush (v := (6 : Int32)) hx hb dX4_init_21 (by decide) ?_
  obtain ⟨g13, hf⟩ := gd_e hf
  obtain ⟨g14, hf⟩ := gd_e hf
  refine n_arr (at0 := .int) (ty := .int) (t0 := 0) (cA0 := G.2.1) (N := 6) (cells1 := 3) (slots1 := 37) (n1 := (n + 3)) hx hb hts hK X rfl rfl (fun _ _ z => z) la_int rfl (cE_ni (Or.inl g13) g14) (by decide) (by decide) (by decide) rfl rfl rfl (by decide) (by decide) dX4_init_23 (fun H X => ?_)
  obtain ⟨h15, e16, hf⟩ := lt_e hf
  rw [← e16] at X
  refine g_PFa hx hb hts hown hK X o0 (by omega) (by omega) fl_X4_18 ft_4_7 (by decide) rfl hnm fo_4_7 (fun _ => rfl) (fun _ => rfl) dX4_init_25 (fun H locs X => ?_)
  obtain ⟨h17, e18, hf⟩ := lt_e hf
  rw [← e18] at X
  exact r_V hx hb hr hlocks X hf dX4_init_28
end
theorem dX6_init_0 : decode bX6_init 0 = .ok (.aload_n 0, 1) := by decide +kernel
theorem dX6_init_1 : decode bX6_init 1 = .ok (.invokespecial 3, 3) := by decide +kernel
theorem dX6_init_4 : decode bX6_init 4 = .ok (.aload_n 0, 1) := by decide +kernel
theorem dX6_init_5 : decode bX6_init 5 = .ok (.bipush 6, 2) := by decide +kernel
theorem dX6_init_7 : decode bX6_init 7 = .ok (.newarray .int, 2) := by decide +kernel
theorem dX6_init_9 : decode bX6_init 9 = .ok (.putfield 9, 3) := by decide +kernel
theorem dX6_init_12 : decode bX6_init 12 = .ok (.aload_n 0, 1) := by decide +kernel
theorem dX6_init_13 : decode bX6_init 13 = .ok (.bipush 6, 2) := by decide +kernel
theorem dX6_init_15 : decode bX6_init 15 = .ok (.newarray .int, 2) := by decide +kernel
theorem dX6_init_17 : decode bX6_init 17 = .ok (.putfield 15, 3) := by decide +kernel
theorem dX6_init_20 : decode bX6_init 20 = .ok (.return_, 1) := by decide +kernel
def f_X6_init (n : Nat) (h : Hp) (x0 : Nat) : Option (Unit × Hp) :=
  gd (kd x0 = 6) <|
  gd (kd (n + 1) = 13) <|
  gd (ln (n + 1) = 6) <|
  lt (sz h (n + 1)) <| fun h3 =>
  lt (sr h3 x0 5 (n + 1)) <| fun h5 =>
  gd (kd (n + 2) = 13) <|
  gd (ln (n + 2) = 6) <|
  lt (sz h5 (n + 2)) <| fun h9 =>
  lt (sr h9 x0 6 (n + 2)) <| fun h11 =>
  some ((), h11)
section
variable {p : Program} {l : Launch} {e : Env} {s : State} {m : MethodId} {args : Array Value} {below : List Frame} {meth : Method} {c : Code} {G : GG} {n : Nat} {h' : Hp} {rv : Unit}
set_option maxHeartbeats 4000000
set_option maxRecDepth 100000
theorem k_X6_init (l : Launch) (G : GG) (n : Nat) {h h' : Hp} {x0 : Nat} {rv : Unit} (b0 : 1 ≤ x0 ∧ x0 ≤ n) (hf : f_X6_init n h x0 = some (rv, h')) : CT l G n (n + 2) yX6_init (.code yX6_init bX6_init 1 none) 1 2 12 [.ref (bs G + x0)] h h' none := by
  refine ct_of (maxL := 1) (ret := none) (bytes := bX6_init) (by decide) (Nat.le_of_ble_eq_true rfl) (fun p e s m below meth c C0 X ls hl => ?_)
  have hl : lv_has ls 1 [(0, .ref (bs G + x0))] := hl
  obtain ⟨hx, hb, hr, hml, hown, hts, hK, hlocks, hnm⟩ := id C0
  unfold f_X6_init at hf
  obtain ⟨o0, hf⟩ := gd_e hf
  refine lv_aload_n hx hb dX6_init_0 rfl (lv_at hl 0 rfl) ?_
  refine n_obj hx hb (hml.trans hl.1.symm) hown hts lo_X6_3 (by decide) (Nat.le_of_ble_eq_true rfl) dX6_init_1 ?_
  refine lv_aload_n hx hb dX6_init_4 rfl (lv_at hl 0 rfl) ?_
  refine lv_bipush (v := (6 : Int32)) hx hb dX6_init_5 (by decide) ?_
  obtain ⟨g1, hf⟩ := gd_e hf
  obtain ⟨g2, hf⟩ := gd_e hf
  refine n_arr (at0 := .int) (ty := .int) (t0 := 0) (cA0 := G.2.1) (N := 6) (cells1 := 1) (slots1 := 6) (n1 := (n + 1)) hx hb hts hK X rfl rfl (fun _ _ z => z) la_int rfl (cE_ni (Or.inl g1) g2) (by decide) (by decide) (by decide) rfl rfl rfl (by decide) (by decide) dX6_init_7 (fun H X => ?_)
  obtain ⟨h3, e4, hf⟩ := lt_e hf
  rw [← e4] at X
  refine g_PFa hx hb hts hown hK X o0 (by omega) (by omega) fl_X6_9 ft_6_5 (by decide) rfl hnm fo_6_5 (fun _ => rfl) (fun _ => rfl) dX6_init_9 (fun H locs X => ?_)
  obtain ⟨h5, e6, hf⟩ := lt_e hf
  rw [← e6] at X
  refine lv_aload_n hx hb dX6_init_12 rfl (lv_at hl 0 rfl) ?_
  refine lv_bipush (v := (6 : Int32)) hx hb dX6_init_13 (by decide) ?_
  obtain ⟨g7, hf⟩ := gd_e hf
  obtain ⟨g8, hf⟩ := gd_e hf
  refine n_arr (at0 := .int) (ty := .int) (t0 := 0) (cA0 := G.2.1) (N := 6) (cells1 := 2) (slots1 := 12) (n1 := (n + 2)) hx hb hts hK X rfl rfl (fun _ _ z => z) la_int rfl (cE_ni (Or.inl g7) g8) (by decide) (by decide) (by decide) rfl rfl rfl (by decide) (by decide) dX6_init_15 (fun H X => ?_)
  obtain ⟨h9, e10, hf⟩ := lt_e hf
  rw [← e10] at X
  refine g_PFa hx hb hts hown hK X o0 (by omega) (by omega) fl_X6_15 ft_6_6 (by decide) rfl hnm fo_6_6 (fun _ => rfl) (fun _ => rfl) dX6_init_17 (fun H locs X => ?_)
  obtain ⟨h11, e12, hf⟩ := lt_e hf
  rw [← e12] at X
  exact r_V hx hb hr hlocks X hf dX6_init_20
end
theorem dX7_init_0 : decode bX7_init 0 = .ok (.aload_n 0, 1) := by decide +kernel
theorem dX7_init_1 : decode bX7_init 1 = .ok (.invokespecial 3, 3) := by decide +kernel
theorem dX7_init_4 : decode bX7_init 4 = .ok (.aload_n 0, 1) := by decide +kernel
theorem dX7_init_5 : decode bX7_init 5 = .ok (.sipush 15025, 3) := by decide +kernel
theorem dX7_init_8 : decode bX7_init 8 = .ok (.newarray .int, 2) := by decide +kernel
theorem dX7_init_10 : decode bX7_init 10 = .ok (.putfield 11, 3) := by decide +kernel
theorem dX7_init_13 : decode bX7_init 13 = .ok (.aload_n 0, 1) := by decide +kernel
theorem dX7_init_14 : decode bX7_init 14 = .ok (.bipush 25, 2) := by decide +kernel
theorem dX7_init_16 : decode bX7_init 16 = .ok (.newarray .int, 2) := by decide +kernel
theorem dX7_init_18 : decode bX7_init 18 = .ok (.putfield 15, 3) := by decide +kernel
theorem dX7_init_21 : decode bX7_init 21 = .ok (.aload_n 0, 1) := by decide +kernel
theorem dX7_init_22 : decode bX7_init 22 = .ok (.bipush 25, 2) := by decide +kernel
theorem dX7_init_24 : decode bX7_init 24 = .ok (.newarray .int, 2) := by decide +kernel
theorem dX7_init_26 : decode bX7_init 26 = .ok (.putfield 18, 3) := by decide +kernel
theorem dX7_init_29 : decode bX7_init 29 = .ok (.aload_n 0, 1) := by decide +kernel
theorem dX7_init_30 : decode bX7_init 30 = .ok (.bipush 24, 2) := by decide +kernel
theorem dX7_init_32 : decode bX7_init 32 = .ok (.newarray .int, 2) := by decide +kernel
theorem dX7_init_34 : decode bX7_init 34 = .ok (.putfield 21, 3) := by decide +kernel
theorem dX7_init_37 : decode bX7_init 37 = .ok (.aload_n 0, 1) := by decide +kernel
theorem dX7_init_38 : decode bX7_init 38 = .ok (.bipush 100, 2) := by decide +kernel
theorem dX7_init_40 : decode bX7_init 40 = .ok (.newarray .int, 2) := by decide +kernel
theorem dX7_init_42 : decode bX7_init 42 = .ok (.putfield 24, 3) := by decide +kernel
theorem dX7_init_45 : decode bX7_init 45 = .ok (.return_, 1) := by decide +kernel
def f_X7_init (n : Nat) (h : Hp) (x0 : Nat) : Option (Unit × Hp) :=
  gd (kd x0 = 7) <|
  gd (kd (n + 1) = 13) <|
  gd (ln (n + 1) = 15025) <|
  lt (sz h (n + 1)) <| fun h3 =>
  lt (sr h3 x0 4 (n + 1)) <| fun h5 =>
  gd (kd (n + 2) = 13) <|
  gd (ln (n + 2) = 25) <|
  lt (sz h5 (n + 2)) <| fun h9 =>
  lt (sr h9 x0 5 (n + 2)) <| fun h11 =>
  gd (kd (n + 3) = 13) <|
  gd (ln (n + 3) = 25) <|
  lt (sz h11 (n + 3)) <| fun h15 =>
  lt (sr h15 x0 6 (n + 3)) <| fun h17 =>
  gd (kd (n + 4) = 13) <|
  gd (ln (n + 4) = 24) <|
  lt (sz h17 (n + 4)) <| fun h21 =>
  lt (sr h21 x0 7 (n + 4)) <| fun h23 =>
  gd (kd (n + 5) = 13) <|
  gd (ln (n + 5) = 100) <|
  lt (sz h23 (n + 5)) <| fun h27 =>
  lt (sr h27 x0 8 (n + 5)) <| fun h29 =>
  some ((), h29)
section
variable {p : Program} {l : Launch} {e : Env} {s : State} {m : MethodId} {args : Array Value} {below : List Frame} {meth : Method} {c : Code} {G : GG} {n : Nat} {h' : Hp} {rv : Unit}
set_option maxHeartbeats 4000000
set_option maxRecDepth 100000
theorem k_X7_init (l : Launch) (G : GG) (n : Nat) {h h' : Hp} {x0 : Nat} {rv : Unit} (b0 : 1 ≤ x0 ∧ x0 ≤ n) (hf : f_X7_init n h x0 = some (rv, h')) : CT l G n (n + 5) yX7_init (.code yX7_init bX7_init 1 none) 1 5 15199 [.ref (bs G + x0)] h h' none := by
  refine ct_of (maxL := 1) (ret := none) (bytes := bX7_init) (by decide) (Nat.le_of_ble_eq_true rfl) (fun p e s m below meth c C0 X ls hl => ?_)
  have hl : lv_has ls 1 [(0, .ref (bs G + x0))] := hl
  obtain ⟨hx, hb, hr, hml, hown, hts, hK, hlocks, hnm⟩ := id C0
  unfold f_X7_init at hf
  obtain ⟨o0, hf⟩ := gd_e hf
  refine lv_aload_n hx hb dX7_init_0 rfl (lv_at hl 0 rfl) ?_
  refine n_obj hx hb (hml.trans hl.1.symm) hown hts lo_X7_3 (by decide) (Nat.le_of_ble_eq_true rfl) dX7_init_1 ?_
  refine lv_aload_n hx hb dX7_init_4 rfl (lv_at hl 0 rfl) ?_
  refine lv_sipush (v := (15025 : Int32)) hx hb dX7_init_5 (by decide) ?_
  obtain ⟨g1, hf⟩ := gd_e hf
  obtain ⟨g2, hf⟩ := gd_e hf
  refine n_arr (at0 := .int) (ty := .int) (t0 := 0) (cA0 := G.2.1) (N := 15025) (cells1 := 1) (slots1 := 15025) (n1 := (n + 1)) hx hb hts hK X rfl rfl (fun _ _ z => z) la_int rfl (cE_ni (Or.inl g1) g2) (by decide) (by decide) (by decide) rfl rfl rfl (by decide) (by decide) dX7_init_8 (fun H X => ?_)
  obtain ⟨h3, e4, hf⟩ := lt_e hf
  rw [← e4] at X
  refine g_PFa hx hb hts hown hK X o0 (by omega) (by omega) fl_X7_11 ft_7_4 (by decide) rfl hnm fo_7_4 (fun _ => rfl) (fun _ => rfl) dX7_init_10 (fun H locs X => ?_)
  obtain ⟨h5, e6, hf⟩ := lt_e hf
  rw [← e6] at X
  refine lv_aload_n hx hb dX7_init_13 rfl (lv_at hl 0 rfl) ?_
  refine lv_bipush (v := (25 : Int32)) hx hb dX7_init_14 (by decide) ?_
  obtain ⟨g7, hf⟩ := gd_e hf
  obtain ⟨g8, hf⟩ := gd_e hf
  refine n_arr (at0 := .int) (ty := .int) (t0 := 0) (cA0 := G.2.1) (N := 25) (cells1 := 2) (slots1 := 15050) (n1 := (n + 2)) hx hb hts hK X rfl rfl (fun _ _ z => z) la_int rfl (cE_ni (Or.inl g7) g8) (by decide) (by decide) (by decide) rfl rfl rfl (by decide) (by decide) dX7_init_16 (fun H X => ?_)
  obtain ⟨h9, e10, hf⟩ := lt_e hf
  rw [← e10] at X
  refine g_PFa hx hb hts hown hK X o0 (by omega) (by omega) fl_X7_15 ft_7_5 (by decide) rfl hnm fo_7_5 (fun _ => rfl) (fun _ => rfl) dX7_init_18 (fun H locs X => ?_)
  obtain ⟨h11, e12, hf⟩ := lt_e hf
  rw [← e12] at X
  refine lv_aload_n hx hb dX7_init_21 rfl (lv_at hl 0 rfl) ?_
  refine lv_bipush (v := (25 : Int32)) hx hb dX7_init_22 (by decide) ?_
  obtain ⟨g13, hf⟩ := gd_e hf
  obtain ⟨g14, hf⟩ := gd_e hf
  refine n_arr (at0 := .int) (ty := .int) (t0 := 0) (cA0 := G.2.1) (N := 25) (cells1 := 3) (slots1 := 15075) (n1 := (n + 3)) hx hb hts hK X rfl rfl (fun _ _ z => z) la_int rfl (cE_ni (Or.inl g13) g14) (by decide) (by decide) (by decide) rfl rfl rfl (by decide) (by decide) dX7_init_24 (fun H X => ?_)
  obtain ⟨h15, e16, hf⟩ := lt_e hf
  rw [← e16] at X
  refine g_PFa hx hb hts hown hK X o0 (by omega) (by omega) fl_X7_18 ft_7_6 (by decide) rfl hnm fo_7_6 (fun _ => rfl) (fun _ => rfl) dX7_init_26 (fun H locs X => ?_)
  obtain ⟨h17, e18, hf⟩ := lt_e hf
  rw [← e18] at X
  refine lv_aload_n hx hb dX7_init_29 rfl (lv_at hl 0 rfl) ?_
  refine lv_bipush (v := (24 : Int32)) hx hb dX7_init_30 (by decide) ?_
  obtain ⟨g19, hf⟩ := gd_e hf
  obtain ⟨g20, hf⟩ := gd_e hf
  refine n_arr (at0 := .int) (ty := .int) (t0 := 0) (cA0 := G.2.1) (N := 24) (cells1 := 4) (slots1 := 15099) (n1 := (n + 4)) hx hb hts hK X rfl rfl (fun _ _ z => z) la_int rfl (cE_ni (Or.inl g19) g20) (by decide) (by decide) (by decide) rfl rfl rfl (by decide) (by decide) dX7_init_32 (fun H X => ?_)
  obtain ⟨h21, e22, hf⟩ := lt_e hf
  rw [← e22] at X
  refine g_PFa hx hb hts hown hK X o0 (by omega) (by omega) fl_X7_21 ft_7_7 (by decide) rfl hnm fo_7_7 (fun _ => rfl) (fun _ => rfl) dX7_init_34 (fun H locs X => ?_)
  obtain ⟨h23, e24, hf⟩ := lt_e hf
  rw [← e24] at X
  refine lv_aload_n hx hb dX7_init_37 rfl (lv_at hl 0 rfl) ?_
  refine lv_bipush (v := (100 : Int32)) hx hb dX7_init_38 (by decide) ?_
  obtain ⟨g25, hf⟩ := gd_e hf
  obtain ⟨g26, hf⟩ := gd_e hf
  refine n_arr (at0 := .int) (ty := .int) (t0 := 0) (cA0 := G.2.1) (N := 100) (cells1 := 5) (slots1 := 15199) (n1 := (n + 5)) hx hb hts hK X rfl rfl (fun _ _ z => z) la_int rfl (cE_ni (Or.inl g25) g26) (by decide) (by decide) (by decide) rfl rfl rfl (by decide) (by decide) dX7_init_40 (fun H X => ?_)
  obtain ⟨h27, e28, hf⟩ := lt_e hf
  rw [← e28] at X
  refine g_PFa hx hb hts hown hK X o0 (by omega) (by omega) fl_X7_24 ft_7_8 (by decide) rfl hnm fo_7_8 (fun _ => rfl) (fun _ => rfl) dX7_init_42 (fun H locs X => ?_)
  obtain ⟨h29, e30, hf⟩ := lt_e hf
  rw [← e30] at X
  exact r_V hx hb hr hlocks X hf dX7_init_45
end
theorem dX5_init_0 : decode bX5_init 0 = .ok (.aload_n 0, 1) := by decide +kernel
theorem dX5_init_1 : decode bX5_init 1 = .ok (.invokespecial 5, 3) := by decide +kernel
theorem dX5_init_4 : decode bX5_init 4 = .ok (.aload_n 0, 1) := by decide +kernel
theorem dX5_init_5 : decode bX5_init 5 = .ok (.new 11, 3) := by decide +kernel
theorem dX5_init_8 : decode bX5_init 8 = .ok (.dup, 1) := by decide +kernel
theorem dX5_init_9 : decode bX5_init 9 = .ok (.invokespecial 13, 3) := by decide +kernel
theorem dX5_init_12 : decode bX5_init 12 = .ok (.putfield 14, 3) := by decide +kernel
theorem dX5_init_15 : decode bX5_init 15 = .ok (.aload_n 0, 1) := by decide +kernel
theorem dX5_init_16 : decode bX5_init 16 = .ok (.sipush 800, 3) := by decide +kernel
theorem dX5_init_19 : decode bX5_init 19 = .ok (.newarray .int, 2) := by decide +kernel
theorem dX5_init_21 : decode bX5_init 21 = .ok (.putfield 18, 3) := by decide +kernel
theorem dX5_init_24 : decode bX5_init 24 = .ok (.aload_n 0, 1) := by decide +kernel
theorem dX5_init_25 : decode bX5_init 25 = .ok (.sipush 800, 3) := by decide +kernel
theorem dX5_init_28 : decode bX5_init 28 = .ok (.newarray .int, 2) := by decide +kernel
theorem dX5_init_30 : decode bX5_init 30 = .ok (.putfield 22, 3) := by decide +kernel
theorem dX5_init_33 : decode bX5_init 33 = .ok (.aload_n 0, 1) := by decide +kernel
theorem dX5_init_34 : decode bX5_init 34 = .ok (.sipush 800, 3) := by decide +kernel
theorem dX5_init_37 : decode bX5_init 37 = .ok (.newarray .int, 2) := by decide +kernel
theorem dX5_init_39 : decode bX5_init 39 = .ok (.putfield 25, 3) := by decide +kernel
theorem dX5_init_42 : decode bX5_init 42 = .ok (.aload_n 0, 1) := by decide +kernel
theorem dX5_init_43 : decode bX5_init 43 = .ok (.sipush 800, 3) := by decide +kernel
theorem dX5_init_46 : decode bX5_init 46 = .ok (.newarray .int, 2) := by decide +kernel
theorem dX5_init_48 : decode bX5_init 48 = .ok (.putfield 28, 3) := by decide +kernel
theorem dX5_init_51 : decode bX5_init 51 = .ok (.aload_n 0, 1) := by decide +kernel
theorem dX5_init_52 : decode bX5_init 52 = .ok (.sipush 800, 3) := by decide +kernel
theorem dX5_init_55 : decode bX5_init 55 = .ok (.newarray .int, 2) := by decide +kernel
theorem dX5_init_57 : decode bX5_init 57 = .ok (.putfield 31, 3) := by decide +kernel
theorem dX5_init_60 : decode bX5_init 60 = .ok (.aload_n 0, 1) := by decide +kernel
theorem dX5_init_61 : decode bX5_init 61 = .ok (.sipush 800, 3) := by decide +kernel
theorem dX5_init_64 : decode bX5_init 64 = .ok (.newarray .int, 2) := by decide +kernel
theorem dX5_init_66 : decode bX5_init 66 = .ok (.putfield 34, 3) := by decide +kernel
theorem dX5_init_69 : decode bX5_init 69 = .ok (.aload_n 0, 1) := by decide +kernel
theorem dX5_init_70 : decode bX5_init 70 = .ok (.bipush 100, 2) := by decide +kernel
theorem dX5_init_72 : decode bX5_init 72 = .ok (.newarray .int, 2) := by decide +kernel
theorem dX5_init_74 : decode bX5_init 74 = .ok (.putfield 37, 3) := by decide +kernel
theorem dX5_init_77 : decode bX5_init 77 = .ok (.return_, 1) := by decide +kernel
def f_X5_init (n : Nat) (h : Hp) (x0 : Nat) : Option (Unit × Hp) :=
  gd (kd x0 = 5) <|
  gd (kd (n + 1) = 7) <|
  lt (sz h (n + 1)) <| fun h2 =>
  bd (f_X7_init (n + 1) h2 (n + 1)) <| fun r6 h4 =>
  lt (sr h4 x0 0 (n + 1)) <| fun h7 =>
  gd (kd (n + 7) = 13) <|
  gd (ln (n + 7) = 800) <|
  lt (sz h7 (n + 7)) <| fun h11 =>
  lt (sr h11 x0 1 (n + 7)) <| fun h13 =>
  gd (kd (n + 8) = 13) <|
  gd (ln (n + 8) = 800) <|
  lt (sz h13 (n + 8)) <| fun h17 =>
  lt (sr h17 x0 2 (n + 8)) <| fun h19 =>
  gd (kd (n + 9) = 13) <|
  gd (ln (n + 9) = 800) <|
  lt (sz h19 (n + 9)) <| fun h23 =>
  lt (sr h23 x0 3 (n + 9)) <| fun h25 =>
  gd (kd (n + 10) = 13) <|
  gd (ln (n + 10) = 800) <|
  lt (sz h25 (n + 10)) <| fun h29 =>
  lt (sr h29 x0 4 (n + 10)) <| fun h31 =>
  gd (kd (n + 11) = 13) <|
  gd (ln (n + 11) = 800) <|
  lt (sz h31 (n + 11)) <| fun h35 =>
  lt (sr h35 x0 5 (n + 11)) <| fun h37 =>
  gd (kd (n + 12) = 13) <|
  gd (ln (n + 12) = 800) <|
  lt (sz h37 (n + 12)) <| fun h41 =>
  lt (sr h41 x0 6 (n + 12)) <| fun h43 =>
  gd (kd (n + 13) = 13) <|
  gd (ln (n + 13) = 100) <|
  lt (sz h43 (n + 13)) <| fun h47 =>
  lt (sr h47 x0 7 (n + 13)) <| fun h49 =>
  some ((), h49)
section
variable {p : Program} {l : Launch} {e : Env} {s : State} {m : MethodId} {args : Array Value} {below : List Frame} {meth : Method} {c : Code} {G : GG} {n : Nat} {h' : Hp} {rv : Unit}
set_option maxHeartbeats 4000000
set_option maxRecDepth 100000
theorem k_X5_init (l : Launch) (G : GG) (n : Nat) {h h' : Hp} {x0 : Nat} {rv : Unit} (b0 : 1 ≤ x0 ∧ x0 ≤ n) (hf : f_X5_init n h x0 = some (rv, h')) : CT l G n (n + 13) yX5_init (.code yX5_init bX5_init 1 none) 2 13 20111 [.ref (bs G + x0)] h h' none := by
  refine ct_of (maxL := 1) (ret := none) (bytes := bX5_init) (by decide) (Nat.le_of_ble_eq_true rfl) (fun p e s m below meth c C0 X ls hl => ?_)
  have hl : lv_has ls 1 [(0, .ref (bs G + x0))] := hl
  obtain ⟨hx, hb, hr, hml, hown, hts, hK, hlocks, hnm⟩ := id C0
  unfold f_X5_init at hf
  obtain ⟨o0, hf⟩ := gd_e hf
  refine lv_aload_n hx hb dX5_init_0 rfl (lv_at hl 0 rfl) ?_
  refine n_obj hx hb (hml.trans hl.1.symm) hown hts lo_X5_5 (by decide) (Nat.le_of_ble_eq_true rfl) dX5_init_1 ?_
  refine lv_aload_n hx hb dX5_init_4 rfl (lv_at hl 0 rfl) ?_
  obtain ⟨g1, hf⟩ := gd_e hf
  refine n_new (ci := 7) (cells1 := 1) (slots1 := 12) (n1 := (n + 1)) hx hb hts hown hK X g1 rfl ln_X5_11 rfl rfl rfl (by decide) (by decide) dX5_init_5 (fun H X => ?_)
  obtain ⟨h2, e3, hf⟩ := lt_e hf
  rw [← e3] at X
  refine lv_dup hx hb dX5_init_8 rfl ?_
  obtain ⟨r6, h4, q5, hf⟩ := bd_e hf
  refine c_IN1 (As := []) (rest := [.ref (bs G + (n + 1)), .ref (bs G + x0)]) (n1 := (n + 6)) (cells1 := 6) (slots1 := 15211) hx hb hml hown hts hK X (k_X7_init l G (n + 1) (by omega) q5) rfl lc_X7_init li_X5_13 (by decide) rfl hl.1 (Nat.le_of_ble_eq_true rfl) dX5_init_9 rfl rfl ⟨by decide, by decide⟩ (fun H locs X => ?_)
  refine g_PFa hx hb hts hown hK X o0 (by omega) (by omega) fl_X5_14 ft_5_0 (by decide) rfl hnm fo_5_0 (fun _ => rfl) (fun _ => rfl) dX5_init_12 (fun H locs X => ?_)
  obtain ⟨h7, e8, hf⟩ := lt_e hf
  rw [← e8] at X
  refine lv_aload_n hx hb dX5_init_15 rfl (lv_at hl 0 rfl) ?_
  refine lv_sipush (v := (800 : Int32)) hx hb dX5_init_16 (by decide) ?_
  obtain ⟨g9, hf⟩ := gd_e hf
  obtain ⟨g10, hf⟩ := gd_e hf
  refine n_arr (at0 := .int) (ty := .int) (t0 := 0) (cA0 := G.2.1) (N := 800) (cells1 := 7) (slots1 := 16011) (n1 := (n + 7)) hx hb hts hK X rfl rfl (fun _ _ z => z) la_int rfl (cE_ni (Or.inl g9) g10) (by decide) (by decide) (by decide) rfl rfl rfl (by decide) (by decide) dX5_init_19 (fun H X => ?_)
  obtain ⟨h11, e12, hf⟩ := lt_e hf
  rw [← e12] at X
  refine g_PFa hx hb hts hown hK X o0 (by omega) (by omega) fl_X5_18 ft_5_1 (by decide) rfl hnm fo_5_1 (fun _ => rfl) (fun _ => rfl) dX5_init_21 (fun H locs X => ?_)
  obtain ⟨h13, e14, hf⟩ := lt_e hf
  rw [← e14] at X
  refine lv_aload_n hx hb dX5_init_24 rfl (lv_at hl 0 rfl) ?_
  refine lv_sipush (v := (800 : Int32)) hx hb dX5_init_25 (by decide) ?_
  obtain ⟨g15, hf⟩ := gd_e hf
  obtain ⟨g16, hf⟩ := gd_e hf
  refine n_arr (at0 := .int) (ty := .int) (t0 := 0) (cA0 := G.2.1) (N := 800) (cells1 := 8) (slots1 := 16811) (n1 := (n + 8)) hx hb hts hK X rfl rfl (fun _ _ z => z) la_int rfl (cE_ni (Or.inl g15) g16) (by decide) (by decide) (by decide) rfl rfl rfl (by decide) (by decide) dX5_init_28 (fun H X => ?_)
  obtain ⟨h17, e18, hf⟩ := lt_e hf
  rw [← e18] at X
  refine g_PFa hx hb hts hown hK X o0 (by omega) (by omega) fl_X5_22 ft_5_2 (by decide) rfl hnm fo_5_2 (fun _ => rfl) (fun _ => rfl) dX5_init_30 (fun H locs X => ?_)
  obtain ⟨h19, e20, hf⟩ := lt_e hf
  rw [← e20] at X
  refine lv_aload_n hx hb dX5_init_33 rfl (lv_at hl 0 rfl) ?_
  refine lv_sipush (v := (800 : Int32)) hx hb dX5_init_34 (by decide) ?_
  obtain ⟨g21, hf⟩ := gd_e hf
  obtain ⟨g22, hf⟩ := gd_e hf
  refine n_arr (at0 := .int) (ty := .int) (t0 := 0) (cA0 := G.2.1) (N := 800) (cells1 := 9) (slots1 := 17611) (n1 := (n + 9)) hx hb hts hK X rfl rfl (fun _ _ z => z) la_int rfl (cE_ni (Or.inl g21) g22) (by decide) (by decide) (by decide) rfl rfl rfl (by decide) (by decide) dX5_init_37 (fun H X => ?_)
  obtain ⟨h23, e24, hf⟩ := lt_e hf
  rw [← e24] at X
  refine g_PFa hx hb hts hown hK X o0 (by omega) (by omega) fl_X5_25 ft_5_3 (by decide) rfl hnm fo_5_3 (fun _ => rfl) (fun _ => rfl) dX5_init_39 (fun H locs X => ?_)
  obtain ⟨h25, e26, hf⟩ := lt_e hf
  rw [← e26] at X
  refine lv_aload_n hx hb dX5_init_42 rfl (lv_at hl 0 rfl) ?_
  refine lv_sipush (v := (800 : Int32)) hx hb dX5_init_43 (by decide) ?_
  obtain ⟨g27, hf⟩ := gd_e hf
  obtain ⟨g28, hf⟩ := gd_e hf
  refine n_arr (at0 := .int) (ty := .int) (t0 := 0) (cA0 := G.2.1) (N := 800) (cells1 := 10) (slots1 := 18411) (n1 := (n + 10)) hx hb hts hK X rfl rfl (fun _ _ z => z) la_int rfl (cE_ni (Or.inl g27) g28) (by decide) (by decide) (by decide) rfl rfl rfl (by decide) (by decide) dX5_init_46 (fun H X => ?_)
  obtain ⟨h29, e30, hf⟩ := lt_e hf
  rw [← e30] at X
  refine g_PFa hx hb hts hown hK X o0 (by omega) (by omega) fl_X5_28 ft_5_4 (by decide) rfl hnm fo_5_4 (fun _ => rfl) (fun _ => rfl) dX5_init_48 (fun H locs X => ?_)
  obtain ⟨h31, e32, hf⟩ := lt_e hf
  rw [← e32] at X
  refine lv_aload_n hx hb dX5_init_51 rfl (lv_at hl 0 rfl) ?_
  refine lv_sipush (v := (800 : Int32)) hx hb dX5_init_52 (by decide) ?_
  obtain ⟨g33, hf⟩ := gd_e hf
  obtain ⟨g34, hf⟩ := gd_e hf
  refine n_arr (at0 := .int) (ty := .int) (t0 := 0) (cA0 := G.2.1) (N := 800) (cells1 := 11) (slots1 := 19211) (n1 := (n + 11)) hx hb hts hK X rfl rfl (fun _ _ z => z) la_int rfl (cE_ni (Or.inl g33) g34) (by decide) (by decide) (by decide) rfl rfl rfl (by decide) (by decide) dX5_init_55 (fun H X => ?_)
  obtain ⟨h35, e36, hf⟩ := lt_e hf
  rw [← e36] at X
  refine g_PFa hx hb hts hown hK X o0 (by omega) (by omega) fl_X5_31 ft_5_5 (by decide) rfl hnm fo_5_5 (fun _ => rfl) (fun _ => rfl) dX5_init_57 (fun H locs X => ?_)
  obtain ⟨h37, e38, hf⟩ := lt_e hf
  rw [← e38] at X
  refine lv_aload_n hx hb dX5_init_60 rfl (lv_at hl 0 rfl) ?_
  refine lv_sipush (v := (800 : Int32)) hx hb dX5_init_61 (by decide) ?_
  obtain ⟨g39, hf⟩ := gd_e hf
  obtain ⟨g40, hf⟩ := gd_e hf
  refine n_arr (at0 := .int) (ty := .int) (t0 := 0) (cA0 := G.2.1) (N := 800) (cells1 := 12) (slots1 := 20011) (n1 := (n + 12)) hx hb hts hK X rfl rfl (fun _ _ z => z) la_int rfl (cE_ni (Or.inl g39) g40) (by decide) (by decide) (by decide) rfl rfl rfl (by decide) (by decide) dX5_init_64 (fun H X => ?_)
  obtain ⟨h41, e42, hf⟩ := lt_e hf
  rw [← e42] at X
  refine g_PFa hx hb hts hown hK X o0 (by omega) (by omega) fl_X5_34 ft_5_6 (by decide) rfl hnm fo_5_6 (fun _ => rfl) (fun _ => rfl) dX5_init_66 (fun H locs X => ?_)
  obtain ⟨h43, e44, hf⟩ := lt_e hf
  rw [← e44] at X
  refine lv_aload_n hx hb dX5_init_69 rfl (lv_at hl 0 rfl) ?_
  refine lv_bipush (v := (100 : Int32)) hx hb dX5_init_70 (by decide) ?_
  obtain ⟨g45, hf⟩ := gd_e hf
  obtain ⟨g46, hf⟩ := gd_e hf
  refine n_arr (at0 := .int) (ty := .int) (t0 := 0) (cA0 := G.2.1) (N := 100) (cells1 := 13) (slots1 := 20111) (n1 := (n + 13)) hx hb hts hK X rfl rfl (fun _ _ z => z) la_int rfl (cE_ni (Or.inl g45) g46) (by decide) (by decide) (by decide) rfl rfl rfl (by decide) (by decide) dX5_init_72 (fun H X => ?_)
  obtain ⟨h47, e48, hf⟩ := lt_e hf
  rw [← e48] at X
  refine g_PFa hx hb hts hown hK X o0 (by omega) (by omega) fl_X5_37 ft_5_7 (by decide) rfl hnm fo_5_7 (fun _ => rfl) (fun _ => rfl) dX5_init_74 (fun H locs X => ?_)
  obtain ⟨h49, e50, hf⟩ := lt_e hf
  rw [← e50] at X
  exact r_V hx hb hr hlocks X hf dX5_init_77
end
theorem dX8_init_0 : decode bX8_init 0 = .ok (.aload_n 0, 1) := by decide +kernel
theorem dX8_init_1 : decode bX8_init 1 = .ok (.invokespecial 3, 3) := by decide +kernel
theorem dX8_init_4 : decode bX8_init 4 = .ok (.aload_n 0, 1) := by decide +kernel
theorem dX8_init_5 : decode bX8_init 5 = .ok (.sipush 200, 3) := by decide +kernel
theorem dX8_init_8 : decode bX8_init 8 = .ok (.newarray .char, 2) := by decide +kernel
theorem dX8_init_10 : decode bX8_init 10 = .ok (.putfield 9, 3) := by decide +kernel
theorem dX8_init_13 : decode bX8_init 13 = .ok (.aload_n 0, 1) := by decide +kernel
theorem dX8_init_14 : decode bX8_init 14 = .ok (.iconst 3, 1) := by decide +kernel
theorem dX8_init_15 : decode bX8_init 15 = .ok (.newarray .int, 2) := by decide +kernel
theorem dX8_init_17 : decode bX8_init 17 = .ok (.putfield 15, 3) := by decide +kernel
theorem dX8_init_20 : decode bX8_init 20 = .ok (.return_, 1) := by decide +kernel
def f_X8_init (n : Nat) (h : Hp) (x0 : Nat) : Option (Unit × Hp) :=
  gd (kd x0 = 8) <|
  gd (kd (n + 1) = 14) <|
  gd (ln (n + 1) = 200) <|
  lt (sz h (n + 1)) <| fun h3 =>
  lt (sr h3 x0 1 (n + 1)) <| fun h5 =>
  gd (kd (n + 2) = 13) <|
  gd (ln (n + 2) = 3) <|
  lt (sz h5 (n + 2)) <| fun h9 =>
  lt (sr h9 x0 2 (n + 2)) <| fun h11 =>
  some ((), h11)
section
variable {p : Program} {l : Launch} {e : Env} {s : State} {m : MethodId} {args : Array Value} {below : List Frame} {meth : Method} {c : Code} {G : GG} {n : Nat} {h' : Hp} {rv : Unit}
set_option maxHeartbeats 4000000
set_option maxRecDepth 100000
theorem k_X8_init (l : Launch) (G : GG) (n : Nat) {h h' : Hp} {x0 : Nat} {rv : Unit} (b0 : 1 ≤ x0 ∧ x0 ≤ n) (hf : f_X8_init n h x0 = some (rv, h')) : CT l G n (n + 2) yX8_init (.code yX8_init bX8_init 1 none) 1 2 203 [.ref (bs G + x0)] h h' none := by
  refine ct_of (maxL := 1) (ret := none) (bytes := bX8_init) (by decide) (Nat.le_of_ble_eq_true rfl) (fun p e s m below meth c C0 X ls hl => ?_)
  have hl : lv_has ls 1 [(0, .ref (bs G + x0))] := hl
  obtain ⟨hx, hb, hr, hml, hown, hts, hK, hlocks, hnm⟩ := id C0
  unfold f_X8_init at hf
  obtain ⟨o0, hf⟩ := gd_e hf
  refine lv_aload_n hx hb dX8_init_0 rfl (lv_at hl 0 rfl) ?_
  refine n_obj hx hb (hml.trans hl.1.symm) hown hts lo_X8_3 (by decide) (Nat.le_of_ble_eq_true rfl) dX8_init_1 ?_
  refine lv_aload_n hx hb dX8_init_4 rfl (lv_at hl 0 rfl) ?_
  refine lv_sipush (v := (200 : Int32)) hx hb dX8_init_5 (by decide) ?_
  obtain ⟨g1, hf⟩ := gd_e hf
  obtain ⟨g2, hf⟩ := gd_e hf
  refine n_arr (at0 := .char) (ty := .char) (t0 := 1) (cA0 := G.2.2.1) (N := 200) (cells1 := 1) (slots1 := 200) (n1 := (n + 1)) hx hb hts hK X rfl rfl (fun _ _ z => z) la_char rfl (cE_nc g1 g2) (by decide) (by decide) (by decide) rfl rfl rfl (by decide) (by decide) dX8_init_8 (fun H X => ?_)
  obtain ⟨h3, e4, hf⟩ := lt_e hf
  rw [← e4] at X
  refine g_PFa hx hb hts hown hK X o0 (by omega) (by omega) fl_X8_9 ft_8_1 (by decide) rfl hnm fo_8_1 (fun _ => rfl) (fun _ => rfl) dX8_init_10 (fun H locs X => ?_)
  obtain ⟨h5, e6, hf⟩ := lt_e hf
  rw [← e6] at X
  refine lv_aload_n hx hb dX8_init_13 rfl (lv_at hl 0 rfl) ?_
  refine lv_iconst (v := (3 : Int32)) hx hb dX8_init_14 (by decide) ?_
  obtain ⟨g7, hf⟩ := gd_e hf
  obtain ⟨g8, hf⟩ := gd_e hf
  refine n_arr (at0 := .int) (ty := .int) (t0 := 0) (cA0 := G.2.1) (N := 3) (cells1 := 2) (slots1 := 203) (n1 := (n + 2)) hx hb hts hK X rfl rfl (fun _ _ z => z) la_int rfl (cE_ni (Or.inl g7) g8) (by decide) (by decide) (by decide) rfl rfl rfl (by decide) (by decide) dX8_init_15 (fun H X => ?_)
  obtain ⟨h9, e10, hf⟩ := lt_e hf
  rw [← e10] at X
  refine g_PFa hx hb hts hown hK X o0 (by omega) (by omega) fl_X8_15 ft_8_2 (by decide) rfl hnm fo_8_2 (fun _ => rfl) (fun _ => rfl) dX8_init_17 (fun H locs X => ?_)
  obtain ⟨h11, e12, hf⟩ := lt_e hf
  rw [← e12] at X
  exact r_V hx hb hr hlocks X hf dX8_init_20
end
theorem dX9_init_0 : decode bX9_init 0 = .ok (.aload_n 0, 1) := by decide +kernel
theorem dX9_init_1 : decode bX9_init 1 = .ok (.invokespecial 3, 3) := by decide +kernel
theorem dX9_init_4 : decode bX9_init 4 = .ok (.aload_n 0, 1) := by decide +kernel
theorem dX9_init_5 : decode bX9_init 5 = .ok (.sipush 601, 3) := by decide +kernel
theorem dX9_init_8 : decode bX9_init 8 = .ok (.newarray .int, 2) := by decide +kernel
theorem dX9_init_10 : decode bX9_init 10 = .ok (.putfield 9, 3) := by decide +kernel
theorem dX9_init_13 : decode bX9_init 13 = .ok (.aload_n 0, 1) := by decide +kernel
theorem dX9_init_14 : decode bX9_init 14 = .ok (.sipush 601, 3) := by decide +kernel
theorem dX9_init_17 : decode bX9_init 17 = .ok (.newarray .int, 2) := by decide +kernel
theorem dX9_init_19 : decode bX9_init 19 = .ok (.putfield 15, 3) := by decide +kernel
theorem dX9_init_22 : decode bX9_init 22 = .ok (.return_, 1) := by decide +kernel
def f_X9_init (n : Nat) (h : Hp) (x0 : Nat) : Option (Unit × Hp) :=
  gd (kd x0 = 9) <|
  gd (kd (n + 1) = 13) <|
  gd (ln (n + 1) = 601) <|
  lt (sz h (n + 1)) <| fun h3 =>
  lt (sr h3 x0 0 (n + 1)) <| fun h5 =>
  gd (kd (n + 2) = 13) <|
  gd (ln (n + 2) = 601) <|
  lt (sz h5 (n + 2)) <| fun h9 =>
  lt (sr h9 x0 1 (n + 2)) <| fun h11 =>
  some ((), h11)
section
variable {p : Program} {l : Launch} {e : Env} {s : State} {m : MethodId} {args : Array Value} {below : List Frame} {meth : Method} {c : Code} {G : GG} {n : Nat} {h' : Hp} {rv : Unit}
set_option maxHeartbeats 4000000
set_option maxRecDepth 100000
theorem k_X9_init (l : Launch) (G : GG) (n : Nat) {h h' : Hp} {x0 : Nat} {rv : Unit} (b0 : 1 ≤ x0 ∧ x0 ≤ n) (hf : f_X9_init n h x0 = some (rv, h')) : CT l G n (n + 2) yX9_init (.code yX9_init bX9_init 1 none) 1 2 1202 [.ref (bs G + x0)] h h' none := by
  refine ct_of (maxL := 1) (ret := none) (bytes := bX9_init) (by decide) (Nat.le_of_ble_eq_true rfl) (fun p e s m below meth c C0 X ls hl => ?_)
  have hl : lv_has ls 1 [(0, .ref (bs G + x0))] := hl
  obtain ⟨hx, hb, hr, hml, hown, hts, hK, hlocks, hnm⟩ := id C0
  unfold f_X9_init at hf
  obtain ⟨o0, hf⟩ := gd_e hf
  refine lv_aload_n hx hb dX9_init_0 rfl (lv_at hl 0 rfl) ?_
  refine n_obj hx hb (hml.trans hl.1.symm) hown hts lo_X9_3 (by decide) (Nat.le_of_ble_eq_true rfl) dX9_init_1 ?_
  refine lv_aload_n hx hb dX9_init_4 rfl (lv_at hl 0 rfl) ?_
  refine lv_sipush (v := (601 : Int32)) hx hb dX9_init_5 (by decide) ?_
  obtain ⟨g1, hf⟩ := gd_e hf
  obtain ⟨g2, hf⟩ := gd_e hf
  refine n_arr (at0 := .int) (ty := .int) (t0 := 0) (cA0 := G.2.1) (N := 601) (cells1 := 1) (slots1 := 601) (n1 := (n + 1)) hx hb hts hK X rfl rfl (fun _ _ z => z) la_int rfl (cE_ni (Or.inl g1) g2) (by decide) (by decide) (by decide) rfl rfl rfl (by decide) (by decide) dX9_init_8 (fun H X => ?_)
  obtain ⟨h3, e4, hf⟩ := lt_e hf
  rw [← e4] at X
  refine g_PRa hx hb hts hown hK X o0 (by omega) (by omega) fl_X9_9 ft_9_0 (by decide) rfl (fun _ => rfl) (fun _ => rfl) dX9_init_10 (fun H locs X => ?_)
  obtain ⟨h5, e6, hf⟩ := lt_e hf
  rw [← e6] at X
  refine lv_aload_n hx hb dX9_init_13 rfl (lv_at hl 0 rfl) ?_
  refine lv_sipush (v := (601 : Int32)) hx hb dX9_init_14 (by decide) ?_
  obtain ⟨g7, hf⟩ := gd_e hf
  obtain ⟨g8, hf⟩ := gd_e hf
  refine n_arr (at0 := .int) (ty := .int) (t0 := 0) (cA0 := G.2.1) (N := 601) (cells1 := 2) (slots1 := 1202) (n1 := (n + 2)) hx hb hts hK X rfl rfl (fun _ _ z => z) la_int rfl (cE_ni (Or.inl g7) g8) (by decide) (by decide) (by decide) rfl rfl rfl (by decide) (by decide) dX9_init_17 (fun H X => ?_)
  obtain ⟨h9, e10, hf⟩ := lt_e hf
  rw [← e10] at X
  refine g_PRa hx hb hts hown hK X o0 (by omega) (by omega) fl_X9_15 ft_9_1 (by decide) rfl (fun _ => rfl) (fun _ => rfl) dX9_init_19 (fun H locs X => ?_)
  obtain ⟨h11, e12, hf⟩ := lt_e hf
  rw [← e12] at X
  exact r_V hx hb hr hlocks X hf dX9_init_22
end
theorem dX10_init_0 : decode bX10_init 0 = .ok (.aload_n 0, 1) := by decide +kernel
theorem dX10_init_1 : decode bX10_init 1 = .ok (.invokespecial 3, 3) := by decide +kernel
theorem dX10_init_4 : decode bX10_init 4 = .ok (.aload_n 0, 1) := by decide +kernel
theorem dX10_init_5 : decode bX10_init 5 = .ok (.bipush 10, 2) := by decide +kernel
theorem dX10_init_7 : decode bX10_init 7 = .ok (.newarray .int, 2) := by decide +kernel
theorem dX10_init_9 : decode bX10_init 9 = .ok (.putfield 9, 3) := by decide +kernel
theorem dX10_init_12 : decode bX10_init 12 = .ok (.aload_n 0, 1) := by decide +kernel
theorem dX10_init_13 : decode bX10_init 13 = .ok (.bipush 10, 2) := by decide +kernel
theorem dX10_init_15 : decode bX10_init 15 = .ok (.newarray .int, 2) := by decide +kernel
theorem dX10_init_17 : decode bX10_init 17 = .ok (.putfield 15, 3) := by decide +kernel
theorem dX10_init_20 : decode bX10_init 20 = .ok (.return_, 1) := by decide +kernel
def f_X10_init (n : Nat) (h : Hp) (x0 : Nat) : Option (Unit × Hp) :=
  gd (kd x0 = 10) <|
  gd (kd (n + 1) = 13) <|
  gd (ln (n + 1) = 10) <|
  lt (sz h (n + 1)) <| fun h3 =>
  lt (sr h3 x0 1 (n + 1)) <| fun h5 =>
  gd (kd (n + 2) = 13) <|
  gd (ln (n + 2) = 10) <|
  lt (sz h5 (n + 2)) <| fun h9 =>
  lt (sr h9 x0 2 (n + 2)) <| fun h11 =>
  some ((), h11)
section
variable {p : Program} {l : Launch} {e : Env} {s : State} {m : MethodId} {args : Array Value} {below : List Frame} {meth : Method} {c : Code} {G : GG} {n : Nat} {h' : Hp} {rv : Unit}
set_option maxHeartbeats 4000000
set_option maxRecDepth 100000
theorem k_X10_init (l : Launch) (G : GG) (n : Nat) {h h' : Hp} {x0 : Nat} {rv : Unit} (b0 : 1 ≤ x0 ∧ x0 ≤ n) (hf : f_X10_init n h x0 = some (rv, h')) : CT l G n (n + 2) yX10_init (.code yX10_init bX10_init 1 none) 1 2 20 [.ref (bs G + x0)] h h' none := by
  refine ct_of (maxL := 1) (ret := none) (bytes := bX10_init) (by decide) (Nat.le_of_ble_eq_true rfl) (fun p e s m below meth c C0 X ls hl => ?_)
  have hl : lv_has ls 1 [(0, .ref (bs G + x0))] := hl
  obtain ⟨hx, hb, hr, hml, hown, hts, hK, hlocks, hnm⟩ := id C0
  unfold f_X10_init at hf
  obtain ⟨o0, hf⟩ := gd_e hf
  refine lv_aload_n hx hb dX10_init_0 rfl (lv_at hl 0 rfl) ?_
  refine n_obj hx hb (hml.trans hl.1.symm) hown hts lo_X10_3 (by decide) (Nat.le_of_ble_eq_true rfl) dX10_init_1 ?_
  refine lv_aload_n hx hb dX10_init_4 rfl (lv_at hl 0 rfl) ?_
  refine lv_bipush (v := (10 : Int32)) hx hb dX10_init_5 (by decide) ?_
  obtain ⟨g1, hf⟩ := gd_e hf
  obtain ⟨g2, hf⟩ := gd_e hf
  refine n_arr (at0 := .int) (ty := .int) (t0 := 0) (cA0 := G.2.1) (N := 10) (cells1 := 1) (slots1 := 10) (n1 := (n + 1)) hx hb hts hK X rfl rfl (fun _ _ z => z) la_int rfl (cE_ni (Or.inl g1) g2) (by decide) (by decide) (by decide) rfl rfl rfl (by decide) (by decide) dX10_init_7 (fun H X => ?_)
  obtain ⟨h3, e4, hf⟩ := lt_e hf
  rw [← e4] at X
  refine g_PFa hx hb hts hown hK X o0 (by omega) (by omega) fl_X10_9 ft_10_1 (by decide) rfl hnm fo_10_1 (fun _ => rfl) (fun _ => rfl) dX10_init_9 (fun H locs X => ?_)
  obtain ⟨h5, e6, hf⟩ := lt_e hf
  rw [← e6] at X
  refine lv_aload_n hx hb dX10_init_12 rfl (lv_at hl 0 rfl) ?_
  refine lv_bipush (v := (10 : Int32)) hx hb dX10_init_13 (by decide) ?_
  obtain ⟨g7, hf⟩ := gd_e hf
  obtain ⟨g8, hf⟩ := gd_e hf
  refine n_arr (at0 := .int) (ty := .int) (t0 := 0) (cA0 := G.2.1) (N := 10) (cells1 := 2) (slots1 := 20) (n1 := (n + 2)) hx hb hts hK X rfl rfl (fun _ _ z => z) la_int rfl (cE_ni (Or.inl g7) g8) (by decide) (by decide) (by decide) rfl rfl rfl (by decide) (by decide) dX10_init_15 (fun H X => ?_)
  obtain ⟨h9, e10, hf⟩ := lt_e hf
  rw [← e10] at X
  refine g_PFa hx hb hts hown hK X o0 (by omega) (by omega) fl_X10_15 ft_10_2 (by decide) rfl hnm fo_10_2 (fun _ => rfl) (fun _ => rfl) dX10_init_17 (fun H locs X => ?_)
  obtain ⟨h11, e12, hf⟩ := lt_e hf
  rw [← e12] at X
  exact r_V hx hb hr hlocks X hf dX10_init_20
end
theorem dX11_init_0 : decode bX11_init 0 = .ok (.aload_n 0, 1) := by decide +kernel
theorem dX11_init_1 : decode bX11_init 1 = .ok (.invokespecial 1, 3) := by decide +kernel
theorem dX11_init_4 : decode bX11_init 4 = .ok (.aload_n 0, 1) := by decide +kernel
theorem dX11_init_5 : decode bX11_init 5 = .ok (.new 7, 3) := by decide +kernel
theorem dX11_init_8 : decode bX11_init 8 = .ok (.dup, 1) := by decide +kernel
theorem dX11_init_9 : decode bX11_init 9 = .ok (.invokespecial 9, 3) := by decide +kernel
theorem dX11_init_12 : decode bX11_init 12 = .ok (.putfield 10, 3) := by decide +kernel
theorem dX11_init_15 : decode bX11_init 15 = .ok (.aload_n 0, 1) := by decide +kernel
theorem dX11_init_16 : decode bX11_init 16 = .ok (.new 16, 3) := by decide +kernel
theorem dX11_init_19 : decode bX11_init 19 = .ok (.dup, 1) := by decide +kernel
theorem dX11_init_20 : decode bX11_init 20 = .ok (.invokespecial 18, 3) := by decide +kernel
theorem dX11_init_23 : decode bX11_init 23 = .ok (.putfield 19, 3) := by decide +kernel
theorem dX11_init_26 : decode bX11_init 26 = .ok (.aload_n 0, 1) := by decide +kernel
theorem dX11_init_27 : decode bX11_init 27 = .ok (.new 16, 3) := by decide +kernel
theorem dX11_init_30 : decode bX11_init 30 = .ok (.dup, 1) := by decide +kernel
theorem dX11_init_31 : decode bX11_init 31 = .ok (.invokespecial 18, 3) := by decide +kernel
theorem dX11_init_34 : decode bX11_init 34 = .ok (.putfield 23, 3) := by decide +kernel
theorem dX11_init_37 : decode bX11_init 37 = .ok (.aload_n 0, 1) := by decide +kernel
theorem dX11_init_38 : decode bX11_init 38 = .ok (.new 26, 3) := by decide +kernel
theorem dX11_init_41 : decode bX11_init 41 = .ok (.dup, 1) := by decide +kernel
theorem dX11_init_42 : decode bX11_init 42 = .ok (.invokespecial 28, 3) := by decide +kernel
theorem dX11_init_45 : decode bX11_init 45 = .ok (.putfield 29, 3) := by decide +kernel
theorem dX11_init_48 : decode bX11_init 48 = .ok (.aload_n 0, 1) := by decide +kernel
theorem dX11_init_49 : decode bX11_init 49 = .ok (.new 33, 3) := by decide +kernel
theorem dX11_init_52 : decode bX11_init 52 = .ok (.dup, 1) := by decide +kernel
theorem dX11_init_53 : decode bX11_init 53 = .ok (.bipush 8, 2) := by decide +kernel
theorem dX11_init_55 : decode bX11_init 55 = .ok (.invokespecial 35, 3) := by decide +kernel
theorem dX11_init_58 : decode bX11_init 58 = .ok (.putfield 38, 3) := by decide +kernel
theorem dX11_init_61 : decode bX11_init 61 = .ok (.aload_n 0, 1) := by decide +kernel
theorem dX11_init_62 : decode bX11_init 62 = .ok (.new 33, 3) := by decide +kernel
theorem dX11_init_65 : decode bX11_init 65 = .ok (.dup, 1) := by decide +kernel
theorem dX11_init_66 : decode bX11_init 66 = .ok (.iconst 2, 1) := by decide +kernel
theorem dX11_init_67 : decode bX11_init 67 = .ok (.invokespecial 35, 3) := by decide +kernel
theorem dX11_init_70 : decode bX11_init 70 = .ok (.putfield 42, 3) := by decide +kernel
theorem dX11_init_73 : decode bX11_init 73 = .ok (.aload_n 0, 1) := by decide +kernel
theorem dX11_init_74 : decode bX11_init 74 = .ok (.new 45, 3) := by decide +kernel
theorem dX11_init_77 : decode bX11_init 77 = .ok (.dup, 1) := by decide +kernel
theorem dX11_init_78 : decode bX11_init 78 = .ok (.invokespecial 47, 3) := by decide +kernel
theorem dX11_init_81 : decode bX11_init 81 = .ok (.putfield 48, 3) := by decide +kernel
theorem dX11_init_84 : decode bX11_init 84 = .ok (.aload_n 0, 1) := by decide +kernel
theorem dX11_init_85 : decode bX11_init 85 = .ok (.new 52, 3) := by decide +kernel
theorem dX11_init_88 : decode bX11_init 88 = .ok (.dup, 1) := by decide +kernel
theorem dX11_init_89 : decode bX11_init 89 = .ok (.invokespecial 54, 3) := by decide +kernel
theorem dX11_init_92 : decode bX11_init 92 = .ok (.putfield 55, 3) := by decide +kernel
theorem dX11_init_95 : decode bX11_init 95 = .ok (.aload_n 0, 1) := by decide +kernel
theorem dX11_init_96 : decode bX11_init 96 = .ok (.new 59, 3) := by decide +kernel
theorem dX11_init_99 : decode bX11_init 99 = .ok (.dup, 1) := by decide +kernel
theorem dX11_init_100 : decode bX11_init 100 = .ok (.invokespecial 61, 3) := by decide +kernel
theorem dX11_init_103 : decode bX11_init 103 = .ok (.putfield 62, 3) := by decide +kernel
theorem dX11_init_106 : decode bX11_init 106 = .ok (.aload_n 0, 1) := by decide +kernel
theorem dX11_init_107 : decode bX11_init 107 = .ok (.new 66, 3) := by decide +kernel
theorem dX11_init_110 : decode bX11_init 110 = .ok (.dup, 1) := by decide +kernel
theorem dX11_init_111 : decode bX11_init 111 = .ok (.invokespecial 68, 3) := by decide +kernel
theorem dX11_init_114 : decode bX11_init 114 = .ok (.putfield 69, 3) := by decide +kernel
theorem dX11_init_117 : decode bX11_init 117 = .ok (.aload_n 0, 1) := by decide +kernel
theorem dX11_init_118 : decode bX11_init 118 = .ok (.new 73, 3) := by decide +kernel
theorem dX11_init_121 : decode bX11_init 121 = .ok (.dup, 1) := by decide +kernel
theorem dX11_init_122 : decode bX11_init 122 = .ok (.invokespecial 75, 3) := by decide +kernel
theorem dX11_init_125 : decode bX11_init 125 = .ok (.putfield 76, 3) := by decide +kernel
theorem dX11_init_128 : decode bX11_init 128 = .ok (.aload_n 0, 1) := by decide +kernel
theorem dX11_init_129 : decode bX11_init 129 = .ok (.new 80, 3) := by decide +kernel
theorem dX11_init_132 : decode bX11_init 132 = .ok (.dup, 1) := by decide +kernel
theorem dX11_init_133 : decode bX11_init 133 = .ok (.aload_n 0, 1) := by decide +kernel
theorem dX11_init_134 : decode bX11_init 134 = .ok (.getfield 69, 3) := by decide +kernel
theorem dX11_init_137 : decode bX11_init 137 = .ok (.invokespecial 82, 3) := by decide +kernel
theorem dX11_init_140 : decode bX11_init 140 = .ok (.putfield 85, 3) := by decide +kernel
theorem dX11_init_143 : decode bX11_init 143 = .ok (.iconst 0, 1) := by decide +kernel
theorem dX11_init_144 : decode bX11_init 144 = .ok (.istore_n 1, 1) := by decide +kernel
theorem dX11_init_145 : decode bX11_init 145 = .ok (.iload_n 1, 1) := by decide +kernel
theorem dX11_init_146 : decode bX11_init 146 = .ok (.ldc 89, 2) := by decide +kernel
theorem dX11_init_148 : decode bX11_init 148 = .ok (.invokevirtual 91, 3) := by decide +kernel
theorem dX11_init_151 : decode bX11_init 151 = .ok (.if_icmp .ge 23, 3) := by decide +kernel
theorem dX11_init_154 : decode bX11_init 154 = .ok (.aload_n 0, 1) := by decide +kernel
theorem dX11_init_155 : decode bX11_init 155 = .ok (.getfield 10, 3) := by decide +kernel
theorem dX11_init_158 : decode bX11_init 158 = .ok (.ldc 89, 2) := by decide +kernel
theorem dX11_init_160 : decode bX11_init 160 = .ok (.iload_n 1, 1) := by decide +kernel
theorem dX11_init_161 : decode bX11_init 161 = .ok (.invokevirtual 97, 3) := by decide +kernel
theorem dX11_init_164 : decode bX11_init 164 = .ok (.invokevirtual 101, 3) := by decide +kernel
theorem dX11_init_167 : decode bX11_init 167 = .ok (.pop, 1) := by decide +kernel
theorem dX11_init_168 : decode bX11_init 168 = .ok (.iinc 1 1, 3) := by decide +kernel
theorem dX11_init_171 : decode bX11_init 171 = .ok (.goto (-26), 3) := by decide +kernel
theorem dX11_init_174 : decode bX11_init 174 = .ok (.aload_n 0, 1) := by decide +kernel
theorem dX11_init_175 : decode bX11_init 175 = .ok (.getfield 10, 3) := by decide +kernel
theorem dX11_init_178 : decode bX11_init 178 = .ok (.aload_n 0, 1) := by decide +kernel
theorem dX11_init_179 : decode bX11_init 179 = .ok (.getfield 19, 3) := by decide +kernel
theorem dX11_init_182 : decode bX11_init 182 = .ok (.invokevirtual 105, 3) := by decide +kernel
theorem dX11_init_185 : decode bX11_init 185 = .ok (.pop, 1) := by decide +kernel
theorem dX11_init_186 : decode bX11_init 186 = .ok (.aload_n 0, 1) := by decide +kernel
theorem dX11_init_187 : decode bX11_init 187 = .ok (.getfield 10, 3) := by decide +kernel
theorem dX11_init_190 : decode bX11_init 190 = .ok (.iconst 0, 1) := by decide +kernel
theorem dX11_init_191 : decode bX11_init 191 = .ok (.putfield 109, 3) := by decide +kernel
theorem dX11_init_194 : decode bX11_init 194 = .ok (.aload_n 0, 1) := by decide +kernel
theorem dX11_init_195 : decode bX11_init 195 = .ok (.getfield 69, 3) := by decide +kernel
theorem dX11_init_198 : decode bX11_init 198 = .ok (.aload_n 0, 1) := by decide +kernel
theorem dX11_init_199 : decode bX11_init 199 = .ok (.getfield 19, 3) := by decide +kernel
theorem dX11_init_202 : decode bX11_init 202 = .ok (.invokevirtual 112, 3) := by decide +kernel
theorem dX11_init_205 : decode bX11_init 205 = .ok (.return_, 1) := by decide +kernel
def f_X11_init_145 : Nat → Hp → Nat → Int32 → Option (Unit × Hp)
  | 0 => fun _ _ _ => none
  | fu + 1 => fun h x0 x1 =>
    if (26 : Int32) ≤ x1 then
      gd (kd (h.2 x0 0) = 8) <|
      gd (kd (h.2 x0 1) = 4) <|
      bd (f_X8_readInto h (h.2 x0 0) (h.2 x0 1)) <| fun r3 h4 =>
      gd (kd (h4.2 x0 0) = 8) <|
      lt ((si h4 (h4.2 x0 0) 0 (0 : Int32))) <| fun h7 =>
      gd (kd (h7.2 x0 9) = 5) <|
      gd (kd (h7.2 x0 1) = 4) <|
      bd (f_X5_forget h7 (h7.2 x0 9) (h7.2 x0 1)) <| fun r11 h12 =>
      some ((), h12)
    else
      gd (kd (h.2 x0 0) = 8) <|
      gd (inr x1 26 = true) <|
      bd (f_X8_append h (h.2 x0 0) (txl x1.toNatClampNeg)) <| fun r16 h17 =>
      f_X11_init_145 fu h17 x0 (x1 + (1 : Int32))
def f_X11_init (h : Hp) (x0 : Nat) : Option (Unit × Hp) :=
  gd (kd x0 = 11) <|
  gd (kd 2 = 8) <|
  lt (sz h 2) <| fun h2 =>
  bd (f_X8_init 2 h2 2) <| fun r6 h4 =>
  lt (sr h4 x0 0 2) <| fun h7 =>
  gd (kd 5 = 4) <|
  lt (sz h7 5) <| fun h10 =>
  bd (f_X4_init 5 h10 5) <| fun r14 h12 =>
  lt (sr h12 x0 1 5) <| fun h15 =>
  gd (kd 9 = 4) <|
  lt (sz h15 9) <| fun h18 =>
  bd (f_X4_init 9 h18 9) <| fun r22 h20 =>
  lt (sr h20 x0 2 9) <| fun h23 =>
  gd (kd 13 = 2) <|
  lt (sz h23 13) <| fun h26 =>
  bd (f_X2_init 13 h26 13) <| fun r30 h28 =>
  lt (sr h28 x0 3 13) <| fun h31 =>
  gd (kd 16 = 3) <|
  lt (sz h31 16) <| fun h34 =>
  bd (f_X3_init 8 16 h34 16 (8 : Int32)) <| fun r38 h36 =>
  lt (sr h36 x0 4 16) <| fun h39 =>
  gd (kd 42 = 3) <|
  lt (sz h39 42) <| fun h42 =>
  bd (f_X3_init 2 42 h42 42 (2 : Int32)) <| fun r46 h44 =>
  lt (sr h44 x0 5 42) <| fun h47 =>
  gd (kd 50 = 10) <|
  lt (sz h47 50) <| fun h50 =>
  bd (f_X10_init 50 h50 50) <| fun r54 h52 =>
  lt (sr h52 x0 6 50) <| fun h55 =>
  gd (kd 53 = 0) <|
  lt (sz h55 53) <| fun h58 =>
  bd (f_X0_init 53 h58 53) <| fun r62 h60 =>
  lt (sr h60 x0 7 53) <| fun h63 =>
  gd (kd 58 = 9) <|
  lt (sz h63 58) <| fun h66 =>
  bd (f_X9_init 58 h66 58) <| fun r70 h68 =>
  lt (sr h68 x0 8 58) <| fun h71 =>
  gd (kd 61 = 5) <|
  lt (sz h71 61) <| fun h74 =>
  bd (f_X5_init 61 h74 61) <| fun r78 h76 =>
  lt (sr h76 x0 9 61) <| fun h79 =>
  gd (kd 75 = 6) <|
  lt (sz h79 75) <| fun h82 =>
  bd (f_X6_init 75 h82 75) <| fun r86 h84 =>
  lt (sr h84 x0 10 75) <| fun h87 =>
  gd (kd 78 = 1) <|
  lt (sz h87 78) <| fun h90 =>
  gd (kd (h90.2 x0 9) = 5) <|
  gd (1 ≤ (h90.2 x0 9) ∧ (h90.2 x0 9) ≤ 78) <|
  bd (f_X1_init 78 h90 78 (h90.2 x0 9)) <| fun r96 h94 =>
  lt (sr h94 x0 11 78) <| fun h97 =>
  f_X11_init_145 FU h97 x0 (0 : Int32)
section
variable {p : Program} {l : Launch} {e : Env} {s : State} {m : MethodId} {args : Array Value} {below : List Frame} {meth : Method} {c : Code} {G : GG} {n : Nat} {h' : Hp} {rv : Unit}
set_option maxHeartbeats 4000000
set_option maxRecDepth 100000
theorem j_X11_init_145 (C0 : Cx p s m args meth c G bX11_init RX11 2 none "<init>") (hN : NX ≤ 82) {sK sV : Nat} (hS : StrOK G sK sV s) : ∀ (fu : Nat), ∀ {H : Heap} {locs : List Loc} {ls : Array Slot} {h : Hp} {x0 : Nat} {x1 : Int32}, XW G 82 h s 81 H locs → lv_has ls 2 [(0, .ref (bs G + x0)), (1, .int x1)] → kd x0 = 11 → f_X11_init_145 fu h x0 x1 = some (rv, h') → W p l e (rmC 6 81 22076) s m args below meth c H locs 81 22076 (MQ below (QP G 82 h' none) args s 81 22076 (Ab G)) (F0 m 145 ls []) := by
  obtain ⟨hx, hb, hr, hml, hown, hts, hK, hlocks, hnm⟩ := id C0
  intro fu
  induction fu with
  | zero => intro H locs ls h x0 x1 X hl o0 hf; cases hf
  | succ fu ih =>
    intro H locs ls h x0 x1 X hl o0 hf
    rw [f_X11_init_145] at hf
    refine lv_iload_n hx hb dX11_init_145 rfl (lv_at hl 1 rfl) ?_
    refine s_ldc hx hb hown hS dX11_init_146 ?_
    refine s_len hx hb hml hl.1 hown hts hS X (by decide) (Nat.le_of_ble_eq_true rfl) ⟨by decide, by decide⟩ dX11_init_148 ?_
    refine lv_icmp_ge (tgt := 174) hx hb dX11_init_151 (by decide) (fun c151 => ?_) (fun c151 => ?_)
    · have hf := ite_t hf c151
      refine lv_aload_n hx hb dX11_init_174 rfl (lv_at hl 0 rfl) ?_
      obtain ⟨g1, hf⟩ := gd_e hf
      refine g_R hx hb hts hown hK X o0 hN g1 fl_X11_10 (by decide) rfl (by decide) dX11_init_175 ?_
      refine lv_aload_n hx hb dX11_init_178 rfl (lv_at hl 0 rfl) ?_
      obtain ⟨g2, hf⟩ := gd_e hf
      refine g_R hx hb hts hown hK X o0 hN g2 fl_X11_19 (by decide) rfl (by decide) dX11_init_179 ?_
      obtain ⟨r3, h4, q5, hf⟩ := bd_e hf
      refine c_V1 (As := [.ref (bs G + (h.2 x0 1))]) (rest := []) (st1 := [.int r3]) hx hb hml hown hts hK X (k_X8_readInto l G 82 hN q5) g1 hN lc_X8_readInto lv_X11_105 (ci := 8) rfl rfl (by decide) rfl hl.1 (Nat.le_of_ble_eq_true rfl) dX11_init_182 rfl ⟨by decide, by decide⟩ (fun H locs X => ?_)
      refine lv_pop hx hb dX11_init_185 rfl ?_
      refine lv_aload_n hx hb dX11_init_186 rfl (lv_at hl 0 rfl) ?_
      obtain ⟨g6, hf⟩ := gd_e hf
      refine g_R hx hb hts hown hK X o0 hN g6 fl_X11_10 (by decide) rfl (by decide) dX11_init_187 ?_
      refine lv_iconst (v := (0 : Int32)) hx hb dX11_init_190 (by decide) ?_
      refine g_PI hx hb hts hown hK X g6 hN fl_X11_109 ft_8_0 (by decide) rfl dX11_init_191 (fun H locs X => ?_)
      obtain ⟨h7, e8, hf⟩ := lt_e hf
      rw [← e8] at X
      refine lv_aload_n hx hb dX11_init_194 rfl (lv_at hl 0 rfl) ?_
      obtain ⟨g9, hf⟩ := gd_e hf
      refine g_R hx hb hts hown hK X o0 hN g9 fl_X11_69 (by decide) rfl (by decide) dX11_init_195 ?_
      refine lv_aload_n hx hb dX11_init_198 rfl (lv_at hl 0 rfl) ?_
      obtain ⟨g10, hf⟩ := gd_e hf
      refine g_R hx hb hts hown hK X o0 hN g10 fl_X11_19 (by decide) rfl (by decide) dX11_init_199 ?_
      obtain ⟨r11, h12, q13, hf⟩ := bd_e hf
      refine c_V1 (As := [.ref (bs G + (h7.2 x0 1))]) (rest := []) (st1 := []) hx hb hml hown hts hK X (k_X5_forget l G 82 hN q13) g9 hN lc_X5_forget lv_X11_112 (ci := 5) rfl rfl (by decide) rfl hl.1 (Nat.le_of_ble_eq_true rfl) dX11_init_202 rfl ⟨by decide, by decide⟩ (fun H locs X => ?_)
      exact r_V hx hb hr hlocks X hf dX11_init_205
    · have hf := ite_f hf c151
      refine lv_aload_n hx hb dX11_init_154 rfl (lv_at hl 0 rfl) ?_
      obtain ⟨g14, hf⟩ := gd_e hf
      refine g_R hx hb hts hown hK X o0 hN g14 fl_X11_10 (by decide) rfl (by decide) dX11_init_155 ?_
      refine s_ldc hx hb hown hS dX11_init_158 ?_
      refine lv_iload_n hx hb dX11_init_160 rfl (lv_at hl 1 rfl) ?_
      obtain ⟨g15, hf⟩ := gd_e hf
      refine s_chr hx hb hml hl.1 hown hts hS X g15 (by decide) (Nat.le_of_ble_eq_true rfl) ⟨by decide, by decide⟩ dX11_init_161 ?_
      obtain ⟨r16, h17, q18, hf⟩ := bd_e hf
      refine c_V1 (As := [.int (txl x1.toNatClampNeg)]) (rest := []) (st1 := [.int r16]) hx hb hml hown hts hK X (k_X8_append l G 82 hN q18) g14 hN lc_X8_append lv_X11_101 (ci := 8) rfl rfl (by decide) rfl hl.1 (Nat.le_of_ble_eq_true rfl) dX11_init_164 rfl ⟨by decide, by decide⟩ (fun H locs X => ?_)
      refine lv_pop hx hb dX11_init_167 rfl ?_
      refine lv_iinc (v := (x1 + (1 : Int32))) (lv' := [(1, .int (x1 + (1 : Int32))), (0, .ref (bs G + x0))]) hx hb dX11_init_168 hl (k := 1) rfl rfl (by decide) rfl (fun ls hl => ?_)
      refine lv_goto (tgt := 145) hx hb dX11_init_171 (by decide) ?_
      exact ih X (lv_sub hl [1, 0] rfl) o0 hf
theorem k_X11_init (l : Launch) (G : GG) {h h' : Hp} {x0 : Nat} {rv : Unit} {sK sV : Nat} (b0 : 1 ≤ x0 ∧ x0 ≤ 1) (hf : f_X11_init h x0 = some (rv, h')) : CTS sK sV l G 1 82 yX11_init (.code yX11_init bX11_init 2 none) 6 81 22076 [.ref (bs G + x0)] h h' none := by
  refine cts_of (maxL := 2) (bytes := bX11_init) (by decide) (Nat.le_of_ble_eq_true rfl) (fun p e s m below meth c C0 X hS ls hl => ?_)
  have hl : lv_has ls 2 [(0, .ref (bs G + x0))] := hl
  obtain ⟨hx, hb, hr, hml, hown, hts, hK, hlocks, hnm⟩ := id C0
  have hN : NX ≤ 82 := by decide
  unfold f_X11_init at hf
  obtain ⟨o0, hf⟩ := gd_e hf
  refine lv_aload_n hx hb dX11_init_0 rfl (lv_at hl 0 rfl) ?_
  refine n_obj hx hb (hml.trans hl.1.symm) hown hts lo_X11_1 (by decide) (Nat.le_of_ble_eq_true rfl) dX11_init_1 ?_
  refine lv_aload_n hx hb dX11_init_4 rfl (lv_at hl 0 rfl) ?_
  obtain ⟨g1, hf⟩ := gd_e hf
  refine n_new (ci := 8) (cells1 := 1) (slots1 := 5) (n1 := 2) hx hb hts hown hK X g1 rfl ln_X11_7 rfl rfl rfl (by decide) (by decide) dX11_init_5 (fun H X => ?_)
  obtain ⟨h2, e3, hf⟩ := lt_e hf
  rw [← e3] at X
  refine lv_dup hx hb dX11_init_8 rfl ?_
  obtain ⟨r6, h4, q5, hf⟩ := bd_e hf
  refine c_IN1 (As := []) (rest := [.ref (bs G + 2), .ref (bs G + x0)]) (n1 := 4) (cells1 := 3) (slots1 := 208) hx hb hml hown hts hK X (k_X8_init l G 2 (by omega) q5) rfl lc_X8_init li_X11_9 (by decide) rfl hl.1 (Nat.le_of_ble_eq_true rfl) dX11_init_9 rfl rfl ⟨by decide, by decide⟩ (fun H locs X => ?_)
  refine g_PFa hx hb hts hown hK X o0 (by omega) (by omega) fl_X11_10 ft_11_0 (by decide) rfl hnm fo_11_0 (fun _ => rfl) (fun _ => rfl) dX11_init_12 (fun H locs X => ?_)
  obtain ⟨h7, e8, hf⟩ := lt_e hf
  rw [← e8] at X
  refine lv_aload_n hx hb dX11_init_15 rfl (lv_at hl 0 rfl) ?_
  obtain ⟨g9, hf⟩ := gd_e hf
  refine n_new (ci := 4) (cells1 := 4) (slots1 := 216) (n1 := 5) hx hb hts hown hK X g9 rfl ln_X11_16 rfl rfl rfl (by decide) (by decide) dX11_init_16 (fun H X => ?_)
  obtain ⟨h10, e11, hf⟩ := lt_e hf
  rw [← e11] at X
  refine lv_dup hx hb dX11_init_19 rfl ?_
  obtain ⟨r14, h12, q13, hf⟩ := bd_e hf
  refine c_IN1 (As := []) (rest := [.ref (bs G + 5), .ref (bs G + x0)]) (n1 := 8) (cells1 := 7) (slots1 := 253) hx hb hml hown hts hK X (k_X4_init l G 5 (by omega) q13) rfl lc_X4_init li_X11_18 (by decide) rfl hl.1 (Nat.le_of_ble_eq_true rfl) dX11_init_20 rfl rfl ⟨by decide, by decide⟩ (fun H locs X => ?_)
  refine g_PRa hx hb hts hown hK X o0 (by omega) (by omega) fl_X11_19 ft_11_1 (by decide) rfl (fun _ => rfl) (fun _ => rfl) dX11_init_23 (fun H locs X => ?_)
  obtain ⟨h15, e16, hf⟩ := lt_e hf
  rw [← e16] at X
  refine lv_aload_n hx hb dX11_init_26 rfl (lv_at hl 0 rfl) ?_
  obtain ⟨g17, hf⟩ := gd_e hf
  refine n_new (ci := 4) (cells1 := 8) (slots1 := 261) (n1 := 9) hx hb hts hown hK X g17 rfl ln_X11_16 rfl rfl rfl (by decide) (by decide) dX11_init_27 (fun H X => ?_)
  obtain ⟨h18, e19, hf⟩ := lt_e hf
  rw [← e19] at X
  refine lv_dup hx hb dX11_init_30 rfl ?_
  obtain ⟨r22, h20, q21, hf⟩ := bd_e hf
  refine c_IN1 (As := []) (rest := [.ref (bs G + 9), .ref (bs G + x0)]) (n1 := 12) (cells1 := 11) (slots1 := 298) hx hb hml hown hts hK X (k_X4_init l G 9 (by omega) q21) rfl lc_X4_init li_X11_18 (by decide) rfl hl.1 (Nat.le_of_ble_eq_true rfl) dX11_init_31 rfl rfl ⟨by decide, by decide⟩ (fun H locs X => ?_)
  refine g_PRa hx hb hts hown hK X o0 (by omega) (by omega) fl_X11_23 ft_11_2 (by decide) rfl (fun _ => rfl) (fun _ => rfl) dX11_init_34 (fun H locs X => ?_)
  obtain ⟨h23, e24, hf⟩ := lt_e hf
  rw [← e24] at X
  refine lv_aload_n hx hb dX11_init_37 rfl (lv_at hl 0 rfl) ?_
  obtain ⟨g25, hf⟩ := gd_e hf
  refine n_new (ci := 2) (cells1 := 12) (slots1 := 303) (n1 := 13) hx hb hts hown hK X g25 rfl ln_X11_26 rfl rfl rfl (by decide) (by decide) dX11_init_38 (fun H X => ?_)
  obtain ⟨h26, e27, hf⟩ := lt_e hf
  rw [← e27] at X
  refine lv_dup hx hb dX11_init_41 rfl ?_
  obtain ⟨r30, h28, q29, hf⟩ := bd_e hf
  refine c_IN1 (As := []) (rest := [.ref (bs G + 13), .ref (bs G + x0)]) (n1 := 15) (cells1 := 14) (slots1 := 317) hx hb hml hown hts hK X (k_X2_init l G 13 (by omega) q29) rfl lc_X2_init li_X11_28 (by decide) rfl hl.1 (Nat.le_of_ble_eq_true rfl) dX11_init_42 rfl rfl ⟨by decide, by decide⟩ (fun H locs X => ?_)
  refine g_PFa hx hb hts hown hK X o0 (by omega) (by omega) fl_X11_29 ft_11_3 (by decide) rfl hnm fo_11_3 (fun _ => rfl) (fun _ => rfl) dX11_init_45 (fun H locs X => ?_)
  obtain ⟨h31, e32, hf⟩ := lt_e hf
  rw [← e32] at X
  refine lv_aload_n hx hb dX11_init_48 rfl (lv_at hl 0 rfl) ?_
  obtain ⟨g33, hf⟩ := gd_e hf
  refine n_new (ci := 3) (cells1 := 15) (slots1 := 319) (n1 := 16) hx hb hts hown hK X g33 rfl ln_X11_33 rfl rfl rfl (by decide) (by decide) dX11_init_49 (fun H X => ?_)
  obtain ⟨h34, e35, hf⟩ := lt_e hf
  rw [← e35] at X
  refine lv_dup hx hb dX11_init_52 rfl ?_
  refine lv_bipush (v := (8 : Int32)) hx hb dX11_init_53 (by decide) ?_
  obtain ⟨r38, h36, q37, hf⟩ := bd_e hf
  refine c_I1 (As := [.int (8 : Int32)]) (rest := [.ref (bs G + 16), .ref (bs G + x0)]) (n1 := 41) (cells1 := 40) (slots1 := 479) hx hb hml hown hts hK X (k_X3_init l G 8 16 (by omega) q37) rfl lc_X3_init li_X11_35 (by decide) rfl hl.1 (Nat.le_of_ble_eq_true rfl) dX11_init_55 rfl rfl ⟨by decide, by decide⟩ (fun H locs X => ?_)
  refine g_PFa hx hb hts hown hK X o0 (by omega) (by omega) fl_X11_38 ft_11_4 (by decide) rfl hnm fo_11_4 (fun _ => rfl) (fun _ => rfl) dX11_init_58 (fun H locs X => ?_)
  obtain ⟨h39, e40, hf⟩ := lt_e hf
  rw [← e40] at X
  refine lv_aload_n hx hb dX11_init_61 rfl (lv_at hl 0 rfl) ?_
  obtain ⟨g41, hf⟩ := gd_e hf
  refine n_new (ci := 3) (cells1 := 41) (slots1 := 481) (n1 := 42) hx hb hts hown hK X g41 rfl ln_X11_33 rfl rfl rfl (by decide) (by decide) dX11_init_62 (fun H X => ?_)
  obtain ⟨h42, e43, hf⟩ := lt_e hf
  rw [← e43] at X
  refine lv_dup hx hb dX11_init_65 rfl ?_
  refine lv_iconst (v := (2 : Int32)) hx hb dX11_init_66 (by decide) ?_
  obtain ⟨r46, h44, q45, hf⟩ := bd_e hf
  refine c_I1 (As := [.int (2 : Int32)]) (rest := [.ref (bs G + 42), .ref (bs G + x0)]) (n1 := 49) (cells1 := 48) (slots1 := 521) hx hb hml hown hts hK X (k_X3_init l G 2 42 (by omega) q45) rfl lc_X3_init li_X11_35 (by decide) rfl hl.1 (Nat.le_of_ble_eq_true rfl) dX11_init_67 rfl rfl ⟨by decide, by decide⟩ (fun H locs X => ?_)
  refine g_PFa hx hb hts hown hK X o0 (by omega) (by omega) fl_X11_42 ft_11_5 (by decide) rfl hnm fo_11_5 (fun _ => rfl) (fun _ => rfl) dX11_init_70 (fun H locs X => ?_)
  obtain ⟨h47, e48, hf⟩ := lt_e hf
  rw [← e48] at X
  refine lv_aload_n hx hb dX11_init_73 rfl (lv_at hl 0 rfl) ?_
  obtain ⟨g49, hf⟩ := gd_e hf
  refine n_new (ci := 10) (cells1 := 49) (slots1 := 524) (n1 := 50) hx hb hts hown hK X g49 rfl ln_X11_45 rfl rfl rfl (by decide) (by decide) dX11_init_74 (fun H X => ?_)
  obtain ⟨h50, e51, hf⟩ := lt_e hf
  rw [← e51] at X
  refine lv_dup hx hb dX11_init_77 rfl ?_
  obtain ⟨r54, h52, q53, hf⟩ := bd_e hf
  refine c_IN1 (As := []) (rest := [.ref (bs G + 50), .ref (bs G + x0)]) (n1 := 52) (cells1 := 51) (slots1 := 544) hx hb hml hown hts hK X (k_X10_init l G 50 (by omega) q53) rfl lc_X10_init li_X11_47 (by decide) rfl hl.1 (Nat.le_of_ble_eq_true rfl) dX11_init_78 rfl rfl ⟨by decide, by decide⟩ (fun H locs X => ?_)
  refine g_PFa hx hb hts hown hK X o0 (by omega) (by omega) fl_X11_48 ft_11_6 (by decide) rfl hnm fo_11_6 (fun _ => rfl) (fun _ => rfl) dX11_init_81 (fun H locs X => ?_)
  obtain ⟨h55, e56, hf⟩ := lt_e hf
  rw [← e56] at X
  refine lv_aload_n hx hb dX11_init_84 rfl (lv_at hl 0 rfl) ?_
  obtain ⟨g57, hf⟩ := gd_e hf
  refine n_new (ci := 0) (cells1 := 52) (slots1 := 550) (n1 := 53) hx hb hts hown hK X g57 rfl ln_X11_52 rfl rfl rfl (by decide) (by decide) dX11_init_85 (fun H X => ?_)
  obtain ⟨h58, e59, hf⟩ := lt_e hf
  rw [← e59] at X
  refine lv_dup hx hb dX11_init_88 rfl ?_
  obtain ⟨r62, h60, q61, hf⟩ := bd_e hf
  refine c_IN1 (As := []) (rest := [.ref (bs G + 53), .ref (bs G + x0)]) (n1 := 57) (cells1 := 56) (slots1 := 574) hx hb hml hown hts hK X (k_X0_init l G 53 (by omega) q61) rfl lc_X0_init li_X11_54 (by decide) rfl hl.1 (Nat.le_of_ble_eq_true rfl) dX11_init_89 rfl rfl ⟨by decide, by decide⟩ (fun H locs X => ?_)
  refine g_PFa hx hb hts hown hK X o0 (by omega) (by omega) fl_X11_55 ft_11_7 (by decide) rfl hnm fo_11_7 (fun _ => rfl) (fun _ => rfl) dX11_init_92 (fun H locs X => ?_)
  obtain ⟨h63, e64, hf⟩ := lt_e hf
  rw [← e64] at X
  refine lv_aload_n hx hb dX11_init_95 rfl (lv_at hl 0 rfl) ?_
  obtain ⟨g65, hf⟩ := gd_e hf
  refine n_new (ci := 9) (cells1 := 57) (slots1 := 577) (n1 := 58) hx hb hts hown hK X g65 rfl ln_X11_59 rfl rfl rfl (by decide) (by decide) dX11_init_96 (fun H X => ?_)
  obtain ⟨h66, e67, hf⟩ := lt_e hf
  rw [← e67] at X
  refine lv_dup hx hb dX11_init_99 rfl ?_
  obtain ⟨r70, h68, q69, hf⟩ := bd_e hf
  refine c_IN1 (As := []) (rest := [.ref (bs G + 58), .ref (bs G + x0)]) (n1 := 60) (cells1 := 59) (slots1 := 1779) hx hb hml hown hts hK X (k_X9_init l G 58 (by omega) q69) rfl lc_X9_init li_X11_61 (by decide) rfl hl.1 (Nat.le_of_ble_eq_true rfl) dX11_init_100 rfl rfl ⟨by decide, by decide⟩ (fun H locs X => ?_)
  refine g_PFa hx hb hts hown hK X o0 (by omega) (by omega) fl_X11_62 ft_11_8 (by decide) rfl hnm fo_11_8 (fun _ => rfl) (fun _ => rfl) dX11_init_103 (fun H locs X => ?_)
  obtain ⟨h71, e72, hf⟩ := lt_e hf
  rw [← e72] at X
  refine lv_aload_n hx hb dX11_init_106 rfl (lv_at hl 0 rfl) ?_
  obtain ⟨g73, hf⟩ := gd_e hf
  refine n_new (ci := 5) (cells1 := 60) (slots1 := 1788) (n1 := 61) hx hb hts hown hK X g73 rfl ln_X11_66 rfl rfl rfl (by decide) (by decide) dX11_init_107 (fun H X => ?_)
  obtain ⟨h74, e75, hf⟩ := lt_e hf
  rw [← e75] at X
  refine lv_dup hx hb dX11_init_110 rfl ?_
  obtain ⟨r78, h76, q77, hf⟩ := bd_e hf
  refine c_IN1 (As := []) (rest := [.ref (bs G + 61), .ref (bs G + x0)]) (n1 := 74) (cells1 := 73) (slots1 := 21899) hx hb hml hown hts hK X (k_X5_init l G 61 (by omega) q77) rfl lc_X5_init li_X11_68 (by decide) rfl hl.1 (Nat.le_of_ble_eq_true rfl) dX11_init_111 rfl rfl ⟨by decide, by decide⟩ (fun H locs X => ?_)
  refine g_PFa hx hb hts hown hK X o0 (by omega) (by omega) fl_X11_69 ft_11_9 (by decide) rfl hnm fo_11_9 (fun _ => rfl) (fun _ => rfl) dX11_init_114 (fun H locs X => ?_)
  obtain ⟨h79, e80, hf⟩ := lt_e hf
  rw [← e80] at X
  refine lv_aload_n hx hb dX11_init_117 rfl (lv_at hl 0 rfl) ?_
  obtain ⟨g81, hf⟩ := gd_e hf
  refine n_new (ci := 6) (cells1 := 74) (slots1 := 21906) (n1 := 75) hx hb hts hown hK X g81 rfl ln_X11_73 rfl rfl rfl (by decide) (by decide) dX11_init_118 (fun H X => ?_)
  obtain ⟨h82, e83, hf⟩ := lt_e hf
  rw [← e83] at X
  refine lv_dup hx hb dX11_init_121 rfl ?_
  obtain ⟨r86, h84, q85, hf⟩ := bd_e hf
  refine c_IN1 (As := []) (rest := [.ref (bs G + 75), .ref (bs G + x0)]) (n1 := 77) (cells1 := 76) (slots1 := 21918) hx hb hml hown hts hK X (k_X6_init l G 75 (by omega) q85) rfl lc_X6_init li_X11_75 (by decide) rfl hl.1 (Nat.le_of_ble_eq_true rfl) dX11_init_122 rfl rfl ⟨by decide, by decide⟩ (fun H locs X => ?_)
  refine g_PFa hx hb hts hown hK X o0 (by omega) (by omega) fl_X11_76 ft_11_10 (by decide) rfl hnm fo_11_10 (fun _ => rfl) (fun _ => rfl) dX11_init_125 (fun H locs X => ?_)
  obtain ⟨h87, e88, hf⟩ := lt_e hf
  rw [← e88] at X
  refine lv_aload_n hx hb dX11_init_128 rfl (lv_at hl 0 rfl) ?_
  obtain ⟨g89, hf⟩ := gd_e hf
  refine n_new (ci := 1) (cells1 := 77) (slots1 := 21928) (n1 := 78) hx hb hts hown hK X g89 rfl ln_X11_80 rfl rfl rfl (by decide) (by decide) dX11_init_129 (fun H X => ?_)
  obtain ⟨h90, e91, hf⟩ := lt_e hf
  rw [← e91] at X
  refine lv_dup hx hb dX11_init_132 rfl ?_
  refine lv_aload_n hx hb dX11_init_133 rfl (lv_at hl 0 rfl) ?_
  obtain ⟨g92, hf⟩ := gd_e hf
  obtain ⟨g93, hf⟩ := gd_e hf
  refine g_Ra hx hb hts hown hK X o0 (by omega) g92 fl_X11_69 (by decide) rfl (by decide) dX11_init_134 ?_
  obtain ⟨r96, h94, q95, hf⟩ := bd_e hf
  refine c_I1 (As := [.ref (bs G + (h90.2 x0 9))]) (rest := [.ref (bs G + 78), .ref (bs G + x0)]) (n1 := 82) (cells1 := 81) (slots1 := 22076) hx hb hml hown hts hK X (k_X1_init l G 78 (by omega) (by omega) q95) rfl lc_X1_init li_X11_82 (by decide) rfl hl.1 (Nat.le_of_ble_eq_true rfl) dX11_init_137 rfl rfl ⟨by decide, by decide⟩ (fun H locs X => ?_)
  refine g_PFa hx hb hts hown hK X o0 (by omega) (by omega) fl_X11_85 ft_11_11 (by decide) rfl hnm fo_11_11 (fun _ => rfl) (fun _ => rfl) dX11_init_140 (fun H locs X => ?_)
  obtain ⟨h97, e98, hf⟩ := lt_e hf
  rw [← e98] at X
  refine lv_iconst (v := (0 : Int32)) hx hb dX11_init_143 (by decide) ?_
  refine lv_istore_n (lv' := [(1, .int (0 : Int32)), (0, .ref (bs G + x0))]) hx hb dX11_init_144 rfl hl (by decide) rfl (fun ls hl => ?_)
  exact j_X11_init_145 C0 hN hS FU X (lv_sub hl [1, 0] rfl) o0 hf
end
theorem dX12_init_0 : decode bX12_init 0 = .ok (.aload_n 0, 1) := by decide +kernel
theorem dX12_init_1 : decode bX12_init 1 = .ok (.invokespecial 7, 3) := by decide +kernel
theorem dX12_init_4 : decode bX12_init 4 = .ok (.aload_n 0, 1) := by decide +kernel
theorem dX12_init_5 : decode bX12_init 5 = .ok (.bipush 59, 2) := by decide +kernel
theorem dX12_init_7 : decode bX12_init 7 = .ok (.newarray .int, 2) := by decide +kernel
theorem dX12_init_9 : decode bX12_init 9 = .ok (.putfield 13, 3) := by decide +kernel
theorem dX12_init_12 : decode bX12_init 12 = .ok (.aload_n 0, 1) := by decide +kernel
theorem dX12_init_13 : decode bX12_init 13 = .ok (.bipush 59, 2) := by decide +kernel
theorem dX12_init_15 : decode bX12_init 15 = .ok (.newarray .int, 2) := by decide +kernel
theorem dX12_init_17 : decode bX12_init 17 = .ok (.putfield 17, 3) := by decide +kernel
theorem dX12_init_20 : decode bX12_init 20 = .ok (.aload_n 0, 1) := by decide +kernel
theorem dX12_init_21 : decode bX12_init 21 = .ok (.bipush 51, 2) := by decide +kernel
theorem dX12_init_23 : decode bX12_init 23 = .ok (.newarray .int, 2) := by decide +kernel
theorem dX12_init_25 : decode bX12_init 25 = .ok (.putfield 20, 3) := by decide +kernel
theorem dX12_init_28 : decode bX12_init 28 = .ok (.aload_n 0, 1) := by decide +kernel
theorem dX12_init_29 : decode bX12_init 29 = .ok (.sipush 408, 3) := by decide +kernel
theorem dX12_init_32 : decode bX12_init 32 = .ok (.newarray .int, 2) := by decide +kernel
theorem dX12_init_34 : decode bX12_init 34 = .ok (.putfield 23, 3) := by decide +kernel
theorem dX12_init_37 : decode bX12_init 37 = .ok (.aload_n 0, 1) := by decide +kernel
theorem dX12_init_38 : decode bX12_init 38 = .ok (.bipush 102, 2) := by decide +kernel
theorem dX12_init_40 : decode bX12_init 40 = .ok (.newarray .int, 2) := by decide +kernel
theorem dX12_init_42 : decode bX12_init 42 = .ok (.putfield 26, 3) := by decide +kernel
theorem dX12_init_45 : decode bX12_init 45 = .ok (.aload_n 0, 1) := by decide +kernel
theorem dX12_init_46 : decode bX12_init 46 = .ok (.sipush 200, 3) := by decide +kernel
theorem dX12_init_49 : decode bX12_init 49 = .ok (.newarray .int, 2) := by decide +kernel
theorem dX12_init_51 : decode bX12_init 51 = .ok (.putfield 29, 3) := by decide +kernel
theorem dX12_init_54 : decode bX12_init 54 = .ok (.aload_n 0, 1) := by decide +kernel
theorem dX12_init_55 : decode bX12_init 55 = .ok (.iconst 3, 1) := by decide +kernel
theorem dX12_init_56 : decode bX12_init 56 = .ok (.newarray .int, 2) := by decide +kernel
theorem dX12_init_58 : decode bX12_init 58 = .ok (.putfield 32, 3) := by decide +kernel
theorem dX12_init_61 : decode bX12_init 61 = .ok (.aload_n 0, 1) := by decide +kernel
theorem dX12_init_62 : decode bX12_init 62 = .ok (.bipush 20, 2) := by decide +kernel
theorem dX12_init_64 : decode bX12_init 64 = .ok (.newarray .int, 2) := by decide +kernel
theorem dX12_init_66 : decode bX12_init 66 = .ok (.putfield 35, 3) := by decide +kernel
theorem dX12_init_69 : decode bX12_init 69 = .ok (.aload_n 0, 1) := by decide +kernel
theorem dX12_init_70 : decode bX12_init 70 = .ok (.sipush 15626, 3) := by decide +kernel
theorem dX12_init_73 : decode bX12_init 73 = .ok (.newarray .int, 2) := by decide +kernel
theorem dX12_init_75 : decode bX12_init 75 = .ok (.putfield 38, 3) := by decide +kernel
theorem dX12_init_78 : decode bX12_init 78 = .ok (.aload_n 0, 1) := by decide +kernel
theorem dX12_init_79 : decode bX12_init 79 = .ok (.bipush 7, 2) := by decide +kernel
theorem dX12_init_81 : decode bX12_init 81 = .ok (.newarray .int, 2) := by decide +kernel
theorem dX12_init_83 : decode bX12_init 83 = .ok (.putfield 41, 3) := by decide +kernel
theorem dX12_init_86 : decode bX12_init 86 = .ok (.aload_n 0, 1) := by decide +kernel
theorem dX12_init_87 : decode bX12_init 87 = .ok (.bipush 7, 2) := by decide +kernel
theorem dX12_init_89 : decode bX12_init 89 = .ok (.newarray .int, 2) := by decide +kernel
theorem dX12_init_91 : decode bX12_init 91 = .ok (.putfield 44, 3) := by decide +kernel
theorem dX12_init_94 : decode bX12_init 94 = .ok (.aload_n 0, 1) := by decide +kernel
theorem dX12_init_95 : decode bX12_init 95 = .ok (.bipush 7, 2) := by decide +kernel
theorem dX12_init_97 : decode bX12_init 97 = .ok (.newarray .int, 2) := by decide +kernel
theorem dX12_init_99 : decode bX12_init 99 = .ok (.putfield 47, 3) := by decide +kernel
theorem dX12_init_102 : decode bX12_init 102 = .ok (.aload_n 0, 1) := by decide +kernel
theorem dX12_init_103 : decode bX12_init 103 = .ok (.bipush 6, 2) := by decide +kernel
theorem dX12_init_105 : decode bX12_init 105 = .ok (.newarray .int, 2) := by decide +kernel
theorem dX12_init_107 : decode bX12_init 107 = .ok (.putfield 50, 3) := by decide +kernel
theorem dX12_init_110 : decode bX12_init 110 = .ok (.aload_n 0, 1) := by decide +kernel
theorem dX12_init_111 : decode bX12_init 111 = .ok (.sipush 601, 3) := by decide +kernel
theorem dX12_init_114 : decode bX12_init 114 = .ok (.newarray .int, 2) := by decide +kernel
theorem dX12_init_116 : decode bX12_init 116 = .ok (.putfield 53, 3) := by decide +kernel
theorem dX12_init_119 : decode bX12_init 119 = .ok (.aload_n 0, 1) := by decide +kernel
theorem dX12_init_120 : decode bX12_init 120 = .ok (.sipush 601, 3) := by decide +kernel
theorem dX12_init_123 : decode bX12_init 123 = .ok (.newarray .int, 2) := by decide +kernel
theorem dX12_init_125 : decode bX12_init 125 = .ok (.putfield 56, 3) := by decide +kernel
theorem dX12_init_128 : decode bX12_init 128 = .ok (.aload_n 0, 1) := by decide +kernel
theorem dX12_init_129 : decode bX12_init 129 = .ok (.bipush 6, 2) := by decide +kernel
theorem dX12_init_131 : decode bX12_init 131 = .ok (.newarray .int, 2) := by decide +kernel
theorem dX12_init_133 : decode bX12_init 133 = .ok (.putfield 59, 3) := by decide +kernel
theorem dX12_init_136 : decode bX12_init 136 = .ok (.aload_n 0, 1) := by decide +kernel
theorem dX12_init_137 : decode bX12_init 137 = .ok (.bipush 6, 2) := by decide +kernel
theorem dX12_init_139 : decode bX12_init 139 = .ok (.newarray .int, 2) := by decide +kernel
theorem dX12_init_141 : decode bX12_init 141 = .ok (.putfield 62, 3) := by decide +kernel
theorem dX12_init_144 : decode bX12_init 144 = .ok (.aload_n 0, 1) := by decide +kernel
theorem dX12_init_145 : decode bX12_init 145 = .ok (.bipush 64, 2) := by decide +kernel
theorem dX12_init_147 : decode bX12_init 147 = .ok (.newarray .int, 2) := by decide +kernel
theorem dX12_init_149 : decode bX12_init 149 = .ok (.putfield 65, 3) := by decide +kernel
theorem dX12_init_152 : decode bX12_init 152 = .ok (.aload_n 0, 1) := by decide +kernel
theorem dX12_init_153 : decode bX12_init 153 = .ok (.invokevirtual 68, 3) := by decide +kernel
theorem dX12_init_156 : decode bX12_init 156 = .ok (.aload_n 0, 1) := by decide +kernel
theorem dX12_init_157 : decode bX12_init 157 = .ok (.getfield 13, 3) := by decide +kernel
theorem dX12_init_160 : decode bX12_init 160 = .ok (.iconst 0, 1) := by decide +kernel
theorem dX12_init_161 : decode bX12_init 161 = .ok (.bipush 9, 2) := by decide +kernel
theorem dX12_init_163 : decode bX12_init 163 = .ok (.iastore, 1) := by decide +kernel
theorem dX12_init_164 : decode bX12_init 164 = .ok (.aload_n 0, 1) := by decide +kernel
theorem dX12_init_165 : decode bX12_init 165 = .ok (.getfield 13, 3) := by decide +kernel
theorem dX12_init_168 : decode bX12_init 168 = .ok (.iconst 1, 1) := by decide +kernel
theorem dX12_init_169 : decode bX12_init 169 = .ok (.iconst 4, 1) := by decide +kernel
theorem dX12_init_170 : decode bX12_init 170 = .ok (.iastore, 1) := by decide +kernel
theorem dX12_init_171 : decode bX12_init 171 = .ok (.aload_n 0, 1) := by decide +kernel
theorem dX12_init_172 : decode bX12_init 172 = .ok (.getfield 13, 3) := by decide +kernel
theorem dX12_init_175 : decode bX12_init 175 = .ok (.bipush 11, 2) := by decide +kernel
theorem dX12_init_177 : decode bX12_init 177 = .ok (.iconst 3, 1) := by decide +kernel
theorem dX12_init_178 : decode bX12_init 178 = .ok (.iastore, 1) := by decide +kernel
theorem dX12_init_179 : decode bX12_init 179 = .ok (.aload_n 0, 1) := by decide +kernel
theorem dX12_init_180 : decode bX12_init 180 = .ok (.getfield 13, 3) := by decide +kernel
theorem dX12_init_183 : decode bX12_init 183 = .ok (.bipush 53, 2) := by decide +kernel
theorem dX12_init_185 : decode bX12_init 185 = .ok (.iconst 4, 1) := by decide +kernel
theorem dX12_init_186 : decode bX12_init 186 = .ok (.iastore, 1) := by decide +kernel
theorem dX12_init_187 : decode bX12_init 187 = .ok (.aload_n 0, 1) := by decide +kernel
theorem dX12_init_188 : decode bX12_init 188 = .ok (.getfield 13, 3) := by decide +kernel
theorem dX12_init_191 : decode bX12_init 191 = .ok (.bipush 54, 2) := by decide +kernel
theorem dX12_init_193 : decode bX12_init 193 = .ok (.iconst 4, 1) := by decide +kernel
theorem dX12_init_194 : decode bX12_init 194 = .ok (.iastore, 1) := by decide +kernel
theorem dX12_init_195 : decode bX12_init 195 = .ok (.aload_n 0, 1) := by decide +kernel
theorem dX12_init_196 : decode bX12_init 196 = .ok (.getfield 13, 3) := by decide +kernel
theorem dX12_init_199 : decode bX12_init 199 = .ok (.bipush 55, 2) := by decide +kernel
theorem dX12_init_201 : decode bX12_init 201 = .ok (.bipush 7, 2) := by decide +kernel
theorem dX12_init_203 : decode bX12_init 203 = .ok (.iastore, 1) := by decide +kernel
theorem dX12_init_204 : decode bX12_init 204 = .ok (.aload_n 0, 1) := by decide +kernel
theorem dX12_init_205 : decode bX12_init 205 = .ok (.getfield 13, 3) := by decide +kernel
theorem dX12_init_208 : decode bX12_init 208 = .ok (.bipush 56, 2) := by decide +kernel
theorem dX12_init_210 : decode bX12_init 210 = .ok (.bipush 12, 2) := by decide +kernel
theorem dX12_init_212 : decode bX12_init 212 = .ok (.iastore, 1) := by decide +kernel
theorem dX12_init_213 : decode bX12_init 213 = .ok (.iconst 0, 1) := by decide +kernel
theorem dX12_init_214 : decode bX12_init 214 = .ok (.istore_n 1, 1) := by decide +kernel
theorem dX12_init_215 : decode bX12_init 215 = .ok (.iload_n 1, 1) := by decide +kernel
theorem dX12_init_216 : decode bX12_init 216 = .ok (.bipush 59, 2) := by decide +kernel
theorem dX12_init_218 : decode bX12_init 218 = .ok (.if_icmp .ge 51, 3) := by decide +kernel
theorem dX12_init_221 : decode bX12_init 221 = .ok (.aload_n 0, 1) := by decide +kernel
theorem dX12_init_222 : decode bX12_init 222 = .ok (.getfield 13, 3) := by decide +kernel
theorem dX12_init_225 : decode bX12_init 225 = .ok (.iload_n 1, 1) := by decide +kernel
theorem dX12_init_226 : decode bX12_init 226 = .ok (.iload_n 1, 1) := by decide +kernel
theorem dX12_init_227 : decode bX12_init 227 = .ok (.ifCond .eq 20, 3) := by decide +kernel
theorem dX12_init_230 : decode bX12_init 230 = .ok (.iload_n 1, 1) := by decide +kernel
theorem dX12_init_231 : decode bX12_init 231 = .ok (.iconst 1, 1) := by decide +kernel
theorem dX12_init_232 : decode bX12_init 232 = .ok (.if_icmp .eq 15, 3) := by decide +kernel
theorem dX12_init_235 : decode bX12_init 235 = .ok (.iload_n 1, 1) := by decide +kernel
theorem dX12_init_236 : decode bX12_init 236 = .ok (.bipush 53, 2) := by decide +kernel
theorem dX12_init_238 : decode bX12_init 238 = .ok (.if_icmp .ge 9, 3) := by decide +kernel
theorem dX12_init_241 : decode bX12_init 241 = .ok (.iload_n 1, 1) := by decide +kernel
theorem dX12_init_242 : decode bX12_init 242 = .ok (.bipush 11, 2) := by decide +kernel
theorem dX12_init_244 : decode bX12_init 244 = .ok (.if_icmp .ne 12, 3) := by decide +kernel
theorem dX12_init_247 : decode bX12_init 247 = .ok (.aload_n 0, 1) := by decide +kernel
theorem dX12_init_248 : decode bX12_init 248 = .ok (.getfield 13, 3) := by decide +kernel
theorem dX12_init_251 : decode bX12_init 251 = .ok (.iload_n 1, 1) := by decide +kernel
theorem dX12_init_252 : decode bX12_init 252 = .ok (.iaload, 1) := by decide +kernel
theorem dX12_init_253 : decode bX12_init 253 = .ok (.goto 9, 3) := by decide +kernel
theorem dX12_init_256 : decode bX12_init 256 = .ok (.aload_n 0, 1) := by decide +kernel
theorem dX12_init_257 : decode bX12_init 257 = .ok (.getfield 17, 3) := by decide +kernel
theorem dX12_init_260 : decode bX12_init 260 = .ok (.iload_n 1, 1) := by decide +kernel
theorem dX12_init_261 : decode bX12_init 261 = .ok (.iaload, 1) := by decide +kernel
theorem dX12_init_262 : decode bX12_init 262 = .ok (.iastore, 1) := by decide +kernel
theorem dX12_init_263 : decode bX12_init 263 = .ok (.iinc 1 1, 3) := by decide +kernel
theorem dX12_init_266 : decode bX12_init 266 = .ok (.goto (-51), 3) := by decide +kernel
theorem dX12_init_269 : decode bX12_init 269 = .ok (.aload_n 0, 1) := by decide +kernel
theorem dX12_init_270 : decode bX12_init 270 = .ok (.getfield 13, 3) := by decide +kernel
theorem dX12_init_273 : decode bX12_init 273 = .ok (.bipush 33, 2) := by decide +kernel
theorem dX12_init_275 : decode bX12_init 275 = .ok (.iconst 0, 1) := by decide +kernel
theorem dX12_init_276 : decode bX12_init 276 = .ok (.iastore, 1) := by decide +kernel
theorem dX12_init_277 : decode bX12_init 277 = .ok (.aload_n 0, 1) := by decide +kernel
theorem dX12_init_278 : decode bX12_init 278 = .ok (.iconst 0, 1) := by decide +kernel
theorem dX12_init_279 : decode bX12_init 279 = .ok (.invokevirtual 71, 3) := by decide +kernel
theorem dX12_init_282 : decode bX12_init 282 = .ok (.return_, 1) := by decide +kernel
def f_X12_init_262 (k215 : Hp → Nat → Int32 → Option (Unit × Hp)) (h : Hp) (x0 : Nat) (x1 : Int32) (t0 : Nat) (t1 : Int32) (t2 : Int32) : Option (Unit × Hp) :=
  gd (inr t1 (ln t0) = true) <|
  lt ((si h t0 t1.toNatClampNeg t2)) <| fun h2 =>
  k215 h2 x0 (x1 + (1 : Int32))
def f_X12_init_247 (k215 : Hp → Nat → Int32 → Option (Unit × Hp)) (h : Hp) (x0 : Nat) (x1 : Int32) (t0 : Nat) (t1 : Int32) : Option (Unit × Hp) :=
  gd (kd (h.2 x0 1) = 16) <|
  gd (inr x1 (ln (h.2 x0 1)) = true) <|
  f_X12_init_262 k215 h x0 x1 t0 t1 (h.1 (h.2 x0 1) x1.toNatClampNeg)
def f_X12_init_215 : Nat → Hp → Nat → Int32 → Option (Unit × Hp)
  | 0 => fun _ _ _ => none
  | fu + 1 => fun h x0 x1 =>
    if (59 : Int32) ≤ x1 then
      gd (kd (h.2 x0 1) = 16) <|
      gd (inr (33 : Int32) (ln (h.2 x0 1)) = true) <|
      lt ((si h (h.2 x0 1) (33 : Int32).toNatClampNeg (0 : Int32))) <| fun h3 =>
      bd (f_X12_dawn h3 x0 (0 : Int32)) <| fun r5 h6 =>
      some ((), h6)
    else
      gd (kd (h.2 x0 1) = 16) <|
      if x1 = 0 then
        f_X12_init_247 (f_X12_init_215 fu) h x0 x1 (h.2 x0 1) x1
      else
        if x1 = (1 : Int32) then
          f_X12_init_247 (f_X12_init_215 fu) h x0 x1 (h.2 x0 1) x1
        else
          if (53 : Int32) ≤ x1 then
            f_X12_init_247 (f_X12_init_215 fu) h x0 x1 (h.2 x0 1) x1
          else
            if x1 = (11 : Int32) then
              f_X12_init_247 (f_X12_init_215 fu) h x0 x1 (h.2 x0 1) x1
            else
              gd (kd (h.2 x0 2) = 16) <|
              gd (inr x1 (ln (h.2 x0 2)) = true) <|
              f_X12_init_262 (f_X12_init_215 fu) h x0 x1 (h.2 x0 1) x1 (h.1 (h.2 x0 2) x1.toNatClampNeg)
def f_X12_init (h : Hp) (x0 : Nat) : Option (Unit × Hp) :=
  gd (kd x0 = 12) <|
  gd (kd 84 = 16) <|
  gd (ln 84 = 59) <|
  lt (sz h 84) <| fun h3 =>
  lt (sr h3 x0 1 84) <| fun h5 =>
  gd (kd 85 = 16) <|
  gd (ln 85 = 59) <|
  lt (sz h5 85) <| fun h9 =>
  lt (sr h9 x0 2 85) <| fun h11 =>
  gd (kd 86 = 16) <|
  gd (ln 86 = 51) <|
  lt (sz h11 86) <| fun h15 =>
  lt (sr h15 x0 3 86) <| fun h17 =>
  gd (kd 87 = 16) <|
  gd (ln 87 = 408) <|
  lt (sz h17 87) <| fun h21 =>
  lt (sr h21 x0 4 87) <| fun h23 =>
  gd (kd 88 = 16) <|
  gd (ln 88 = 102) <|
  lt (sz h23 88) <| fun h27 =>
  lt (sr h27 x0 6 88) <| fun h29 =>
  gd (kd 89 = 16) <|
  gd (ln 89 = 200) <|
  lt (sz h29 89) <| fun h33 =>
  lt (sr h33 x0 8 89) <| fun h35 =>
  gd (kd 90 = 16) <|
  gd (ln 90 = 3) <|
  lt (sz h35 90) <| fun h39 =>
  lt (sr h39 x0 11 90) <| fun h41 =>
  gd (kd 91 = 16) <|
  gd (ln 91 = 20) <|
  lt (sz h41 91) <| fun h45 =>
  lt (sr h45 x0 13 91) <| fun h47 =>
  gd (kd 92 = 16) <|
  gd (ln 92 = 15626) <|
  lt (sz h47 92) <| fun h51 =>
  lt (sr h51 x0 15 92) <| fun h53 =>
  gd (kd 93 = 16) <|
  gd (ln 93 = 7) <|
  lt (sz h53 93) <| fun h57 =>
  lt (sr h57 x0 19 93) <| fun h59 =>
  gd (kd 94 = 16) <|
  gd (ln 94 = 7) <|
  lt (sz h59 94) <| fun h63 =>
  lt (sr h63 x0 20 94) <| fun h65 =>
  gd (kd 95 = 16) <|
  gd (ln 95 = 7) <|
  lt (sz h65 95) <| fun h69 =>
  lt (sr h69 x0 21 95) <| fun h71 =>
  gd (kd 96 = 16) <|
  gd (ln 96 = 6) <|
  lt (sz h71 96) <| fun h75 =>
  lt (sr h75 x0 22 96) <| fun h77 =>
  gd (kd 97 = 16) <|
  gd (ln 97 = 601) <|
  lt (sz h77 97) <| fun h81 =>
  lt (sr h81 x0 24 97) <| fun h83 =>
  gd (kd 98 = 16) <|
  gd (ln 98 = 601) <|
  lt (sz h83 98) <| fun h87 =>
  lt (sr h87 x0 25 98) <| fun h89 =>
  gd (kd 99 = 16) <|
  gd (ln 99 = 6) <|
  lt (sz h89 99) <| fun h93 =>
  lt (sr h93 x0 26 99) <| fun h95 =>
  gd (kd 100 = 16) <|
  gd (ln 100 = 6) <|
  lt (sz h95 100) <| fun h99 =>
  lt (sr h99 x0 28 100) <| fun h101 =>
  gd (kd 101 = 16) <|
  gd (ln 101 = 64) <|
  lt (sz h101 101) <| fun h105 =>
  lt (sr h105 x0 29 101) <| fun h107 =>
  bd (f_X12_begin h107 x0) <| fun r109 h110 =>
  gd (kd (h110.2 x0 1) = 16) <|
  gd (inr (0 : Int32) (ln (h110.2 x0 1)) = true) <|
  lt ((si h110 (h110.2 x0 1) (0 : Int32).toNatClampNeg (9 : Int32))) <| fun h114 =>
  gd (kd (h114.2 x0 1) = 16) <|
  gd (inr (1 : Int32) (ln (h114.2 x0 1)) = true) <|
  lt ((si h114 (h114.2 x0 1) (1 : Int32).toNatClampNeg (4 : Int32))) <| fun h118 =>
  gd (kd (h118.2 x0 1) = 16) <|
  gd (inr (11 : Int32) (ln (h118.2 x0 1)) = true) <|
  lt ((si h118 (h118.2 x0 1) (11 : Int32).toNatClampNeg (3 : Int32))) <| fun h122 =>
  gd (kd (h122.2 x0 1) = 16) <|
  gd (inr (53 : Int32) (ln (h122.2 x0 1)) = true) <|
  lt ((si h122 (h122.2 x0 1) (53 : Int32).toNatClampNeg (4 : Int32))) <| fun h126 =>
  gd (kd (h126.2 x0 1) = 16) <|
  gd (inr (54 : Int32) (ln (h126.2 x0 1)) = true) <|
  lt ((si h126 (h126.2 x0 1) (54 : Int32).toNatClampNeg (4 : Int32))) <| fun h130 =>
  gd (kd (h130.2 x0 1) = 16) <|
  gd (inr (55 : Int32) (ln (h130.2 x0 1)) = true) <|
  lt ((si h130 (h130.2 x0 1) (55 : Int32).toNatClampNeg (7 : Int32))) <| fun h134 =>
  gd (kd (h134.2 x0 1) = 16) <|
  gd (inr (56 : Int32) (ln (h134.2 x0 1)) = true) <|
  lt ((si h134 (h134.2 x0 1) (56 : Int32).toNatClampNeg (12 : Int32))) <| fun h138 =>
  f_X12_init_215 FU h138 x0 (0 : Int32)
section
variable {p : Program} {l : Launch} {e : Env} {s : State} {m : MethodId} {args : Array Value} {below : List Frame} {meth : Method} {c : Code} {G : GG} {n : Nat} {h' : Hp} {rv : Unit}
set_option maxHeartbeats 4000000
set_option maxRecDepth 100000
theorem j_X12_init_262 (C0 : Cx p s m args meth c G bX12_init RX12 2 none "<init>") (hN : NT ≤ 101) {k215 : Hp → Nat → Int32 → Option (Unit × Hp)} (ih215 : ∀ {H : Heap} {locs : List Loc} {ls : Array Slot} {h : Hp} {x0 : Nat} {x1 : Int32}, XW G 101 h s 18 H locs → lv_has ls 2 [(0, .ref (bs G + x0)), (1, .int x1)] → kd x0 = 12 → k215 h x0 x1 = some (rv, h') → W p l e (rmC 1 18 17833) s m args below meth c H locs 18 17833 (MQ below (QP G 101 h' none) args s 18 17833 (Ab G)) (F0 m 215 ls [])) {H : Heap} {locs : List Loc} {ls : Array Slot} {h : Hp} {x0 : Nat} {x1 : Int32} {t0 : Nat} {t1 : Int32} {t2 : Int32} (X : XW G 101 h s 18 H locs) (hl : lv_has ls 2 [(0, .ref (bs G + x0)), (1, .int x1)]) (o0 : kd x0 = 12) (ot0 : kd t0 = 16) (hf : f_X12_init_262 k215 h x0 x1 t0 t1 t2 = some (rv, h')) : W p l e (rmC 1 18 17833) s m args below meth c H locs 18 17833 (MQ below (QP G 101 h' none) args s 18 17833 (Ab G)) (F0 m 262 ls [.int t2, .int t1, .ref (bs G + t0)]) := by
  obtain ⟨hx, hb, hr, hml, hown, hts, hK, hlocks, hnm⟩ := id C0
  unfold f_X12_init_262 at hf
  obtain ⟨g1, hf⟩ := gd_e hf
  refine g_is hx hb hK X ot0 hN g1 (by decide) dX12_init_262 (fun H locs X => ?_)
  obtain ⟨h2, e3, hf⟩ := lt_e hf
  rw [← e3] at X
  refine lv_iinc (v := (x1 + (1 : Int32))) (lv' := [(1, .int (x1 + (1 : Int32))), (0, .ref (bs G + x0))]) hx hb dX12_init_263 hl (k := 1) rfl rfl (by decide) rfl (fun ls hl => ?_)
  refine lv_goto (tgt := 215) hx hb dX12_init_266 (by decide) ?_
  exact ih215 X (lv_sub hl [1, 0] rfl) o0 hf
theorem j_X12_init_247 (C0 : Cx p s m args meth c G bX12_init RX12 2 none "<init>") (hN : NT ≤ 101) {k215 : Hp → Nat → Int32 → Option (Unit × Hp)} (ih215 : ∀ {H : Heap} {locs : List Loc} {ls : Array Slot} {h : Hp} {x0 : Nat} {x1 : Int32}, XW G 101 h s 18 H locs → lv_has ls 2 [(0, .ref (bs G + x0)), (1, .int x1)] → kd x0 = 12 → k215 h x0 x1 = some (rv, h') → W p l e (rmC 1 18 17833) s m args below meth c H locs 18 17833 (MQ below (QP G 101 h' none) args s 18 17833 (Ab G)) (F0 m 215 ls [])) {H : Heap} {locs : List Loc} {ls : Array Slot} {h : Hp} {x0 : Nat} {x1 : Int32} {t0 : Nat} {t1 : Int32} (X : XW G 101 h s 18 H locs) (hl : lv_has ls 2 [(0, .ref (bs G + x0)), (1, .int x1)]) (o0 : kd x0 = 12) (ot0 : kd t0 = 16) (hf : f_X12_init_247 k215 h x0 x1 t0 t1 = some (rv, h')) : W p l e (rmC 1 18 17833) s m args below meth c H locs 18 17833 (MQ below (QP G 101 h' none) args s 18 17833 (Ab G)) (F0 m 247 ls [.int t1, .ref (bs G + t0)]) := by
  obtain ⟨hx, hb, hr, hml, hown, hts, hK, hlocks, hnm⟩ := id C0
  unfold f_X12_init_247 at hf
  refine lv_aload_n hx hb dX12_init_247 rfl (lv_at hl 0 rfl) ?_
  obtain ⟨g1, hf⟩ := gd_e hf
  refine g_R hx hb hts hown hK X o0 hN g1 fl_X12_13 (by decide) rfl (by decide) dX12_init_248 ?_
  refine lv_iload_n hx hb dX12_init_251 rfl (lv_at hl 1 rfl) ?_
  obtain ⟨g2, hf⟩ := gd_e hf
  refine g_ia hx hb hK X g1 hN g2 (by decide) dX12_init_252 ?_
  refine lv_goto (tgt := 262) hx hb dX12_init_253 (by decide) ?_
  exact j_X12_init_262 C0 hN @ih215 X (lv_sub hl [0, 1] rfl) o0 ot0 hf
theorem j_X12_init_215 (C0 : Cx p s m args meth c G bX12_init RX12 2 none "<init>") (hN : NT ≤ 101) : ∀ (fu : Nat), ∀ {H : Heap} {locs : List Loc} {ls : Array Slot} {h : Hp} {x0 : Nat} {x1 : Int32}, XW G 101 h s 18 H locs → lv_has ls 2 [(0, .ref (bs G + x0)), (1, .int x1)] → kd x0 = 12 → f_X12_init_215 fu h x0 x1 = some (rv, h') → W p l e (rmC 1 18 17833) s m args below meth c H locs 18 17833 (MQ below (QP G 101 h' none) args s 18 17833 (Ab G)) (F0 m 215 ls []) := by
  obtain ⟨hx, hb, hr, hml, hown, hts, hK, hlocks, hnm⟩ := id C0
  intro fu
  induction fu with
  | zero => intro H locs ls h x0 x1 X hl o0 hf; cases hf
  | succ fu ih =>
    intro H locs ls h x0 x1 X hl o0 hf
    rw [f_X12_init_215] at hf
    refine lv_iload_n hx hb dX12_init_215 rfl (lv_at hl 1 rfl) ?_
    refine lv_bipush (v := (59 : Int32)) hx hb dX12_init_216 (by decide) ?_
    refine lv_icmp_ge (tgt := 269) hx hb dX12_init_218 (by decide) (fun c218 => ?_) (fun c218 => ?_)
    · have hf := ite_t hf c218
      refine lv_aload_n hx hb dX12_init_269 rfl (lv_at hl 0 rfl) ?_
      obtain ⟨g1, hf⟩ := gd_e hf
      refine g_R hx hb hts hown hK X o0 hN g1 fl_X12_13 (by decide) rfl (by decide) dX12_init_270 ?_
      refine lv_bipush (v := (33 : Int32)) hx hb dX12_init_273 (by decide) ?_
      refine lv_iconst (v := (0 : Int32)) hx hb dX12_init_275 (by decide) ?_
      obtain ⟨g2, hf⟩ := gd_e hf
      refine g_is hx hb hK X g1 hN g2 (by decide) dX12_init_276 (fun H locs X => ?_)
      obtain ⟨h3, e4, hf⟩ := lt_e hf
      rw [← e4] at X
      refine lv_aload_n hx hb dX12_init_277 rfl (lv_at hl 0 rfl) ?_
      refine lv_iconst (v := (0 : Int32)) hx hb dX12_init_278 (by decide) ?_
      obtain ⟨r5, h6, q7, hf⟩ := bd_e hf
      refine c_V1 (As := [.int (0 : Int32)]) (rest := []) (st1 := []) hx hb hml hown hts hK X (k_X12_dawn l G 101 hN q7) o0 hN lc_X12_dawn lv_X12_71 (ci := 12) rfl rfl (by decide) rfl hl.1 (Nat.le_of_ble_eq_true rfl) dX12_init_279 rfl ⟨by decide, by decide⟩ (fun H locs X => ?_)
      exact r_V hx hb hr hlocks X hf dX12_init_282
    · have hf := ite_f hf c218
      refine lv_aload_n hx hb dX12_init_221 rfl (lv_at hl 0 rfl) ?_
      obtain ⟨g8, hf⟩ := gd_e hf
      refine g_R hx hb hts hown hK X o0 hN g8 fl_X12_13 (by decide) rfl (by decide) dX12_init_222 ?_
      refine lv_iload_n hx hb dX12_init_225 rfl (lv_at hl 1 rfl) ?_
      refine lv_iload_n hx hb dX12_init_226 rfl (lv_at hl 1 rfl) ?_
      refine lv_if_eq (tgt := 247) hx hb dX12_init_227 (by decide) (fun c227 => ?_) (fun c227 => ?_)
      · have hf := ite_t hf c227
        exact j_X12_init_247 C0 hN @ih X (lv_sub hl [0, 1] rfl) o0 g8 hf
      · have hf := ite_f hf c227
        refine lv_iload_n hx hb dX12_init_230 rfl (lv_at hl 1 rfl) ?_
        refine lv_iconst (v := (1 : Int32)) hx hb dX12_init_231 (by decide) ?_
        refine lv_icmp_eq (tgt := 247) hx hb dX12_init_232 (by decide) (fun c232 => ?_) (fun c232 => ?_)
        · have hf := ite_t hf c232
          exact j_X12_init_247 C0 hN @ih X (lv_sub hl [0, 1] rfl) o0 g8 hf
        · have hf := ite_f hf c232
          refine lv_iload_n hx hb dX12_init_235 rfl (lv_at hl 1 rfl) ?_
          refine lv_bipush (v := (53 : Int32)) hx hb dX12_init_236 (by decide) ?_
          refine lv_icmp_ge (tgt := 247) hx hb dX12_init_238 (by decide) (fun c238 => ?_) (fun c238 => ?_)
          · have hf := ite_t hf c238
            exact j_X12_init_247 C0 hN @ih X (lv_sub hl [0, 1] rfl) o0 g8 hf
          · have hf := ite_f hf c238
            refine lv_iload_n hx hb dX12_init_241 rfl (lv_at hl 1 rfl) ?_
            refine lv_bipush (v := (11 : Int32)) hx hb dX12_init_242 (by decide) ?_
            refine lv_icmp_ne (tgt := 256) hx hb dX12_init_244 (by decide) (fun c244 => ?_) (fun c244 => ?_)
            · have hf := ite_f hf c244
              refine lv_aload_n hx hb dX12_init_256 rfl (lv_at hl 0 rfl) ?_
              obtain ⟨g9, hf⟩ := gd_e hf
              refine g_R hx hb hts hown hK X o0 hN g9 fl_X12_17 (by decide) rfl (by decide) dX12_init_257 ?_
              refine lv_iload_n hx hb dX12_init_260 rfl (lv_at hl 1 rfl) ?_
              obtain ⟨g10, hf⟩ := gd_e hf
              refine g_ia hx hb hK X g9 hN g10 (by decide) dX12_init_261 ?_
              exact j_X12_init_262 C0 hN @ih X (lv_sub hl [0, 1] rfl) o0 g8 hf
            · have hf := ite_t hf c244
              exact j_X12_init_247 C0 hN @ih X (lv_sub hl [0, 1] rfl) o0 g8 hf
theorem k_X12_init (l : Launch) (G : GG) {h h' : Hp} {x0 : Nat} {rv : Unit} (b0 : 1 ≤ x0 ∧ x0 ≤ 83) (hf : f_X12_init h x0 = some (rv, h')) : CT l G 83 101 yX12_init (.code yX12_init bX12_init 2 none) 1 18 17833 [.ref (bs G + x0)] h h' none := by
  refine ct_of (maxL := 2) (ret := none) (bytes := bX12_init) (by decide) (Nat.le_of_ble_eq_true rfl) (fun p e s m below meth c C0 X ls hl => ?_)
  have hl : lv_has ls 2 [(0, .ref (bs G + x0))] := hl
  obtain ⟨hx, hb, hr, hml, hown, hts, hK, hlocks, hnm⟩ := id C0
  have hN : NT ≤ 101 := by decide
  unfold f_X12_init at hf
  obtain ⟨o0, hf⟩ := gd_e hf
  refine lv_aload_n hx hb dX12_init_0 rfl (lv_at hl 0 rfl) ?_
  refine n_obj hx hb (hml.trans hl.1.symm) hown hts lo_X12_7 (by decide) (Nat.le_of_ble_eq_true rfl) dX12_init_1 ?_
  refine lv_aload_n hx hb dX12_init_4 rfl (lv_at hl 0 rfl) ?_
  refine lv_bipush (v := (59 : Int32)) hx hb dX12_init_5 (by decide) ?_
  obtain ⟨g1, hf⟩ := gd_e hf
  obtain ⟨g2, hf⟩ := gd_e hf
  refine n_arr (at0 := .int) (ty := .int) (t0 := 0) (cA0 := G.2.1) (N := 59) (cells1 := 1) (slots1 := 59) (n1 := 84) hx hb hts hK X rfl rfl (fun _ _ z => z) la_int rfl (cE_ni (Or.inr g1) g2) (by decide) (by decide) (by decide) rfl rfl rfl (by decide) (by decide) dX12_init_7 (fun H X => ?_)
  obtain ⟨h3, e4, hf⟩ := lt_e hf
  rw [← e4] at X
  refine g_PFa hx hb hts hown hK X o0 (by omega) (by omega) fl_X12_13 ft_12_1 (by decide) rfl hnm fo_12_1 (fun _ => rfl) (fun _ => rfl) dX12_init_9 (fun H locs X => ?_)
  obtain ⟨h5, e6, hf⟩ := lt_e hf
  rw [← e6] at X
  refine lv_aload_n hx hb dX12_init_12 rfl (lv_at hl 0 rfl) ?_
  refine lv_bipush (v := (59 : Int32)) hx hb dX12_init_13 (by decide) ?_
  obtain ⟨g7, hf⟩ := gd_e hf
  obtain ⟨g8, hf⟩ := gd_e hf
  refine n_arr (at0 := .int) (ty := .int) (t0 := 0) (cA0 := G.2.1) (N := 59) (cells1 := 2) (slots1 := 118) (n1 := 85) hx hb hts hK X rfl rfl (fun _ _ z => z) la_int rfl (cE_ni (Or.inr g7) g8) (by decide) (by decide) (by decide) rfl rfl rfl (by decide) (by decide) dX12_init_15 (fun H X => ?_)
  obtain ⟨h9, e10, hf⟩ := lt_e hf
  rw [← e10] at X
  refine g_PFa hx hb hts hown hK X o0 (by omega) (by omega) fl_X12_17 ft_12_2 (by decide) rfl hnm fo_12_2 (fun _ => rfl) (fun _ => rfl) dX12_init_17 (fun H locs X => ?_)
  obtain ⟨h11, e12, hf⟩ := lt_e hf
  rw [← e12] at X
  refine lv_aload_n hx hb dX12_init_20 rfl (lv_at hl 0 rfl) ?_
  refine lv_bipush (v := (51 : Int32)) hx hb dX12_init_21 (by decide) ?_
  obtain ⟨g13, hf⟩ := gd_e hf
  obtain ⟨g14, hf⟩ := gd_e hf
  refine n_arr (at0 := .int) (ty := .int) (t0 := 0) (cA0 := G.2.1) (N := 51) (cells1 := 3) (slots1 := 169) (n1 := 86) hx hb hts hK X rfl rfl (fun _ _ z => z) la_int rfl (cE_ni (Or.inr g13) g14) (by decide) (by decide) (by decide) rfl rfl rfl (by decide) (by decide) dX12_init_23 (fun H X => ?_)
  obtain ⟨h15, e16, hf⟩ := lt_e hf
  rw [← e16] at X
  refine g_PFa hx hb hts hown hK X o0 (by omega) (by omega) fl_X12_20 ft_12_3 (by decide) rfl hnm fo_12_3 (fun _ => rfl) (fun _ => rfl) dX12_init_25 (fun H locs X => ?_)
  obtain ⟨h17, e18, hf⟩ := lt_e hf
  rw [← e18] at X
  refine lv_aload_n hx hb dX12_init_28 rfl (lv_at hl 0 rfl) ?_
  refine lv_sipush (v := (408 : Int32)) hx hb dX12_init_29 (by decide) ?_
  obtain ⟨g19, hf⟩ := gd_e hf
  obtain ⟨g20, hf⟩ := gd_e hf
  refine n_arr (at0 := .int) (ty := .int) (t0 := 0) (cA0 := G.2.1) (N := 408) (cells1 := 4) (slots1 := 577) (n1 := 87) hx hb hts hK X rfl rfl (fun _ _ z => z) la_int rfl (cE_ni (Or.inr g19) g20) (by decide) (by decide) (by decide) rfl rfl rfl (by decide) (by decide) dX12_init_32 (fun H X => ?_)
  obtain ⟨h21, e22, hf⟩ := lt_e hf
  rw [← e22] at X
  refine g_PFa hx hb hts hown hK X o0 (by omega) (by omega) fl_X12_23 ft_12_4 (by decide) rfl hnm fo_12_4 (fun _ => rfl) (fun _ => rfl) dX12_init_34 (fun H locs X => ?_)
  obtain ⟨h23, e24, hf⟩ := lt_e hf
  rw [← e24] at X
  refine lv_aload_n hx hb dX12_init_37 rfl (lv_at hl 0 rfl) ?_
  refine lv_bipush (v := (102 : Int32)) hx hb dX12_init_38 (by decide) ?_
  obtain ⟨g25, hf⟩ := gd_e hf
  obtain ⟨g26, hf⟩ := gd_e hf
  refine n_arr (at0 := .int) (ty := .int) (t0 := 0) (cA0 := G.2.1) (N := 102) (cells1 := 5) (slots1 := 679) (n1 := 88) hx hb hts hK X rfl rfl (fun _ _ z => z) la_int rfl (cE_ni (Or.inr g25) g26) (by decide) (by decide) (by decide) rfl rfl rfl (by decide) (by decide) dX12_init_40 (fun H X => ?_)
  obtain ⟨h27, e28, hf⟩ := lt_e hf
  rw [← e28] at X
  refine g_PFa hx hb hts hown hK X o0 (by omega) (by omega) fl_X12_26 ft_12_6 (by decide) rfl hnm fo_12_6 (fun _ => rfl) (fun _ => rfl) dX12_init_42 (fun H locs X => ?_)
  obtain ⟨h29, e30, hf⟩ := lt_e hf
  rw [← e30] at X
  refine lv_aload_n hx hb dX12_init_45 rfl (lv_at hl 0 rfl) ?_
  refine lv_sipush (v := (200 : Int32)) hx hb dX12_init_46 (by decide) ?_
  obtain ⟨g31, hf⟩ := gd_e hf
  obtain ⟨g32, hf⟩ := gd_e hf
  refine n_arr (at0 := .int) (ty := .int) (t0 := 0) (cA0 := G.2.1) (N := 200) (cells1 := 6) (slots1 := 879) (n1 := 89) hx hb hts hK X rfl rfl (fun _ _ z => z) la_int rfl (cE_ni (Or.inr g31) g32) (by decide) (by decide) (by decide) rfl rfl rfl (by decide) (by decide) dX12_init_49 (fun H X => ?_)
  obtain ⟨h33, e34, hf⟩ := lt_e hf
  rw [← e34] at X
  refine g_PFa hx hb hts hown hK X o0 (by omega) (by omega) fl_X12_29 ft_12_8 (by decide) rfl hnm fo_12_8 (fun _ => rfl) (fun _ => rfl) dX12_init_51 (fun H locs X => ?_)
  obtain ⟨h35, e36, hf⟩ := lt_e hf
  rw [← e36] at X
  refine lv_aload_n hx hb dX12_init_54 rfl (lv_at hl 0 rfl) ?_
  refine lv_iconst (v := (3 : Int32)) hx hb dX12_init_55 (by decide) ?_
  obtain ⟨g37, hf⟩ := gd_e hf
  obtain ⟨g38, hf⟩ := gd_e hf
  refine n_arr (at0 := .int) (ty := .int) (t0 := 0) (cA0 := G.2.1) (N := 3) (cells1 := 7) (slots1 := 882) (n1 := 90) hx hb hts hK X rfl rfl (fun _ _ z => z) la_int rfl (cE_ni (Or.inr g37) g38) (by decide) (by decide) (by decide) rfl rfl rfl (by decide) (by decide) dX12_init_56 (fun H X => ?_)
  obtain ⟨h39, e40, hf⟩ := lt_e hf
  rw [← e40] at X
  refine g_PFa hx hb hts hown hK X o0 (by omega) (by omega) fl_X12_32 ft_12_11 (by decide) rfl hnm fo_12_11 (fun _ => rfl) (fun _ => rfl) dX12_init_58 (fun H locs X => ?_)
  obtain ⟨h41, e42, hf⟩ := lt_e hf
  rw [← e42] at X
  refine lv_aload_n hx hb dX12_init_61 rfl (lv_at hl 0 rfl) ?_
  refine lv_bipush (v := (20 : Int32)) hx hb dX12_init_62 (by decide) ?_
  obtain ⟨g43, hf⟩ := gd_e hf
  obtain ⟨g44, hf⟩ := gd_e hf
  refine n_arr (at0 := .int) (ty := .int) (t0 := 0) (cA0 := G.2.1) (N := 20) (cells1 := 8) (slots1 := 902) (n1 := 91) hx hb hts hK X rfl rfl (fun _ _ z => z) la_int rfl (cE_ni (Or.inr g43) g44) (by decide) (by decide) (by decide) rfl rfl rfl (by decide) (by decide) dX12_init_64 (fun H X => ?_)
  obtain ⟨h45, e46, hf⟩ := lt_e hf
  rw [← e46] at X
  refine g_PFa hx hb hts hown hK X o0 (by omega) (by omega) fl_X12_35 ft_12_13 (by decide) rfl hnm fo_12_13 (fun _ => rfl) (fun _ => rfl) dX12_init_66 (fun H locs X => ?_)
  obtain ⟨h47, e48, hf⟩ := lt_e hf
  rw [← e48] at X
  refine lv_aload_n hx hb dX12_init_69 rfl (lv_at hl 0 rfl) ?_
  refine lv_sipush (v := (15626 : Int32)) hx hb dX12_init_70 (by decide) ?_
  obtain ⟨g49, hf⟩ := gd_e hf
  obtain ⟨g50, hf⟩ := gd_e hf
  refine n_arr (at0 := .int) (ty := .int) (t0 := 0) (cA0 := G.2.1) (N := 15626) (cells1 := 9) (slots1 := 16528) (n1 := 92) hx hb hts hK X rfl rfl (fun _ _ z => z) la_int rfl (cE_ni (Or.inr g49) g50) (by decide) (by decide) (by decide) rfl rfl rfl (by decide) (by decide) dX12_init_73 (fun H X => ?_)
  obtain ⟨h51, e52, hf⟩ := lt_e hf
  rw [← e52] at X
  refine g_PFa hx hb hts hown hK X o0 (by omega) (by omega) fl_X12_38 ft_12_15 (by decide) rfl hnm fo_12_15 (fun _ => rfl) (fun _ => rfl) dX12_init_75 (fun H locs X => ?_)
  obtain ⟨h53, e54, hf⟩ := lt_e hf
  rw [← e54] at X
  refine lv_aload_n hx hb dX12_init_78 rfl (lv_at hl 0 rfl) ?_
  refine lv_bipush (v := (7 : Int32)) hx hb dX12_init_79 (by decide) ?_
  obtain ⟨g55, hf⟩ := gd_e hf
  obtain ⟨g56, hf⟩ := gd_e hf
  refine n_arr (at0 := .int) (ty := .int) (t0 := 0) (cA0 := G.2.1) (N := 7) (cells1 := 10) (slots1 := 16535) (n1 := 93) hx hb hts hK X rfl rfl (fun _ _ z => z) la_int rfl (cE_ni (Or.inr g55) g56) (by decide) (by decide) (by decide) rfl rfl rfl (by decide) (by decide) dX12_init_81 (fun H X => ?_)
  obtain ⟨h57, e58, hf⟩ := lt_e hf
  rw [← e58] at X
  refine g_PFa hx hb hts hown hK X o0 (by omega) (by omega) fl_X12_41 ft_12_19 (by decide) rfl hnm fo_12_19 (fun _ => rfl) (fun _ => rfl) dX12_init_83 (fun H locs X => ?_)
  obtain ⟨h59, e60, hf⟩ := lt_e hf
  rw [← e60] at X
  refine lv_aload_n hx hb dX12_init_86 rfl (lv_at hl 0 rfl) ?_
  refine lv_bipush (v := (7 : Int32)) hx hb dX12_init_87 (by decide) ?_
  obtain ⟨g61, hf⟩ := gd_e hf
  obtain ⟨g62, hf⟩ := gd_e hf
  refine n_arr (at0 := .int) (ty := .int) (t0 := 0) (cA0 := G.2.1) (N := 7) (cells1 := 11) (slots1 := 16542) (n1 := 94) hx hb hts hK X rfl rfl (fun _ _ z => z) la_int rfl (cE_ni (Or.inr g61) g62) (by decide) (by decide) (by decide) rfl rfl rfl (by decide) (by decide) dX12_init_89 (fun H X => ?_)
  obtain ⟨h63, e64, hf⟩ := lt_e hf
  rw [← e64] at X
  refine g_PFa hx hb hts hown hK X o0 (by omega) (by omega) fl_X12_44 ft_12_20 (by decide) rfl hnm fo_12_20 (fun _ => rfl) (fun _ => rfl) dX12_init_91 (fun H locs X => ?_)
  obtain ⟨h65, e66, hf⟩ := lt_e hf
  rw [← e66] at X
  refine lv_aload_n hx hb dX12_init_94 rfl (lv_at hl 0 rfl) ?_
  refine lv_bipush (v := (7 : Int32)) hx hb dX12_init_95 (by decide) ?_
  obtain ⟨g67, hf⟩ := gd_e hf
  obtain ⟨g68, hf⟩ := gd_e hf
  refine n_arr (at0 := .int) (ty := .int) (t0 := 0) (cA0 := G.2.1) (N := 7) (cells1 := 12) (slots1 := 16549) (n1 := 95) hx hb hts hK X rfl rfl (fun _ _ z => z) la_int rfl (cE_ni (Or.inr g67) g68) (by decide) (by decide) (by decide) rfl rfl rfl (by decide) (by decide) dX12_init_97 (fun H X => ?_)
  obtain ⟨h69, e70, hf⟩ := lt_e hf
  rw [← e70] at X
  refine g_PFa hx hb hts hown hK X o0 (by omega) (by omega) fl_X12_47 ft_12_21 (by decide) rfl hnm fo_12_21 (fun _ => rfl) (fun _ => rfl) dX12_init_99 (fun H locs X => ?_)
  obtain ⟨h71, e72, hf⟩ := lt_e hf
  rw [← e72] at X
  refine lv_aload_n hx hb dX12_init_102 rfl (lv_at hl 0 rfl) ?_
  refine lv_bipush (v := (6 : Int32)) hx hb dX12_init_103 (by decide) ?_
  obtain ⟨g73, hf⟩ := gd_e hf
  obtain ⟨g74, hf⟩ := gd_e hf
  refine n_arr (at0 := .int) (ty := .int) (t0 := 0) (cA0 := G.2.1) (N := 6) (cells1 := 13) (slots1 := 16555) (n1 := 96) hx hb hts hK X rfl rfl (fun _ _ z => z) la_int rfl (cE_ni (Or.inr g73) g74) (by decide) (by decide) (by decide) rfl rfl rfl (by decide) (by decide) dX12_init_105 (fun H X => ?_)
  obtain ⟨h75, e76, hf⟩ := lt_e hf
  rw [← e76] at X
  refine g_PFa hx hb hts hown hK X o0 (by omega) (by omega) fl_X12_50 ft_12_22 (by decide) rfl hnm fo_12_22 (fun _ => rfl) (fun _ => rfl) dX12_init_107 (fun H locs X => ?_)
  obtain ⟨h77, e78, hf⟩ := lt_e hf
  rw [← e78] at X
  refine lv_aload_n hx hb dX12_init_110 rfl (lv_at hl 0 rfl) ?_
  refine lv_sipush (v := (601 : Int32)) hx hb dX12_init_111 (by decide) ?_
  obtain ⟨g79, hf⟩ := gd_e hf
  obtain ⟨g80, hf⟩ := gd_e hf
  refine n_arr (at0 := .int) (ty := .int) (t0 := 0) (cA0 := G.2.1) (N := 601) (cells1 := 14) (slots1 := 17156) (n1 := 97) hx hb hts hK X rfl rfl (fun _ _ z => z) la_int rfl (cE_ni (Or.inr g79) g80) (by decide) (by decide) (by decide) rfl rfl rfl (by decide) (by decide) dX12_init_114 (fun H X => ?_)
  obtain ⟨h81, e82, hf⟩ := lt_e hf
  rw [← e82] at X
  refine g_PFa hx hb hts hown hK X o0 (by omega) (by omega) fl_X12_53 ft_12_24 (by decide) rfl hnm fo_12_24 (fun _ => rfl) (fun _ => rfl) dX12_init_116 (fun H locs X => ?_)
  obtain ⟨h83, e84, hf⟩ := lt_e hf
  rw [← e84] at X
  refine lv_aload_n hx hb dX12_init_119 rfl (lv_at hl 0 rfl) ?_
  refine lv_sipush (v := (601 : Int32)) hx hb dX12_init_120 (by decide) ?_
  obtain ⟨g85, hf⟩ := gd_e hf
  obtain ⟨g86, hf⟩ := gd_e hf
  refine n_arr (at0 := .int) (ty := .int) (t0 := 0) (cA0 := G.2.1) (N := 601) (cells1 := 15) (slots1 := 17757) (n1 := 98) hx hb hts hK X rfl rfl (fun _ _ z => z) la_int rfl (cE_ni (Or.inr g85) g86) (by decide) (by decide) (by decide) rfl rfl rfl (by decide) (by decide) dX12_init_123 (fun H X => ?_)
  obtain ⟨h87, e88, hf⟩ := lt_e hf
  rw [← e88] at X
  refine g_PFa hx hb hts hown hK X o0 (by omega) (by omega) fl_X12_56 ft_12_25 (by decide) rfl hnm fo_12_25 (fun _ => rfl) (fun _ => rfl) dX12_init_125 (fun H locs X => ?_)
  obtain ⟨h89, e90, hf⟩ := lt_e hf
  rw [← e90] at X
  refine lv_aload_n hx hb dX12_init_128 rfl (lv_at hl 0 rfl) ?_
  refine lv_bipush (v := (6 : Int32)) hx hb dX12_init_129 (by decide) ?_
  obtain ⟨g91, hf⟩ := gd_e hf
  obtain ⟨g92, hf⟩ := gd_e hf
  refine n_arr (at0 := .int) (ty := .int) (t0 := 0) (cA0 := G.2.1) (N := 6) (cells1 := 16) (slots1 := 17763) (n1 := 99) hx hb hts hK X rfl rfl (fun _ _ z => z) la_int rfl (cE_ni (Or.inr g91) g92) (by decide) (by decide) (by decide) rfl rfl rfl (by decide) (by decide) dX12_init_131 (fun H X => ?_)
  obtain ⟨h93, e94, hf⟩ := lt_e hf
  rw [← e94] at X
  refine g_PFa hx hb hts hown hK X o0 (by omega) (by omega) fl_X12_59 ft_12_26 (by decide) rfl hnm fo_12_26 (fun _ => rfl) (fun _ => rfl) dX12_init_133 (fun H locs X => ?_)
  obtain ⟨h95, e96, hf⟩ := lt_e hf
  rw [← e96] at X
  refine lv_aload_n hx hb dX12_init_136 rfl (lv_at hl 0 rfl) ?_
  refine lv_bipush (v := (6 : Int32)) hx hb dX12_init_137 (by decide) ?_
  obtain ⟨g97, hf⟩ := gd_e hf
  obtain ⟨g98, hf⟩ := gd_e hf
  refine n_arr (at0 := .int) (ty := .int) (t0 := 0) (cA0 := G.2.1) (N := 6) (cells1 := 17) (slots1 := 17769) (n1 := 100) hx hb hts hK X rfl rfl (fun _ _ z => z) la_int rfl (cE_ni (Or.inr g97) g98) (by decide) (by decide) (by decide) rfl rfl rfl (by decide) (by decide) dX12_init_139 (fun H X => ?_)
  obtain ⟨h99, e100, hf⟩ := lt_e hf
  rw [← e100] at X
  refine g_PFa hx hb hts hown hK X o0 (by omega) (by omega) fl_X12_62 ft_12_28 (by decide) rfl hnm fo_12_28 (fun _ => rfl) (fun _ => rfl) dX12_init_141 (fun H locs X => ?_)
  obtain ⟨h101, e102, hf⟩ := lt_e hf
  rw [← e102] at X
  refine lv_aload_n hx hb dX12_init_144 rfl (lv_at hl 0 rfl) ?_
  refine lv_bipush (v := (64 : Int32)) hx hb dX12_init_145 (by decide) ?_
  obtain ⟨g103, hf⟩ := gd_e hf
  obtain ⟨g104, hf⟩ := gd_e hf
  refine n_arr (at0 := .int) (ty := .int) (t0 := 0) (cA0 := G.2.1) (N := 64) (cells1 := 18) (slots1 := 17833) (n1 := 101) hx hb hts hK X rfl rfl (fun _ _ z => z) la_int rfl (cE_ni (Or.inr g103) g104) (by decide) (by decide) (by decide) rfl rfl rfl (by decide) (by decide) dX12_init_147 (fun H X => ?_)
  obtain ⟨h105, e106, hf⟩ := lt_e hf
  rw [← e106] at X
  refine g_PFa hx hb hts hown hK X o0 (by omega) (by omega) fl_X12_65 ft_12_29 (by decide) rfl hnm fo_12_29 (fun _ => rfl) (fun _ => rfl) dX12_init_149 (fun H locs X => ?_)
  obtain ⟨h107, e108, hf⟩ := lt_e hf
  rw [← e108] at X
  refine lv_aload_n hx hb dX12_init_152 rfl (lv_at hl 0 rfl) ?_
  obtain ⟨r109, h110, q111, hf⟩ := bd_e hf
  refine c_V1 (As := []) (rest := []) (st1 := []) hx hb hml hown hts hK X (k_X12_begin l G 101 hN q111) o0 hN lc_X12_begin lv_X12_68 (ci := 12) rfl rfl (by decide) rfl hl.1 (Nat.le_of_ble_eq_true rfl) dX12_init_153 rfl ⟨by decide, by decide⟩ (fun H locs X => ?_)
  refine lv_aload_n hx hb dX12_init_156 rfl (lv_at hl 0 rfl) ?_
  obtain ⟨g112, hf⟩ := gd_e hf
  refine g_R hx hb hts hown hK X o0 hN g112 fl_X12_13 (by decide) rfl (by decide) dX12_init_157 ?_
  refine lv_iconst (v := (0 : Int32)) hx hb dX12_init_160 (by decide) ?_
  refine lv_bipush (v := (9 : Int32)) hx hb dX12_init_161 (by decide) ?_
  obtain ⟨g113, hf⟩ := gd_e hf
  refine g_is hx hb hK X g112 hN g113 (by decide) dX12_init_163 (fun H locs X => ?_)
  obtain ⟨h114, e115, hf⟩ := lt_e hf
  rw [← e115] at X
  refine lv_aload_n hx hb dX12_init_164 rfl (lv_at hl 0 rfl) ?_
  obtain ⟨g116, hf⟩ := gd_e hf
  refine g_R hx hb hts hown hK X o0 hN g116 fl_X12_13 (by decide) rfl (by decide) dX12_init_165 ?_
  refine lv_iconst (v := (1 : Int32)) hx hb dX12_init_168 (by decide) ?_
  refine lv_iconst (v := (4 : Int32)) hx hb dX12_init_169 (by decide) ?_
  obtain ⟨g117, hf⟩ := gd_e hf
  refine g_is hx hb hK X g116 hN g117 (by decide) dX12_init_170 (fun H locs X => ?_)
  obtain ⟨h118, e119, hf⟩ := lt_e hf
  rw [← e119] at X
  refine lv_aload_n hx hb dX12_init_171 rfl (lv_at hl 0 rfl) ?_
  obtain ⟨g120, hf⟩ := gd_e hf
  refine g_R hx hb hts hown hK X o0 hN g120 fl_X12_13 (by decide) rfl (by decide) dX12_init_172 ?_
  refine lv_bipush (v := (11 : Int32)) hx hb dX12_init_175 (by decide) ?_
  refine lv_iconst (v := (3 : Int32)) hx hb dX12_init_177 (by decide) ?_
  obtain ⟨g121, hf⟩ := gd_e hf
  refine g_is hx hb hK X g120 hN g121 (by decide) dX12_init_178 (fun H locs X => ?_)
  obtain ⟨h122, e123, hf⟩ := lt_e hf
  rw [← e123] at X
  refine lv_aload_n hx hb dX12_init_179 rfl (lv_at hl 0 rfl) ?_
  obtain ⟨g124, hf⟩ := gd_e hf
  refine g_R hx hb hts hown hK X o0 hN g124 fl_X12_13 (by decide) rfl (by decide) dX12_init_180 ?_
  refine lv_bipush (v := (53 : Int32)) hx hb dX12_init_183 (by decide) ?_
  refine lv_iconst (v := (4 : Int32)) hx hb dX12_init_185 (by decide) ?_
  obtain ⟨g125, hf⟩ := gd_e hf
  refine g_is hx hb hK X g124 hN g125 (by decide) dX12_init_186 (fun H locs X => ?_)
  obtain ⟨h126, e127, hf⟩ := lt_e hf
  rw [← e127] at X
  refine lv_aload_n hx hb dX12_init_187 rfl (lv_at hl 0 rfl) ?_
  obtain ⟨g128, hf⟩ := gd_e hf
  refine g_R hx hb hts hown hK X o0 hN g128 fl_X12_13 (by decide) rfl (by decide) dX12_init_188 ?_
  refine lv_bipush (v := (54 : Int32)) hx hb dX12_init_191 (by decide) ?_
  refine lv_iconst (v := (4 : Int32)) hx hb dX12_init_193 (by decide) ?_
  obtain ⟨g129, hf⟩ := gd_e hf
  refine g_is hx hb hK X g128 hN g129 (by decide) dX12_init_194 (fun H locs X => ?_)
  obtain ⟨h130, e131, hf⟩ := lt_e hf
  rw [← e131] at X
  refine lv_aload_n hx hb dX12_init_195 rfl (lv_at hl 0 rfl) ?_
  obtain ⟨g132, hf⟩ := gd_e hf
  refine g_R hx hb hts hown hK X o0 hN g132 fl_X12_13 (by decide) rfl (by decide) dX12_init_196 ?_
  refine lv_bipush (v := (55 : Int32)) hx hb dX12_init_199 (by decide) ?_
  refine lv_bipush (v := (7 : Int32)) hx hb dX12_init_201 (by decide) ?_
  obtain ⟨g133, hf⟩ := gd_e hf
  refine g_is hx hb hK X g132 hN g133 (by decide) dX12_init_203 (fun H locs X => ?_)
  obtain ⟨h134, e135, hf⟩ := lt_e hf
  rw [← e135] at X
  refine lv_aload_n hx hb dX12_init_204 rfl (lv_at hl 0 rfl) ?_
  obtain ⟨g136, hf⟩ := gd_e hf
  refine g_R hx hb hts hown hK X o0 hN g136 fl_X12_13 (by decide) rfl (by decide) dX12_init_205 ?_
  refine lv_bipush (v := (56 : Int32)) hx hb dX12_init_208 (by decide) ?_
  refine lv_bipush (v := (12 : Int32)) hx hb dX12_init_210 (by decide) ?_
  obtain ⟨g137, hf⟩ := gd_e hf
  refine g_is hx hb hK X g136 hN g137 (by decide) dX12_init_212 (fun H locs X => ?_)
  obtain ⟨h138, e139, hf⟩ := lt_e hf
  rw [← e139] at X
  refine lv_iconst (v := (0 : Int32)) hx hb dX12_init_213 (by decide) ?_
  refine lv_istore_n (lv' := [(1, .int (0 : Int32)), (0, .ref (bs G + x0))]) hx hb dX12_init_214 rfl hl (by decide) rfl (fun ls hl => ?_)
  exact j_X12_init_215 C0 hN FU X (lv_sub hl [1, 0] rfl) o0 hf
end
