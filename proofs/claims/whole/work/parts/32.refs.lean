def rtab : List (List Nat) := [[], [2, 5, 9, 13, 16, 42, 50, 53, 58, 61, 75, 78], [0, 3, 4], [], [], [0, 0, 0, 0, 0, 6, 7, 8], [], [], [], [0, 0, 0, 0, 0, 10, 11, 12], [], [], [], [14, 15], [], [], [0, 17], [18, 21, 24, 27, 30, 33, 36, 39], [19, 20], [], [], [22, 23], [], [], [25, 26], [], [], [28, 29], [], [], [31, 32], [], [], [34, 35], [], [], [37, 38], [], [], [40, 41], [], [], [0, 43], [44, 47], [45, 46], [], [], [48, 49], [], [], [0, 51, 52], [], [], [0, 0, 54, 55, 56, 57], [], [], [], [], [59, 60], [], [], [62, 68, 69, 70, 71, 72, 73, 74], [0, 0, 0, 0, 63, 64, 65, 66, 67], [], [], [], [], [], [], [], [], [], [], [], [], [0, 0, 0, 0, 0, 76, 77], [], [], [0, 0, 0, 0, 0, 79, 61, 80, 81, 82], [], [], [], [], [0, 84, 85, 86, 87, 0, 88, 0, 89, 0, 0, 90, 0, 91, 0, 92, 0, 0, 0, 93, 94, 95, 96, 0, 97, 98, 99, 0, 100, 101], [], [], [], [], [], [], [], [], [], [], [], [], [], [], [], [], [], []]
def rho0 (a k : Nat) : Nat := (rtab.getD a []).getD k 0
/-- the references behind the constructors: port, draft, the two rows of ways, and the days of the past may change -/
def RF (p q w v : Nat) (ds : Nat → Nat) : Nat → Nat → Nat := fun a k => if a = 1 then (if k = 1 then p else if k = 2 then q else rho0 1 k) else if a = 58 then (if k = 0 then w else if k = 1 then v else rho0 58 k) else if a = 17 then ds k else rho0 a k
theorem r_1_0 (p q w v : Nat) (ds : Nat → Nat) : RF p q w v ds 1 0 = 2 := rfl
theorem r_1_1 (p q w v : Nat) (ds : Nat → Nat) : RF p q w v ds 1 1 = p := rfl
theorem r_1_2 (p q w v : Nat) (ds : Nat → Nat) : RF p q w v ds 1 2 = q := rfl
theorem r_1_3 (p q w v : Nat) (ds : Nat → Nat) : RF p q w v ds 1 3 = 13 := rfl
theorem r_1_4 (p q w v : Nat) (ds : Nat → Nat) : RF p q w v ds 1 4 = 16 := rfl
theorem r_1_5 (p q w v : Nat) (ds : Nat → Nat) : RF p q w v ds 1 5 = 42 := rfl
theorem r_1_6 (p q w v : Nat) (ds : Nat → Nat) : RF p q w v ds 1 6 = 50 := rfl
theorem r_1_7 (p q w v : Nat) (ds : Nat → Nat) : RF p q w v ds 1 7 = 53 := rfl
theorem r_1_8 (p q w v : Nat) (ds : Nat → Nat) : RF p q w v ds 1 8 = 58 := rfl
theorem r_1_9 (p q w v : Nat) (ds : Nat → Nat) : RF p q w v ds 1 9 = 61 := rfl
theorem r_1_10 (p q w v : Nat) (ds : Nat → Nat) : RF p q w v ds 1 10 = 75 := rfl
theorem r_1_11 (p q w v : Nat) (ds : Nat → Nat) : RF p q w v ds 1 11 = 78 := rfl
theorem r_2_1 (p q w v : Nat) (ds : Nat → Nat) : RF p q w v ds 2 1 = 3 := rfl
theorem r_2_2 (p q w v : Nat) (ds : Nat → Nat) : RF p q w v ds 2 2 = 4 := rfl
theorem r_5_5 (p q w v : Nat) (ds : Nat → Nat) : RF p q w v ds 5 5 = 6 := rfl
theorem r_5_6 (p q w v : Nat) (ds : Nat → Nat) : RF p q w v ds 5 6 = 7 := rfl
theorem r_5_7 (p q w v : Nat) (ds : Nat → Nat) : RF p q w v ds 5 7 = 8 := rfl
theorem r_9_5 (p q w v : Nat) (ds : Nat → Nat) : RF p q w v ds 9 5 = 10 := rfl
theorem r_9_6 (p q w v : Nat) (ds : Nat → Nat) : RF p q w v ds 9 6 = 11 := rfl
theorem r_9_7 (p q w v : Nat) (ds : Nat → Nat) : RF p q w v ds 9 7 = 12 := rfl
theorem r_13_0 (p q w v : Nat) (ds : Nat → Nat) : RF p q w v ds 13 0 = 14 := rfl
theorem r_13_1 (p q w v : Nat) (ds : Nat → Nat) : RF p q w v ds 13 1 = 15 := rfl
theorem r_16_1 (p q w v : Nat) (ds : Nat → Nat) : RF p q w v ds 16 1 = 17 := rfl
theorem r_18_0 (p q w v : Nat) (ds : Nat → Nat) : RF p q w v ds 18 0 = 19 := rfl
theorem r_18_1 (p q w v : Nat) (ds : Nat → Nat) : RF p q w v ds 18 1 = 20 := rfl
theorem r_21_0 (p q w v : Nat) (ds : Nat → Nat) : RF p q w v ds 21 0 = 22 := rfl
theorem r_21_1 (p q w v : Nat) (ds : Nat → Nat) : RF p q w v ds 21 1 = 23 := rfl
theorem r_24_0 (p q w v : Nat) (ds : Nat → Nat) : RF p q w v ds 24 0 = 25 := rfl
theorem r_24_1 (p q w v : Nat) (ds : Nat → Nat) : RF p q w v ds 24 1 = 26 := rfl
theorem r_27_0 (p q w v : Nat) (ds : Nat → Nat) : RF p q w v ds 27 0 = 28 := rfl
theorem r_27_1 (p q w v : Nat) (ds : Nat → Nat) : RF p q w v ds 27 1 = 29 := rfl
theorem r_30_0 (p q w v : Nat) (ds : Nat → Nat) : RF p q w v ds 30 0 = 31 := rfl
theorem r_30_1 (p q w v : Nat) (ds : Nat → Nat) : RF p q w v ds 30 1 = 32 := rfl
theorem r_33_0 (p q w v : Nat) (ds : Nat → Nat) : RF p q w v ds 33 0 = 34 := rfl
theorem r_33_1 (p q w v : Nat) (ds : Nat → Nat) : RF p q w v ds 33 1 = 35 := rfl
theorem r_36_0 (p q w v : Nat) (ds : Nat → Nat) : RF p q w v ds 36 0 = 37 := rfl
theorem r_36_1 (p q w v : Nat) (ds : Nat → Nat) : RF p q w v ds 36 1 = 38 := rfl
theorem r_39_0 (p q w v : Nat) (ds : Nat → Nat) : RF p q w v ds 39 0 = 40 := rfl
theorem r_39_1 (p q w v : Nat) (ds : Nat → Nat) : RF p q w v ds 39 1 = 41 := rfl
theorem r_42_1 (p q w v : Nat) (ds : Nat → Nat) : RF p q w v ds 42 1 = 43 := rfl
theorem r_43_0 (p q w v : Nat) (ds : Nat → Nat) : RF p q w v ds 43 0 = 44 := rfl
theorem r_43_1 (p q w v : Nat) (ds : Nat → Nat) : RF p q w v ds 43 1 = 47 := rfl
theorem r_44_0 (p q w v : Nat) (ds : Nat → Nat) : RF p q w v ds 44 0 = 45 := rfl
theorem r_44_1 (p q w v : Nat) (ds : Nat → Nat) : RF p q w v ds 44 1 = 46 := rfl
theorem r_47_0 (p q w v : Nat) (ds : Nat → Nat) : RF p q w v ds 47 0 = 48 := rfl
theorem r_47_1 (p q w v : Nat) (ds : Nat → Nat) : RF p q w v ds 47 1 = 49 := rfl
theorem r_50_1 (p q w v : Nat) (ds : Nat → Nat) : RF p q w v ds 50 1 = 51 := rfl
theorem r_50_2 (p q w v : Nat) (ds : Nat → Nat) : RF p q w v ds 50 2 = 52 := rfl
theorem r_53_2 (p q w v : Nat) (ds : Nat → Nat) : RF p q w v ds 53 2 = 54 := rfl
theorem r_53_3 (p q w v : Nat) (ds : Nat → Nat) : RF p q w v ds 53 3 = 55 := rfl
theorem r_53_4 (p q w v : Nat) (ds : Nat → Nat) : RF p q w v ds 53 4 = 56 := rfl
theorem r_53_5 (p q w v : Nat) (ds : Nat → Nat) : RF p q w v ds 53 5 = 57 := rfl
theorem r_58_0 (p q w v : Nat) (ds : Nat → Nat) : RF p q w v ds 58 0 = w := rfl
theorem r_58_1 (p q w v : Nat) (ds : Nat → Nat) : RF p q w v ds 58 1 = v := rfl
theorem r_61_0 (p q w v : Nat) (ds : Nat → Nat) : RF p q w v ds 61 0 = 62 := rfl
theorem r_61_1 (p q w v : Nat) (ds : Nat → Nat) : RF p q w v ds 61 1 = 68 := rfl
theorem r_61_2 (p q w v : Nat) (ds : Nat → Nat) : RF p q w v ds 61 2 = 69 := rfl
theorem r_61_3 (p q w v : Nat) (ds : Nat → Nat) : RF p q w v ds 61 3 = 70 := rfl
theorem r_61_4 (p q w v : Nat) (ds : Nat → Nat) : RF p q w v ds 61 4 = 71 := rfl
theorem r_61_5 (p q w v : Nat) (ds : Nat → Nat) : RF p q w v ds 61 5 = 72 := rfl
theorem r_61_6 (p q w v : Nat) (ds : Nat → Nat) : RF p q w v ds 61 6 = 73 := rfl
theorem r_61_7 (p q w v : Nat) (ds : Nat → Nat) : RF p q w v ds 61 7 = 74 := rfl
theorem r_62_4 (p q w v : Nat) (ds : Nat → Nat) : RF p q w v ds 62 4 = 63 := rfl
theorem r_62_5 (p q w v : Nat) (ds : Nat → Nat) : RF p q w v ds 62 5 = 64 := rfl
theorem r_62_6 (p q w v : Nat) (ds : Nat → Nat) : RF p q w v ds 62 6 = 65 := rfl
theorem r_62_7 (p q w v : Nat) (ds : Nat → Nat) : RF p q w v ds 62 7 = 66 := rfl
theorem r_62_8 (p q w v : Nat) (ds : Nat → Nat) : RF p q w v ds 62 8 = 67 := rfl
theorem r_75_5 (p q w v : Nat) (ds : Nat → Nat) : RF p q w v ds 75 5 = 76 := rfl
theorem r_75_6 (p q w v : Nat) (ds : Nat → Nat) : RF p q w v ds 75 6 = 77 := rfl
theorem r_78_5 (p q w v : Nat) (ds : Nat → Nat) : RF p q w v ds 78 5 = 79 := rfl
theorem r_78_6 (p q w v : Nat) (ds : Nat → Nat) : RF p q w v ds 78 6 = 61 := rfl
theorem r_78_7 (p q w v : Nat) (ds : Nat → Nat) : RF p q w v ds 78 7 = 80 := rfl
theorem r_78_8 (p q w v : Nat) (ds : Nat → Nat) : RF p q w v ds 78 8 = 81 := rfl
theorem r_78_9 (p q w v : Nat) (ds : Nat → Nat) : RF p q w v ds 78 9 = 82 := rfl
theorem r_83_1 (p q w v : Nat) (ds : Nat → Nat) : RF p q w v ds 83 1 = 84 := rfl
theorem r_83_2 (p q w v : Nat) (ds : Nat → Nat) : RF p q w v ds 83 2 = 85 := rfl
theorem r_83_3 (p q w v : Nat) (ds : Nat → Nat) : RF p q w v ds 83 3 = 86 := rfl
theorem r_83_4 (p q w v : Nat) (ds : Nat → Nat) : RF p q w v ds 83 4 = 87 := rfl
theorem r_83_6 (p q w v : Nat) (ds : Nat → Nat) : RF p q w v ds 83 6 = 88 := rfl
theorem r_83_8 (p q w v : Nat) (ds : Nat → Nat) : RF p q w v ds 83 8 = 89 := rfl
theorem r_83_11 (p q w v : Nat) (ds : Nat → Nat) : RF p q w v ds 83 11 = 90 := rfl
theorem r_83_13 (p q w v : Nat) (ds : Nat → Nat) : RF p q w v ds 83 13 = 91 := rfl
theorem r_83_15 (p q w v : Nat) (ds : Nat → Nat) : RF p q w v ds 83 15 = 92 := rfl
theorem r_83_19 (p q w v : Nat) (ds : Nat → Nat) : RF p q w v ds 83 19 = 93 := rfl
theorem r_83_20 (p q w v : Nat) (ds : Nat → Nat) : RF p q w v ds 83 20 = 94 := rfl
theorem r_83_21 (p q w v : Nat) (ds : Nat → Nat) : RF p q w v ds 83 21 = 95 := rfl
theorem r_83_22 (p q w v : Nat) (ds : Nat → Nat) : RF p q w v ds 83 22 = 96 := rfl
theorem r_83_24 (p q w v : Nat) (ds : Nat → Nat) : RF p q w v ds 83 24 = 97 := rfl
theorem r_83_25 (p q w v : Nat) (ds : Nat → Nat) : RF p q w v ds 83 25 = 98 := rfl
theorem r_83_26 (p q w v : Nat) (ds : Nat → Nat) : RF p q w v ds 83 26 = 99 := rfl
theorem r_83_28 (p q w v : Nat) (ds : Nat → Nat) : RF p q w v ds 83 28 = 100 := rfl
theorem r_83_29 (p q w v : Nat) (ds : Nat → Nat) : RF p q w v ds 83 29 = 101 := rfl
theorem r_17 (p q w v : Nat) (ds : Nat → Nat) (k : Nat) : RF p q w v ds 17 k = ds k := rfl
theorem k_1 : kd 1 = 11 := rfl
theorem n_1 : ln 1 = 12 := rfl
theorem k_2 : kd 2 = 8 := rfl
theorem n_2 : ln 2 = 5 := rfl
theorem k_3 : kd 3 = 14 := rfl
theorem n_3 : ln 3 = 200 := rfl
theorem k_4 : kd 4 = 13 := rfl
theorem n_4 : ln 4 = 3 := rfl
theorem k_5 : kd 5 = 4 := rfl
theorem n_5 : ln 5 = 8 := rfl
theorem k_6 : kd 6 = 13 := rfl
theorem n_6 : ln 6 = 25 := rfl
theorem k_7 : kd 7 = 13 := rfl
theorem n_7 : ln 7 = 6 := rfl
theorem k_8 : kd 8 = 13 := rfl
theorem n_8 : ln 8 = 6 := rfl
theorem k_9 : kd 9 = 4 := rfl
theorem n_9 : ln 9 = 8 := rfl
theorem k_10 : kd 10 = 13 := rfl
theorem n_10 : ln 10 = 25 := rfl
theorem k_11 : kd 11 = 13 := rfl
theorem n_11 : ln 11 = 6 := rfl
theorem k_12 : kd 12 = 13 := rfl
theorem n_12 : ln 12 = 6 := rfl
theorem k_13 : kd 13 = 2 := rfl
theorem n_13 : ln 13 = 5 := rfl
theorem k_14 : kd 14 = 13 := rfl
theorem n_14 : ln 14 = 8 := rfl
theorem k_15 : kd 15 = 13 := rfl
theorem n_15 : ln 15 = 6 := rfl
theorem k_16 : kd 16 = 3 := rfl
theorem n_16 : ln 16 = 2 := rfl
theorem k_17 : kd 17 = 15 := rfl
theorem n_17 : ln 17 = 8 := rfl
theorem k_18 : kd 18 = 2 := rfl
theorem n_18 : ln 18 = 5 := rfl
theorem k_19 : kd 19 = 13 := rfl
theorem n_19 : ln 19 = 8 := rfl
theorem k_20 : kd 20 = 13 := rfl
theorem n_20 : ln 20 = 6 := rfl
theorem k_21 : kd 21 = 2 := rfl
theorem n_21 : ln 21 = 5 := rfl
theorem k_22 : kd 22 = 13 := rfl
theorem n_22 : ln 22 = 8 := rfl
theorem k_23 : kd 23 = 13 := rfl
theorem n_23 : ln 23 = 6 := rfl
theorem k_24 : kd 24 = 2 := rfl
theorem n_24 : ln 24 = 5 := rfl
theorem k_25 : kd 25 = 13 := rfl
theorem n_25 : ln 25 = 8 := rfl
theorem k_26 : kd 26 = 13 := rfl
theorem n_26 : ln 26 = 6 := rfl
theorem k_27 : kd 27 = 2 := rfl
theorem n_27 : ln 27 = 5 := rfl
theorem k_28 : kd 28 = 13 := rfl
theorem n_28 : ln 28 = 8 := rfl
theorem k_29 : kd 29 = 13 := rfl
theorem n_29 : ln 29 = 6 := rfl
theorem k_30 : kd 30 = 2 := rfl
theorem n_30 : ln 30 = 5 := rfl
theorem k_31 : kd 31 = 13 := rfl
theorem n_31 : ln 31 = 8 := rfl
theorem k_32 : kd 32 = 13 := rfl
theorem n_32 : ln 32 = 6 := rfl
theorem k_33 : kd 33 = 2 := rfl
theorem n_33 : ln 33 = 5 := rfl
theorem k_34 : kd 34 = 13 := rfl
theorem n_34 : ln 34 = 8 := rfl
theorem k_35 : kd 35 = 13 := rfl
theorem n_35 : ln 35 = 6 := rfl
theorem k_36 : kd 36 = 2 := rfl
theorem n_36 : ln 36 = 5 := rfl
theorem k_37 : kd 37 = 13 := rfl
theorem n_37 : ln 37 = 8 := rfl
theorem k_38 : kd 38 = 13 := rfl
theorem n_38 : ln 38 = 6 := rfl
theorem k_39 : kd 39 = 2 := rfl
theorem n_39 : ln 39 = 5 := rfl
theorem k_40 : kd 40 = 13 := rfl
theorem n_40 : ln 40 = 8 := rfl
theorem k_41 : kd 41 = 13 := rfl
theorem n_41 : ln 41 = 6 := rfl
theorem k_42 : kd 42 = 3 := rfl
theorem n_42 : ln 42 = 2 := rfl
theorem k_43 : kd 43 = 15 := rfl
theorem n_43 : ln 43 = 2 := rfl
theorem k_44 : kd 44 = 2 := rfl
theorem n_44 : ln 44 = 5 := rfl
theorem k_45 : kd 45 = 13 := rfl
theorem n_45 : ln 45 = 8 := rfl
theorem k_46 : kd 46 = 13 := rfl
theorem n_46 : ln 46 = 6 := rfl
theorem k_47 : kd 47 = 2 := rfl
theorem n_47 : ln 47 = 5 := rfl
theorem k_48 : kd 48 = 13 := rfl
theorem n_48 : ln 48 = 8 := rfl
theorem k_49 : kd 49 = 13 := rfl
theorem n_49 : ln 49 = 6 := rfl
theorem k_50 : kd 50 = 10 := rfl
theorem n_50 : ln 50 = 3 := rfl
theorem k_51 : kd 51 = 13 := rfl
theorem n_51 : ln 51 = 10 := rfl
theorem k_52 : kd 52 = 13 := rfl
theorem n_52 : ln 52 = 10 := rfl
theorem k_53 : kd 53 = 0 := rfl
theorem n_53 : ln 53 = 6 := rfl
theorem k_54 : kd 54 = 13 := rfl
theorem n_54 : ln 54 = 6 := rfl
theorem k_55 : kd 55 = 13 := rfl
theorem n_55 : ln 55 = 6 := rfl
theorem k_56 : kd 56 = 13 := rfl
theorem n_56 : ln 56 = 6 := rfl
theorem k_57 : kd 57 = 13 := rfl
theorem n_57 : ln 57 = 6 := rfl
theorem k_58 : kd 58 = 9 := rfl
theorem n_58 : ln 58 = 3 := rfl
theorem k_59 : kd 59 = 13 := rfl
theorem n_59 : ln 59 = 601 := rfl
theorem k_60 : kd 60 = 13 := rfl
theorem n_60 : ln 60 = 601 := rfl
theorem k_61 : kd 61 = 5 := rfl
theorem n_61 : ln 61 = 9 := rfl
theorem k_62 : kd 62 = 7 := rfl
theorem n_62 : ln 62 = 12 := rfl
theorem k_63 : kd 63 = 13 := rfl
theorem n_63 : ln 63 = 15025 := rfl
theorem k_64 : kd 64 = 13 := rfl
theorem n_64 : ln 64 = 25 := rfl
theorem k_65 : kd 65 = 13 := rfl
theorem n_65 : ln 65 = 25 := rfl
theorem k_66 : kd 66 = 13 := rfl
theorem n_66 : ln 66 = 24 := rfl
theorem k_67 : kd 67 = 13 := rfl
theorem n_67 : ln 67 = 100 := rfl
theorem k_68 : kd 68 = 13 := rfl
theorem n_68 : ln 68 = 800 := rfl
theorem k_69 : kd 69 = 13 := rfl
theorem n_69 : ln 69 = 800 := rfl
theorem k_70 : kd 70 = 13 := rfl
theorem n_70 : ln 70 = 800 := rfl
theorem k_71 : kd 71 = 13 := rfl
theorem n_71 : ln 71 = 800 := rfl
theorem k_72 : kd 72 = 13 := rfl
theorem n_72 : ln 72 = 800 := rfl
theorem k_73 : kd 73 = 13 := rfl
theorem n_73 : ln 73 = 800 := rfl
theorem k_74 : kd 74 = 13 := rfl
theorem n_74 : ln 74 = 100 := rfl
theorem k_75 : kd 75 = 6 := rfl
theorem n_75 : ln 75 = 7 := rfl
theorem k_76 : kd 76 = 13 := rfl
theorem n_76 : ln 76 = 6 := rfl
theorem k_77 : kd 77 = 13 := rfl
theorem n_77 : ln 77 = 6 := rfl
theorem k_78 : kd 78 = 1 := rfl
theorem n_78 : ln 78 = 10 := rfl
theorem k_79 : kd 79 = 13 := rfl
theorem n_79 : ln 79 = 6 := rfl
theorem k_80 : kd 80 = 13 := rfl
theorem n_80 : ln 80 = 100 := rfl
theorem k_81 : kd 81 = 13 := rfl
theorem n_81 : ln 81 = 6 := rfl
theorem k_82 : kd 82 = 13 := rfl
theorem n_82 : ln 82 = 36 := rfl
theorem k_83 : kd 83 = 12 := rfl
theorem n_83 : ln 83 = 30 := rfl
theorem k_84 : kd 84 = 16 := rfl
theorem n_84 : ln 84 = 59 := rfl
theorem k_85 : kd 85 = 16 := rfl
theorem n_85 : ln 85 = 59 := rfl
theorem k_86 : kd 86 = 16 := rfl
theorem n_86 : ln 86 = 51 := rfl
theorem k_87 : kd 87 = 16 := rfl
theorem n_87 : ln 87 = 408 := rfl
theorem k_88 : kd 88 = 16 := rfl
theorem n_88 : ln 88 = 102 := rfl
theorem k_89 : kd 89 = 16 := rfl
theorem n_89 : ln 89 = 200 := rfl
theorem k_90 : kd 90 = 16 := rfl
theorem n_90 : ln 90 = 3 := rfl
theorem k_91 : kd 91 = 16 := rfl
theorem n_91 : ln 91 = 20 := rfl
theorem k_92 : kd 92 = 16 := rfl
theorem n_92 : ln 92 = 15626 := rfl
theorem k_93 : kd 93 = 16 := rfl
theorem n_93 : ln 93 = 7 := rfl
theorem k_94 : kd 94 = 16 := rfl
theorem n_94 : ln 94 = 7 := rfl
theorem k_95 : kd 95 = 16 := rfl
theorem n_95 : ln 95 = 7 := rfl
theorem k_96 : kd 96 = 16 := rfl
theorem n_96 : ln 96 = 6 := rfl
theorem k_97 : kd 97 = 16 := rfl
theorem n_97 : ln 97 = 601 := rfl
theorem k_98 : kd 98 = 16 := rfl
theorem n_98 : ln 98 = 601 := rfl
theorem k_99 : kd 99 = 16 := rfl
theorem n_99 : ln 99 = 6 := rfl
theorem k_100 : kd 100 = 16 := rfl
theorem n_100 : ln 100 = 6 := rfl
theorem k_101 : kd 101 = 16 := rfl
theorem n_101 : ln 101 = 64 := rfl
theorem g_si (h : Hp) (a k : Nat) (v : Int32) (b : Nat) : (si h a k v).1 b = if b = a then upd (h.1 a) k v else h.1 b := rfl
theorem r_si (h : Hp) (a k : Nat) (v : Int32) : (si h a k v).2 = h.2 := rfl
theorem g_sr (h : Hp) (a k q : Nat) : (sr h a k q).1 = h.1 := rfl
theorem r_sr (h : Hp) (a k q b : Nat) : (sr h a k q).2 b = if b = a then (fun j => if j = k then q else h.2 a j) else h.2 b := rfl
theorem g_sc (h : Hp) (a : Nat) (f : Nat → Int32) (b : Nat) : (sc h a f).1 b = if b = a then f else h.1 b := rfl
theorem r_sc (h : Hp) (a : Nat) (f : Nat → Int32) : (sc h a f).2 = h.2 := rfl
/-- a cell's ints replaced -/
def uc (g : Nat → Nat → Int32) (a : Nat) (f : Nat → Int32) : Nat → Nat → Int32 := fun b => if b = a then f else g b
theorem si_uc (g : Nat → Nat → Int32) (r : Nat → Nat → Nat) (a k : Nat) (v : Int32) : si (g, r) a k v = (uc g a (upd (g a) k v), r) := rfl
theorem uc_s (g : Nat → Nat → Int32) (a : Nat) (f : Nat → Int32) : uc g a f a = f := if_pos rfl
theorem uc_n {g : Nat → Nat → Int32} {a b : Nat} {f : Nat → Int32} (h : b ≠ a) : uc g a f b = g b := if_neg h
theorem uc_uc (g : Nat → Nat → Int32) (a : Nat) (f f' : Nat → Int32) : uc (uc g a f) a f' = uc g a f' := by
  funext b
  by_cases h : b = a <;> simp [uc, h]
theorem uc_id (g : Nat → Nat → Int32) (a : Nat) : uc g a (g a) = g := by
  funext b
  by_cases h : b = a <;> simp [uc, h]
theorem upd_s (f : Nat → Int32) (k : Nat) (v : Int32) : upd f k v k = v := if_pos rfl
theorem upd_n {f : Nat → Int32} {k j : Nat} {v : Int32} (h : j ≠ k) : upd f k v j = f j := if_neg h
theorem FU_lt {n : Nat} (h : n < 100000) : n < FU := h
/-- nothing but these cells has changed -/
def Sb (A : List Nat) (g g' : Nat → Nat → Int32) : Prop := ∀ a, a ∉ A → g' a = g a
theorem Sb.rf {A : List Nat} {g : Nat → Nat → Int32} : Sb A g g := fun _ _ => rfl
theorem Sb.tr {A : List Nat} {g g' g'' : Nat → Nat → Int32} (h : Sb A g g') (h' : Sb A g' g'') : Sb A g g'' := fun a ha => (h' a ha).trans (h a ha)
theorem Sb.uc {A : List Nat} {g g' : Nat → Nat → Int32} {a : Nat} {f : Nat → Int32} (h : Sb A g g') (ha : a ∈ A) : Sb A g (uc g' a f) := fun b hb => by
  rw [uc_n (fun e => hb (by rw [e]; exact ha))]
  exact h b hb
theorem Sb.mono {A B : List Nat} {g g' : Nat → Nat → Int32} (h : Sb A g g') (hAB : ∀ a ∈ A, a ∈ B) : Sb B g g' := fun a ha => h a (fun e => ha (hAB a e))
theorem I_lit (n : Nat) : (OfNat.ofNat n : Int32) = I (OfNat.ofNat n : Int) := (I_nI n)
theorem I_m1 : (-1 : Int32) = I (-1) := rfl
theorem I_m4 : (-4 : Int32) = I (-4) := rfl
