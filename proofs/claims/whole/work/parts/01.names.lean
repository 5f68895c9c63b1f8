-- ===== PART A: goes FIRST, ahead of the names: the tables' words, and 'selects' of the private methods out of them =====
/-- a private method of a class that the tables say can be made, by its rows of tables_1 -/
def lw_okq (q : MethodName × Nat) : Prop := (q.1.cls ≠ "java/lang/invoke/MethodHandle" ∧ q.1.cls ≠ "java/lang/invoke/VarHandle") ∧ Cond.instantiable q.1.cls q.2 ∈ tables_1 ∧ Cond.privateMethod q.1 ∈ tables_1 ∧ Cond.instanceMethod q.1 ∈ tables_1
theorem lw_p0 : lw_okq (⟨"TakenNumbers$Text", "readItem", "(I)Z"⟩, 5) := ⟨⟨by decide +kernel, by decide +kernel⟩, List.mem_of_getElem? (i := 30) (by decide +kernel), List.mem_of_getElem? (i := 439) (by decide +kernel), List.mem_of_getElem? (i := 440) (by decide +kernel)⟩
theorem lw_p1 : lw_okq (⟨"TakenNumbers$Text", "readNumber", "(I)Z"⟩, 5) := ⟨⟨by decide +kernel, by decide +kernel⟩, List.mem_of_getElem? (i := 30) (by decide +kernel), List.mem_of_getElem? (i := 443) (by decide +kernel), List.mem_of_getElem? (i := 444) (by decide +kernel)⟩
theorem lw_p2 : lw_okq (⟨"TakenNumbers$Text", "accept", "(CLTakenNumbers$Port;)Z"⟩, 5) := ⟨⟨by decide +kernel, by decide +kernel⟩, List.mem_of_getElem? (i := 30) (by decide +kernel), List.mem_of_getElem? (i := 447) (by decide +kernel), List.mem_of_getElem? (i := 448) (by decide +kernel)⟩
theorem lw_p3 : lw_okq (⟨"TakenNumbers", "sceneNow", "()LTakenNumbers$Scene;"⟩, 12) := ⟨⟨by decide +kernel, by decide +kernel⟩, List.mem_of_getElem? (i := 22) (by decide +kernel), List.mem_of_getElem? (i := 562) (by decide +kernel), List.mem_of_getElem? (i := 563) (by decide +kernel)⟩
theorem lw_p4 : lw_okq (⟨"TakenNumbers$Scene", "setFree", "(LTakenNumbers$Port;)V"⟩, 7) := ⟨⟨by decide +kernel, by decide +kernel⟩, List.mem_of_getElem? (i := 291) (by decide +kernel), List.mem_of_getElem? (i := 570) (by decide +kernel), List.mem_of_getElem? (i := 571) (by decide +kernel)⟩
theorem lw_p5 : lw_okq (⟨"TakenNumbers$DayStack", "dropOldest", "()V"⟩, 2) := ⟨⟨by decide +kernel, by decide +kernel⟩, List.mem_of_getElem? (i := 130) (by decide +kernel), List.mem_of_getElem? (i := 645) (by decide +kernel), List.mem_of_getElem? (i := 646) (by decide +kernel)⟩
theorem lw_p6 : lw_okq (⟨"TakenNumbers", "usedNow", "(II)I"⟩, 12) := ⟨⟨by decide +kernel, by decide +kernel⟩, List.mem_of_getElem? (i := 22) (by decide +kernel), List.mem_of_getElem? (i := 664) (by decide +kernel), List.mem_of_getElem? (i := 665) (by decide +kernel)⟩
theorem lw_p7 : lw_okq (⟨"TakenNumbers$Sayings", "used", "(I)I"⟩, 9) := ⟨⟨by decide +kernel, by decide +kernel⟩, List.mem_of_getElem? (i := 210) (by decide +kernel), List.mem_of_getElem? (i := 672) (by decide +kernel), List.mem_of_getElem? (i := 673) (by decide +kernel)⟩
theorem lw_p8 : lw_okq (⟨"TakenNumbers$Table", "listNumbers", "()V"⟩, 12) := ⟨⟨by decide +kernel, by decide +kernel⟩, List.mem_of_getElem? (i := 216) (by decide +kernel), List.mem_of_getElem? (i := 683) (by decide +kernel), List.mem_of_getElem? (i := 684) (by decide +kernel)⟩
theorem lw_p9 : lw_okq (⟨"TakenNumbers$Table", "setBounds", "()V"⟩, 12) := ⟨⟨by decide +kernel, by decide +kernel⟩, List.mem_of_getElem? (i := 216) (by decide +kernel), List.mem_of_getElem? (i := 688) (by decide +kernel), List.mem_of_getElem? (i := 689) (by decide +kernel)⟩
theorem lw_p10 : lw_okq (⟨"TakenNumbers$Table", "spread", "(III)V"⟩, 12) := ⟨⟨by decide +kernel, by decide +kernel⟩, List.mem_of_getElem? (i := 216) (by decide +kernel), List.mem_of_getElem? (i := 697) (by decide +kernel), List.mem_of_getElem? (i := 698) (by decide +kernel)⟩
theorem lw_p11 : lw_okq (⟨"TakenNumbers$Table", "weight", "(II)I"⟩, 12) := ⟨⟨by decide +kernel, by decide +kernel⟩, List.mem_of_getElem? (i := 216) (by decide +kernel), List.mem_of_getElem? (i := 704) (by decide +kernel), List.mem_of_getElem? (i := 705) (by decide +kernel)⟩
theorem lw_p12 : lw_okq (⟨"TakenNumbers$Table", "at", "(II)I"⟩, 12) := ⟨⟨by decide +kernel, by decide +kernel⟩, List.mem_of_getElem? (i := 216) (by decide +kernel), List.mem_of_getElem? (i := 712) (by decide +kernel), List.mem_of_getElem? (i := 713) (by decide +kernel)⟩
theorem lw_p13 : lw_okq (⟨"TakenNumbers$Table", "firstUse", "(III)I"⟩, 12) := ⟨⟨by decide +kernel, by decide +kernel⟩, List.mem_of_getElem? (i := 216) (by decide +kernel), List.mem_of_getElem? (i := 716) (by decide +kernel), List.mem_of_getElem? (i := 717) (by decide +kernel)⟩
theorem lw_p14 : lw_okq (⟨"TakenNumbers$Table", "add", "(II)V"⟩, 12) := ⟨⟨by decide +kernel, by decide +kernel⟩, List.mem_of_getElem? (i := 216) (by decide +kernel), List.mem_of_getElem? (i := 720) (by decide +kernel), List.mem_of_getElem? (i := 721) (by decide +kernel)⟩
theorem lw_p15 : lw_okq (⟨"TakenNumbers$Crowd", "search", "(LTakenNumbers$Scene;IIII)V"⟩, 10) := ⟨⟨by decide +kernel, by decide +kernel⟩, List.mem_of_getElem? (i := 328) (by decide +kernel), List.mem_of_getElem? (i := 789) (by decide +kernel), List.mem_of_getElem? (i := 790) (by decide +kernel)⟩
def lw_privs_1 : List (MethodName × Nat) := [(⟨"TakenNumbers$Text", "readItem", "(I)Z"⟩, 5), (⟨"TakenNumbers$Text", "readNumber", "(I)Z"⟩, 5), (⟨"TakenNumbers$Text", "accept", "(CLTakenNumbers$Port;)Z"⟩, 5), (⟨"TakenNumbers", "sceneNow", "()LTakenNumbers$Scene;"⟩, 12), (⟨"TakenNumbers$Scene", "setFree", "(LTakenNumbers$Port;)V"⟩, 7), (⟨"TakenNumbers$DayStack", "dropOldest", "()V"⟩, 2), (⟨"TakenNumbers", "usedNow", "(II)I"⟩, 12), (⟨"TakenNumbers$Sayings", "used", "(I)I"⟩, 9), (⟨"TakenNumbers$Table", "listNumbers", "()V"⟩, 12), (⟨"TakenNumbers$Table", "setBounds", "()V"⟩, 12), (⟨"TakenNumbers$Table", "spread", "(III)V"⟩, 12), (⟨"TakenNumbers$Table", "weight", "(II)I"⟩, 12), (⟨"TakenNumbers$Table", "at", "(II)I"⟩, 12), (⟨"TakenNumbers$Table", "firstUse", "(III)I"⟩, 12), (⟨"TakenNumbers$Table", "add", "(II)V"⟩, 12), (⟨"TakenNumbers$Crowd", "search", "(LTakenNumbers$Scene;IIII)V"⟩, 10)]
theorem lw_r1 : ∀ q ∈ lw_privs_1, lw_okq q := List.forall_mem_cons.mpr ⟨lw_p0, List.forall_mem_cons.mpr ⟨lw_p1, List.forall_mem_cons.mpr ⟨lw_p2, List.forall_mem_cons.mpr ⟨lw_p3, List.forall_mem_cons.mpr ⟨lw_p4, List.forall_mem_cons.mpr ⟨lw_p5, List.forall_mem_cons.mpr ⟨lw_p6, List.forall_mem_cons.mpr ⟨lw_p7, List.forall_mem_cons.mpr ⟨lw_p8, List.forall_mem_cons.mpr ⟨lw_p9, List.forall_mem_cons.mpr ⟨lw_p10, List.forall_mem_cons.mpr ⟨lw_p11, List.forall_mem_cons.mpr ⟨lw_p12, List.forall_mem_cons.mpr ⟨lw_p13, List.forall_mem_cons.mpr ⟨lw_p14, List.forall_mem_cons.mpr ⟨lw_p15, fun _ h => absurd h List.not_mem_nil⟩⟩⟩⟩⟩⟩⟩⟩⟩⟩⟩⟩⟩⟩⟩⟩
theorem lw_p16 : lw_okq (⟨"TakenNumbers$Crowd", "ableAt", "(LTakenNumbers$Scene;III)I"⟩, 10) := ⟨⟨by decide +kernel, by decide +kernel⟩, List.mem_of_getElem? (i := 328) (by decide +kernel), List.mem_of_getElem? (i := 793) (by decide +kernel), List.mem_of_getElem? (i := 794) (by decide +kernel)⟩
theorem lw_p17 : lw_okq (⟨"TakenNumbers$Crowd", "record", "(III)V"⟩, 10) := ⟨⟨by decide +kernel, by decide +kernel⟩, List.mem_of_getElem? (i := 328) (by decide +kernel), List.mem_of_getElem? (i := 798) (by decide +kernel), List.mem_of_getElem? (i := 799) (by decide +kernel)⟩
theorem lw_p18 : lw_okq (⟨"TakenNumbers$Crowd", "getsWorse", "(LTakenNumbers$Scene;I)Z"⟩, 10) := ⟨⟨by decide +kernel, by decide +kernel⟩, List.mem_of_getElem? (i := 328) (by decide +kernel), List.mem_of_getElem? (i := 810) (by decide +kernel), List.mem_of_getElem? (i := 811) (by decide +kernel)⟩
theorem lw_p19 : lw_okq (⟨"TakenNumbers$WaySums", "join", "(II)V"⟩, 3) := ⟨⟨by decide +kernel, by decide +kernel⟩, List.mem_of_getElem? (i := 194) (by decide +kernel), List.mem_of_getElem? (i := 847) (by decide +kernel), List.mem_of_getElem? (i := 848) (by decide +kernel)⟩
theorem lw_p20 : lw_okq (⟨"TakenNumbers$Book", "readFrom", "(II)V"⟩, 6) := ⟨⟨by decide +kernel, by decide +kernel⟩, List.mem_of_getElem? (i := 167) (by decide +kernel), List.mem_of_getElem? (i := 884) (by decide +kernel), List.mem_of_getElem? (i := 885) (by decide +kernel)⟩
theorem lw_p21 : lw_okq (⟨"TakenNumbersModel", "begin", "()V"⟩, 30) := ⟨⟨by decide +kernel, by decide +kernel⟩, List.mem_of_getElem? (i := 939) (by decide +kernel), List.mem_of_getElem? (i := 945) (by decide +kernel), List.mem_of_getElem? (i := 946) (by decide +kernel)⟩
theorem lw_p22 : lw_okq (⟨"TakenNumbersModel", "dawn", "(Z)V"⟩, 30) := ⟨⟨by decide +kernel, by decide +kernel⟩, List.mem_of_getElem? (i := 939) (by decide +kernel), List.mem_of_getElem? (i := 949) (by decide +kernel), List.mem_of_getElem? (i := 950) (by decide +kernel)⟩
theorem lw_p23 : lw_okq (⟨"TakenNumbersModel", "readAll", "()I"⟩, 30) := ⟨⟨by decide +kernel, by decide +kernel⟩, List.mem_of_getElem? (i := 939) (by decide +kernel), List.mem_of_getElem? (i := 1061) (by decide +kernel), List.mem_of_getElem? (i := 1062) (by decide +kernel)⟩
theorem lw_p24 : lw_okq (⟨"TakenNumbersModel", "readItem", "(IZ)Z"⟩, 30) := ⟨⟨by decide +kernel, by decide +kernel⟩, List.mem_of_getElem? (i := 939) (by decide +kernel), List.mem_of_getElem? (i := 1065) (by decide +kernel), List.mem_of_getElem? (i := 1066) (by decide +kernel)⟩
theorem lw_p25 : lw_okq (⟨"TakenNumbersModel", "areNumbers", "(I)Z"⟩, 30) := ⟨⟨by decide +kernel, by decide +kernel⟩, List.mem_of_getElem? (i := 939) (by decide +kernel), List.mem_of_getElem? (i := 1069) (by decide +kernel), List.mem_of_getElem? (i := 1070) (by decide +kernel)⟩
theorem lw_p26 : lw_okq (⟨"TakenNumbersModel", "isFigure", "()Z"⟩, 30) := ⟨⟨by decide +kernel, by decide +kernel⟩, List.mem_of_getElem? (i := 939) (by decide +kernel), List.mem_of_getElem? (i := 1073) (by decide +kernel), List.mem_of_getElem? (i := 1074) (by decide +kernel)⟩
theorem lw_p27 : lw_okq (⟨"TakenNumbersModel", "noNumber", "(I)Z"⟩, 30) := ⟨⟨by decide +kernel, by decide +kernel⟩, List.mem_of_getElem? (i := 939) (by decide +kernel), List.mem_of_getElem? (i := 1089) (by decide +kernel), List.mem_of_getElem? (i := 1090) (by decide +kernel)⟩
theorem lw_p28 : lw_okq (⟨"TakenNumbersModel", "noOne", "(I)Z"⟩, 30) := ⟨⟨by decide +kernel, by decide +kernel⟩, List.mem_of_getElem? (i := 939) (by decide +kernel), List.mem_of_getElem? (i := 1097) (by decide +kernel), List.mem_of_getElem? (i := 1098) (by decide +kernel)⟩
theorem lw_p29 : lw_okq (⟨"TakenNumbersModel", "mayOf", "(I)I"⟩, 30) := ⟨⟨by decide +kernel, by decide +kernel⟩, List.mem_of_getElem? (i := 939) (by decide +kernel), List.mem_of_getElem? (i := 1101) (by decide +kernel), List.mem_of_getElem? (i := 1102) (by decide +kernel)⟩
theorem lw_p30 : lw_okq (⟨"TakenNumbersModel", "ofOne", "(I)I"⟩, 30) := ⟨⟨by decide +kernel, by decide +kernel⟩, List.mem_of_getElem? (i := 939) (by decide +kernel), List.mem_of_getElem? (i := 1105) (by decide +kernel), List.mem_of_getElem? (i := 1106) (by decide +kernel)⟩
theorem lw_p31 : lw_okq (⟨"TakenNumbersModel", "taken", "()I"⟩, 30) := ⟨⟨by decide +kernel, by decide +kernel⟩, List.mem_of_getElem? (i := 939) (by decide +kernel), List.mem_of_getElem? (i := 1109) (by decide +kernel), List.mem_of_getElem? (i := 1110) (by decide +kernel)⟩
def lw_privs_2 : List (MethodName × Nat) := [(⟨"TakenNumbers$Crowd", "ableAt", "(LTakenNumbers$Scene;III)I"⟩, 10), (⟨"TakenNumbers$Crowd", "record", "(III)V"⟩, 10), (⟨"TakenNumbers$Crowd", "getsWorse", "(LTakenNumbers$Scene;I)Z"⟩, 10), (⟨"TakenNumbers$WaySums", "join", "(II)V"⟩, 3), (⟨"TakenNumbers$Book", "readFrom", "(II)V"⟩, 6), (⟨"TakenNumbersModel", "begin", "()V"⟩, 30), (⟨"TakenNumbersModel", "dawn", "(Z)V"⟩, 30), (⟨"TakenNumbersModel", "readAll", "()I"⟩, 30), (⟨"TakenNumbersModel", "readItem", "(IZ)Z"⟩, 30), (⟨"TakenNumbersModel", "areNumbers", "(I)Z"⟩, 30), (⟨"TakenNumbersModel", "isFigure", "()Z"⟩, 30), (⟨"TakenNumbersModel", "noNumber", "(I)Z"⟩, 30), (⟨"TakenNumbersModel", "noOne", "(I)Z"⟩, 30), (⟨"TakenNumbersModel", "mayOf", "(I)I"⟩, 30), (⟨"TakenNumbersModel", "ofOne", "(I)I"⟩, 30), (⟨"TakenNumbersModel", "taken", "()I"⟩, 30)]
theorem lw_r2 : ∀ q ∈ lw_privs_2, lw_okq q := List.forall_mem_cons.mpr ⟨lw_p16, List.forall_mem_cons.mpr ⟨lw_p17, List.forall_mem_cons.mpr ⟨lw_p18, List.forall_mem_cons.mpr ⟨lw_p19, List.forall_mem_cons.mpr ⟨lw_p20, List.forall_mem_cons.mpr ⟨lw_p21, List.forall_mem_cons.mpr ⟨lw_p22, List.forall_mem_cons.mpr ⟨lw_p23, List.forall_mem_cons.mpr ⟨lw_p24, List.forall_mem_cons.mpr ⟨lw_p25, List.forall_mem_cons.mpr ⟨lw_p26, List.forall_mem_cons.mpr ⟨lw_p27, List.forall_mem_cons.mpr ⟨lw_p28, List.forall_mem_cons.mpr ⟨lw_p29, List.forall_mem_cons.mpr ⟨lw_p30, List.forall_mem_cons.mpr ⟨lw_p31, fun _ h => absurd h List.not_mem_nil⟩⟩⟩⟩⟩⟩⟩⟩⟩⟩⟩⟩⟩⟩⟩⟩
theorem lw_p32 : lw_okq (⟨"TakenNumbersModel", "sumOfWords", "()I"⟩, 30) := ⟨⟨by decide +kernel, by decide +kernel⟩, List.mem_of_getElem? (i := 939) (by decide +kernel), List.mem_of_getElem? (i := 1130) (by decide +kernel), List.mem_of_getElem? (i := 1131) (by decide +kernel)⟩
theorem lw_p33 : lw_okq (⟨"TakenNumbersModel", "priceOfWords", "()I"⟩, 30) := ⟨⟨by decide +kernel, by decide +kernel⟩, List.mem_of_getElem? (i := 939) (by decide +kernel), List.mem_of_getElem? (i := 1137) (by decide +kernel), List.mem_of_getElem? (i := 1138) (by decide +kernel)⟩
theorem lw_p34 : lw_okq (⟨"TakenNumbersModel", "priceOf", "(II)I"⟩, 30) := ⟨⟨by decide +kernel, by decide +kernel⟩, List.mem_of_getElem? (i := 939) (by decide +kernel), List.mem_of_getElem? (i := 1141) (by decide +kernel), List.mem_of_getElem? (i := 1142) (by decide +kernel)⟩
theorem lw_p35 : lw_okq (⟨"TakenNumbersModel", "isSaying", "()Z"⟩, 30) := ⟨⟨by decide +kernel, by decide +kernel⟩, List.mem_of_getElem? (i := 939) (by decide +kernel), List.mem_of_getElem? (i := 1145) (by decide +kernel), List.mem_of_getElem? (i := 1146) (by decide +kernel)⟩
theorem lw_p36 : lw_okq (⟨"TakenNumbersModel", "keepDay", "()V"⟩, 30) := ⟨⟨by decide +kernel, by decide +kernel⟩, List.mem_of_getElem? (i := 939) (by decide +kernel), List.mem_of_getElem? (i := 1156) (by decide +kernel), List.mem_of_getElem? (i := 1157) (by decide +kernel)⟩
theorem lw_p37 : lw_okq (⟨"TakenNumbersModel", "take", "(II)V"⟩, 30) := ⟨⟨by decide +kernel, by decide +kernel⟩, List.mem_of_getElem? (i := 939) (by decide +kernel), List.mem_of_getElem? (i := 1160) (by decide +kernel), List.mem_of_getElem? (i := 1161) (by decide +kernel)⟩
theorem lw_p38 : lw_okq (⟨"TakenNumbersModel", "bestOf", "(III)I"⟩, 30) := ⟨⟨by decide +kernel, by decide +kernel⟩, List.mem_of_getElem? (i := 939) (by decide +kernel), List.mem_of_getElem? (i := 1168) (by decide +kernel), List.mem_of_getElem? (i := 1169) (by decide +kernel)⟩
theorem lw_p39 : lw_okq (⟨"TakenNumbersModel", "layTable", "(II)V"⟩, 30) := ⟨⟨by decide +kernel, by decide +kernel⟩, List.mem_of_getElem? (i := 939) (by decide +kernel), List.mem_of_getElem? (i := 1172) (by decide +kernel), List.mem_of_getElem? (i := 1173) (by decide +kernel)⟩
theorem lw_p40 : lw_okq (⟨"TakenNumbersModel", "laid", "(II)I"⟩, 30) := ⟨⟨by decide +kernel, by decide +kernel⟩, List.mem_of_getElem? (i := 939) (by decide +kernel), List.mem_of_getElem? (i := 1177) (by decide +kernel), List.mem_of_getElem? (i := 1178) (by decide +kernel)⟩
theorem lw_p41 : lw_okq (⟨"TakenNumbersModel", "by", "(IIII)I"⟩, 30) := ⟨⟨by decide +kernel, by decide +kernel⟩, List.mem_of_getElem? (i := 939) (by decide +kernel), List.mem_of_getElem? (i := 1183) (by decide +kernel), List.mem_of_getElem? (i := 1184) (by decide +kernel)⟩
theorem lw_p42 : lw_okq (⟨"TakenNumbersModel", "usedSet", "()I"⟩, 30) := ⟨⟨by decide +kernel, by decide +kernel⟩, List.mem_of_getElem? (i := 939) (by decide +kernel), List.mem_of_getElem? (i := 1187) (by decide +kernel), List.mem_of_getElem? (i := 1188) (by decide +kernel)⟩
theorem lw_p43 : lw_okq (⟨"TakenNumbersModel", "silent", "()I"⟩, 30) := ⟨⟨by decide +kernel, by decide +kernel⟩, List.mem_of_getElem? (i := 939) (by decide +kernel), List.mem_of_getElem? (i := 1220) (by decide +kernel), List.mem_of_getElem? (i := 1221) (by decide +kernel)⟩
theorem lw_p44 : lw_okq (⟨"TakenNumbersModel", "stuckOf", "(III)I"⟩, 30) := ⟨⟨by decide +kernel, by decide +kernel⟩, List.mem_of_getElem? (i := 939) (by decide +kernel), List.mem_of_getElem? (i := 1224) (by decide +kernel), List.mem_of_getElem? (i := 1225) (by decide +kernel)⟩
theorem lw_p45 : lw_okq (⟨"TakenNumbersModel", "hasBest", "(III)Z"⟩, 30) := ⟨⟨by decide +kernel, by decide +kernel⟩, List.mem_of_getElem? (i := 939) (by decide +kernel), List.mem_of_getElem? (i := 1228) (by decide +kernel), List.mem_of_getElem? (i := 1229) (by decide +kernel)⟩
theorem lw_p46 : lw_okq (⟨"TakenNumbersModel", "layOrder", "()V"⟩, 30) := ⟨⟨by decide +kernel, by decide +kernel⟩, List.mem_of_getElem? (i := 939) (by decide +kernel), List.mem_of_getElem? (i := 1242) (by decide +kernel), List.mem_of_getElem? (i := 1243) (by decide +kernel)⟩
theorem lw_p47 : lw_okq (⟨"TakenNumbersModel", "isAhead", "(II)Z"⟩, 30) := ⟨⟨by decide +kernel, by decide +kernel⟩, List.mem_of_getElem? (i := 939) (by decide +kernel), List.mem_of_getElem? (i := 1246) (by decide +kernel), List.mem_of_getElem? (i := 1247) (by decide +kernel)⟩
def lw_privs_3 : List (MethodName × Nat) := [(⟨"TakenNumbersModel", "sumOfWords", "()I"⟩, 30), (⟨"TakenNumbersModel", "priceOfWords", "()I"⟩, 30), (⟨"TakenNumbersModel", "priceOf", "(II)I"⟩, 30), (⟨"TakenNumbersModel", "isSaying", "()Z"⟩, 30), (⟨"TakenNumbersModel", "keepDay", "()V"⟩, 30), (⟨"TakenNumbersModel", "take", "(II)V"⟩, 30), (⟨"TakenNumbersModel", "bestOf", "(III)I"⟩, 30), (⟨"TakenNumbersModel", "layTable", "(II)V"⟩, 30), (⟨"TakenNumbersModel", "laid", "(II)I"⟩, 30), (⟨"TakenNumbersModel", "by", "(IIII)I"⟩, 30), (⟨"TakenNumbersModel", "usedSet", "()I"⟩, 30), (⟨"TakenNumbersModel", "silent", "()I"⟩, 30), (⟨"TakenNumbersModel", "stuckOf", "(III)I"⟩, 30), (⟨"TakenNumbersModel", "hasBest", "(III)Z"⟩, 30), (⟨"TakenNumbersModel", "layOrder", "()V"⟩, 30), (⟨"TakenNumbersModel", "isAhead", "(II)Z"⟩, 30)]
theorem lw_r3 : ∀ q ∈ lw_privs_3, lw_okq q := List.forall_mem_cons.mpr ⟨lw_p32, List.forall_mem_cons.mpr ⟨lw_p33, List.forall_mem_cons.mpr ⟨lw_p34, List.forall_mem_cons.mpr ⟨lw_p35, List.forall_mem_cons.mpr ⟨lw_p36, List.forall_mem_cons.mpr ⟨lw_p37, List.forall_mem_cons.mpr ⟨lw_p38, List.forall_mem_cons.mpr ⟨lw_p39, List.forall_mem_cons.mpr ⟨lw_p40, List.forall_mem_cons.mpr ⟨lw_p41, List.forall_mem_cons.mpr ⟨lw_p42, List.forall_mem_cons.mpr ⟨lw_p43, List.forall_mem_cons.mpr ⟨lw_p44, List.forall_mem_cons.mpr ⟨lw_p45, List.forall_mem_cons.mpr ⟨lw_p46, List.forall_mem_cons.mpr ⟨lw_p47, fun _ h => absurd h List.not_mem_nil⟩⟩⟩⟩⟩⟩⟩⟩⟩⟩⟩⟩⟩⟩⟩⟩
theorem lw_p48 : lw_okq (⟨"TakenNumbersModel", "noSet", "(I)Z"⟩, 30) := ⟨⟨by decide +kernel, by decide +kernel⟩, List.mem_of_getElem? (i := 939) (by decide +kernel), List.mem_of_getElem? (i := 1270) (by decide +kernel), List.mem_of_getElem? (i := 1271) (by decide +kernel)⟩
theorem lw_p49 : lw_okq (⟨"TakenNumbersModel", "waysOf", "(III)I"⟩, 30) := ⟨⟨by decide +kernel, by decide +kernel⟩, List.mem_of_getElem? (i := 939) (by decide +kernel), List.mem_of_getElem? (i := 1274) (by decide +kernel), List.mem_of_getElem? (i := 1275) (by decide +kernel)⟩
theorem lw_p50 : lw_okq (⟨"TakenNumbersModel", "readingsBy", "(II)I"⟩, 30) := ⟨⟨by decide +kernel, by decide +kernel⟩, List.mem_of_getElem? (i := 939) (by decide +kernel), List.mem_of_getElem? (i := 1295) (by decide +kernel), List.mem_of_getElem? (i := 1296) (by decide +kernel)⟩
def lw_privs_4 : List (MethodName × Nat) := [(⟨"TakenNumbersModel", "noSet", "(I)Z"⟩, 30), (⟨"TakenNumbersModel", "waysOf", "(III)I"⟩, 30), (⟨"TakenNumbersModel", "readingsBy", "(II)I"⟩, 30)]
theorem lw_r4 : ∀ q ∈ lw_privs_4, lw_okq q := List.forall_mem_cons.mpr ⟨lw_p48, List.forall_mem_cons.mpr ⟨lw_p49, List.forall_mem_cons.mpr ⟨lw_p50, fun _ h => absurd h List.not_mem_nil⟩⟩⟩
def lw_privs : List (MethodName × Nat) := lw_privs_1 ++ (lw_privs_2 ++ (lw_privs_3 ++ (lw_privs_4)))
def lw_tbl : List Cond := k2_sels lw_privs ++ tables_1
theorem lw_privs_ok : ∀ q ∈ lw_privs, lw_okq q := by
  show ∀ q ∈ lw_privs_1 ++ (lw_privs_2 ++ (lw_privs_3 ++ (lw_privs_4))), lw_okq q
  exact List.forall_mem_append.mpr ⟨lw_r1, List.forall_mem_append.mpr ⟨lw_r2, List.forall_mem_append.mpr ⟨lw_r3, lw_r4⟩⟩⟩
def R_law : String := "TakenNumbersLaw"
def TT : List Cond := lw_tbl.filter goodWord
theorem mt {i : Nat} {w : Cond} (h : lw_tbl[i]? = some w) (hg : goodWord w = true) : w ∈ TT := List.mem_filter.mpr ⟨List.mem_of_getElem? h, hg⟩
theorem TT_good : ∀ w ∈ TT, (w.onTables && w.keeps) = true ∨ ∃ ty, w = .arrayClass ty := fun w h => good_of_word (List.mem_filter.mp h).2
theorem TT_in {cd : Cond} (h : cd ∈ TT) : GoodIn TT (cd :: TT) := fun w hw => by
  rcases List.mem_cons.mp hw with e | e
  · subst e; exact ⟨h, TT_good _ h⟩
  · exact ⟨e, TT_good _ e⟩
def RX0 : String := "TakenNumbers$Book"
def TX0 : u_T := fun k => match k with
  | 0 => ("TakenNumbers$Book", "size", "I", false)
  | 1 => ("TakenNumbers$Book", "readings", "I", false)
  | 2 => ("TakenNumbers$Book", "rows", "[I", true)
  | 3 => ("TakenNumbers$Book", "canBe", "[I", true)
  | 4 => ("TakenNumbers$Book", "wasOf", "[I", true)
  | _ => ("TakenNumbers$Book", "isOf", "[I", true)
def tX0 : Nat → FieldType := fun k => match k with
  | 0 => .int
  | 1 => .int
  | 2 => .array .int
  | 3 => .array .int
  | 4 => .array .int
  | _ => .array .int
theorem tX0_ok : ∀ k, k < 6 → parseFieldDescriptor (TX0 k).2.2.1 = some (tX0 k) := by decide +kernel
theorem nX0 : ∀ a, a < 6 → ∀ b, b < 6 → a ≠ b → (TX0 a).2.1 ≠ (TX0 b).2.1 := by decide +kernel
theorem iX0 : ∀ k, k < 6 → (lw_tbl[([231, 233, 235, 237, 239, 241] : List Nat).getD k 0]? = some (u_lay RX0 TX0 k) ∧ goodWord (u_lay RX0 TX0 k) = true) := by decide +kernel
theorem wX0 : ∀ w ∈ u_ws RX0 TX0 6, w ∈ TT := fun w hw => by
  obtain ⟨k, hk, e⟩ := List.mem_map.mp hw
  rw [← e]
  exact mt (iX0 k (List.mem_range.mp hk)).1 (iX0 k (List.mem_range.mp hk)).2
def RX1 : String := "TakenNumbers$Crowd"
def TX1 : u_T := fun k => match k with
  | 0 => ("TakenNumbers$Crowd", "mostStuck", "I", false)
  | 1 => ("TakenNumbers$Crowd", "lower", "I", false)
  | 2 => ("TakenNumbers$Crowd", "higher", "I", false)
  | 3 => ("TakenNumbers$Crowd", "cornerAmount", "I", false)
  | 4 => ("TakenNumbers$Crowd", "mostCan", "I", false)
  | 5 => ("TakenNumbers$Crowd", "bestRow", "[I", true)
  | 6 => ("TakenNumbers$Crowd", "sayings", "LTakenNumbers$Sayings;", true)
  | 7 => ("TakenNumbers$Crowd", "usedFor", "[I", true)
  | 8 => ("TakenNumbers$Crowd", "row", "[I", true)
  | _ => ("TakenNumbers$Crowd", "usedAt", "[I", true)
def tX1 : Nat → FieldType := fun k => match k with
  | 0 => .int
  | 1 => .int
  | 2 => .int
  | 3 => .int
  | 4 => .int
  | 5 => .array .int
  | 6 => .object "TakenNumbers$Sayings"
  | 7 => .array .int
  | 8 => .array .int
  | _ => .array .int
theorem tX1_ok : ∀ k, k < 10 → parseFieldDescriptor (TX1 k).2.2.1 = some (tX1 k) := by decide +kernel
theorem nX1 : ∀ a, a < 10 → ∀ b, b < 10 → a ≠ b → (TX1 a).2.1 ≠ (TX1 b).2.1 := by decide +kernel
theorem iX1 : ∀ k, k < 10 → (lw_tbl[([400, 402, 404, 406, 408, 410, 412, 414, 416, 418] : List Nat).getD k 0]? = some (u_lay RX1 TX1 k) ∧ goodWord (u_lay RX1 TX1 k) = true) := by decide +kernel
theorem wX1 : ∀ w ∈ u_ws RX1 TX1 10, w ∈ TT := fun w hw => by
  obtain ⟨k, hk, e⟩ := List.mem_map.mp hw
  rw [← e]
  exact mt (iX1 k (List.mem_range.mp hk)).1 (iX1 k (List.mem_range.mp hk)).2
def RX2 : String := "TakenNumbers$Day"
def TX2 : u_T := fun k => match k with
  | 0 => ("TakenNumbers$Day", "takenBy", "[I", true)
  | 1 => ("TakenNumbers$Day", "lentTo", "[I", true)
  | 2 => ("TakenNumbers$Day", "said", "I", false)
  | 3 => ("TakenNumbers$Day", "births", "I", false)
  | _ => ("TakenNumbers$Day", "feast", "Z", false)
def tX2 : Nat → FieldType := fun k => match k with
  | 0 => .array .int
  | 1 => .array .int
  | 2 => .int
  | 3 => .int
  | _ => .boolean
theorem tX2_ok : ∀ k, k < 5 → parseFieldDescriptor (TX2 k).2.2.1 = some (tX2 k) := by decide +kernel
theorem nX2 : ∀ a, a < 5 → ∀ b, b < 5 → a ≠ b → (TX2 a).2.1 ≠ (TX2 b).2.1 := by decide +kernel
theorem iX2 : ∀ k, k < 5 → (lw_tbl[([169, 171, 173, 175, 177] : List Nat).getD k 0]? = some (u_lay RX2 TX2 k) ∧ goodWord (u_lay RX2 TX2 k) = true) := by decide +kernel
theorem wX2 : ∀ w ∈ u_ws RX2 TX2 5, w ∈ TT := fun w hw => by
  obtain ⟨k, hk, e⟩ := List.mem_map.mp hw
  rw [← e]
  exact mt (iX2 k (List.mem_range.mp hk)).1 (iX2 k (List.mem_range.mp hk)).2
def RX3 : String := "TakenNumbers$DayStack"
def TX3 : u_T := fun k => match k with
  | 0 => ("TakenNumbers$DayStack", "size", "I", false)
  | _ => ("TakenNumbers$DayStack", "days", "[LTakenNumbers$Day;", true)
def tX3 : Nat → FieldType := fun k => match k with
  | 0 => .int
  | _ => .array (.object "TakenNumbers$Day")
theorem tX3_ok : ∀ k, k < 2 → parseFieldDescriptor (TX3 k).2.2.1 = some (tX3 k) := by decide +kernel
theorem nX3 : ∀ a, a < 2 → ∀ b, b < 2 → a ≠ b → (TX3 a).2.1 ≠ (TX3 b).2.1 := by decide +kernel
theorem iX3 : ∀ k, k < 2 → (lw_tbl[([195, 197] : List Nat).getD k 0]? = some (u_lay RX3 TX3 k) ∧ goodWord (u_lay RX3 TX3 k) = true) := by decide +kernel
theorem wX3 : ∀ w ∈ u_ws RX3 TX3 2, w ∈ TT := fun w hw => by
  obtain ⟨k, hk, e⟩ := List.mem_map.mp hw
  rw [← e]
  exact mt (iX3 k (List.mem_range.mp hk)).1 (iX3 k (List.mem_range.mp hk)).2
def RX4 : String := "TakenNumbers$Port"
def TX4 : u_T := fun k => match k with
  | 0 => ("TakenNumbers$Port", "numbers", "I", false)
  | 1 => ("TakenNumbers$Port", "persons", "I", false)
  | 2 => ("TakenNumbers$Port", "kind", "I", false)
  | 3 => ("TakenNumbers$Port", "lessCost", "I", false)
  | 4 => ("TakenNumbers$Port", "halfCost", "I", false)
  | 5 => ("TakenNumbers$Port", "cost", "[I", true)
  | 6 => ("TakenNumbers$Port", "owned", "[I", true)
  | _ => ("TakenNumbers$Port", "amount", "[I", true)
def tX4 : Nat → FieldType := fun k => match k with
  | 0 => .int
  | 1 => .int
  | 2 => .int
  | 3 => .int
  | 4 => .int
  | 5 => .array .int
  | 6 => .array .int
  | _ => .array .int
theorem tX4_ok : ∀ k, k < 8 → parseFieldDescriptor (TX4 k).2.2.1 = some (tX4 k) := by decide +kernel
theorem nX4 : ∀ a, a < 8 → ∀ b, b < 8 → a ≠ b → (TX4 a).2.1 ≠ (TX4 b).2.1 := by decide +kernel
theorem iX4 : ∀ k, k < 8 → (lw_tbl[([134, 136, 138, 140, 142, 144, 146, 148] : List Nat).getD k 0]? = some (u_lay RX4 TX4 k) ∧ goodWord (u_lay RX4 TX4 k) = true) := by decide +kernel
theorem wX4 : ∀ w ∈ u_ws RX4 TX4 8, w ∈ TT := fun w hw => by
  obtain ⟨k, hk, e⟩ := List.mem_map.mp hw
  rw [← e]
  exact mt (iX4 k (List.mem_range.mp hk)).1 (iX4 k (List.mem_range.mp hk)).2
def RX5 : String := "TakenNumbers$Sayings"
def TX5 : u_T := fun k => match k with
  | 0 => ("TakenNumbers$Sayings", "table", "LTakenNumbers$Table;", true)
  | 1 => ("TakenNumbers$Sayings", "mays", "[I", true)
  | 2 => ("TakenNumbers$Sayings", "kinds", "[I", true)
  | 3 => ("TakenNumbers$Sayings", "ands", "[I", true)
  | 4 => ("TakenNumbers$Sayings", "lesses", "[I", true)
  | 5 => ("TakenNumbers$Sayings", "halves", "[I", true)
  | 6 => ("TakenNumbers$Sayings", "prices", "[I", true)
  | 7 => ("TakenNumbers$Sayings", "turn", "[I", true)
  | _ => ("TakenNumbers$Sayings", "found", "I", false)
def tX5 : Nat → FieldType := fun k => match k with
  | 0 => .object "TakenNumbers$Table"
  | 1 => .array .int
  | 2 => .array .int
  | 3 => .array .int
  | 4 => .array .int
  | 5 => .array .int
  | 6 => .array .int
  | 7 => .array .int
  | _ => .int
theorem tX5_ok : ∀ k, k < 9 → parseFieldDescriptor (TX5 k).2.2.1 = some (tX5 k) := by decide +kernel
theorem nX5 : ∀ a, a < 9 → ∀ b, b < 9 → a ≠ b → (TX5 a).2.1 ≠ (TX5 b).2.1 := by decide +kernel
theorem iX5 : ∀ k, k < 9 → (lw_tbl[([322, 324, 326, 328, 330, 332, 334, 336, 338] : List Nat).getD k 0]? = some (u_lay RX5 TX5 k) ∧ goodWord (u_lay RX5 TX5 k) = true) := by decide +kernel
theorem wX5 : ∀ w ∈ u_ws RX5 TX5 9, w ∈ TT := fun w hw => by
  obtain ⟨k, hk, e⟩ := List.mem_map.mp hw
  rw [← e]
  exact mt (iX5 k (List.mem_range.mp hk)).1 (iX5 k (List.mem_range.mp hk)).2
def RX6 : String := "TakenNumbers$Scene"
def TX6 : u_T := fun k => match k with
  | 0 => ("TakenNumbers$Scene", "who", "I", false)
  | 1 => ("TakenNumbers$Scene", "all", "I", false)
  | 2 => ("TakenNumbers$Scene", "taken", "I", false)
  | 3 => ("TakenNumbers$Scene", "nobodys", "I", false)
  | 4 => ("TakenNumbers$Scene", "kind", "I", false)
  | 5 => ("TakenNumbers$Scene", "amount", "[I", true)
  | _ => ("TakenNumbers$Scene", "own", "[I", true)
def tX6 : Nat → FieldType := fun k => match k with
  | 0 => .int
  | 1 => .int
  | 2 => .int
  | 3 => .int
  | 4 => .int
  | 5 => .array .int
  | _ => .array .int
theorem tX6_ok : ∀ k, k < 7 → parseFieldDescriptor (TX6 k).2.2.1 = some (tX6 k) := by decide +kernel
theorem nX6 : ∀ a, a < 7 → ∀ b, b < 7 → a ≠ b → (TX6 a).2.1 ≠ (TX6 b).2.1 := by decide +kernel
theorem iX6 : ∀ k, k < 7 → (lw_tbl[([363, 365, 367, 369, 371, 373, 375] : List Nat).getD k 0]? = some (u_lay RX6 TX6 k) ∧ goodWord (u_lay RX6 TX6 k) = true) := by decide +kernel
theorem wX6 : ∀ w ∈ u_ws RX6 TX6 7, w ∈ TT := fun w hw => by
  obtain ⟨k, hk, e⟩ := List.mem_map.mp hw
  rw [← e]
  exact mt (iX6 k (List.mem_range.mp hk)).1 (iX6 k (List.mem_range.mp hk)).2
def RX7 : String := "TakenNumbers$Table"
def TX7 : u_T := fun k => match k with
  | 0 => ("TakenNumbers$Table", "ands", "I", false)
  | 1 => ("TakenNumbers$Table", "lesses", "I", false)
  | 2 => ("TakenNumbers$Table", "halves", "I", false)
  | 3 => ("TakenNumbers$Table", "price", "I", false)
  | 4 => ("TakenNumbers$Table", "least", "[I", true)
  | 5 => ("TakenNumbers$Table", "low", "[I", true)
  | 6 => ("TakenNumbers$Table", "high", "[I", true)
  | 7 => ("TakenNumbers$Table", "numbers", "[I", true)
  | 8 => ("TakenNumbers$Table", "prices", "[I", true)
  | 9 => ("TakenNumbers$Table", "size", "I", false)
  | 10 => ("TakenNumbers$Table", "builtMay", "I", false)
  | _ => ("TakenNumbers$Table", "builtKind", "I", false)
def tX7 : Nat → FieldType := fun k => match k with
  | 0 => .int
  | 1 => .int
  | 2 => .int
  | 3 => .int
  | 4 => .array .int
  | 5 => .array .int
  | 6 => .array .int
  | 7 => .array .int
  | 8 => .array .int
  | 9 => .int
  | 10 => .int
  | _ => .int
theorem tX7_ok : ∀ k, k < 12 → parseFieldDescriptor (TX7 k).2.2.1 = some (tX7 k) := by decide +kernel
theorem nX7 : ∀ a, a < 12 → ∀ b, b < 12 → a ≠ b → (TX7 a).2.1 ≠ (TX7 b).2.1 := by decide +kernel
theorem iX7 : ∀ k, k < 12 → (lw_tbl[([288, 290, 292, 294, 296, 298, 300, 302, 304, 306, 308, 310] : List Nat).getD k 0]? = some (u_lay RX7 TX7 k) ∧ goodWord (u_lay RX7 TX7 k) = true) := by decide +kernel
theorem wX7 : ∀ w ∈ u_ws RX7 TX7 12, w ∈ TT := fun w hw => by
  obtain ⟨k, hk, e⟩ := List.mem_map.mp hw
  rw [← e]
  exact mt (iX7 k (List.mem_range.mp hk)).1 (iX7 k (List.mem_range.mp hk)).2
def RX8 : String := "TakenNumbers$Text"
def TX8 : u_T := fun k => match k with
  | 0 => ("TakenNumbers$Text", "length", "I", false)
  | 1 => ("TakenNumbers$Text", "letters", "[C", true)
  | 2 => ("TakenNumbers$Text", "told", "[I", true)
  | 3 => ("TakenNumbers$Text", "at", "I", false)
  | _ => ("TakenNumbers$Text", "onlyN", "Z", false)
def tX8 : Nat → FieldType := fun k => match k with
  | 0 => .int
  | 1 => .array .char
  | 2 => .array .int
  | 3 => .int
  | _ => .boolean
theorem tX8_ok : ∀ k, k < 5 → parseFieldDescriptor (TX8 k).2.2.1 = some (tX8 k) := by decide +kernel
theorem nX8 : ∀ a, a < 5 → ∀ b, b < 5 → a ≠ b → (TX8 a).2.1 ≠ (TX8 b).2.1 := by decide +kernel
theorem iX8 : ∀ k, k < 5 → (lw_tbl[([92, 94, 96, 98, 100] : List Nat).getD k 0]? = some (u_lay RX8 TX8 k) ∧ goodWord (u_lay RX8 TX8 k) = true) := by decide +kernel
theorem wX8 : ∀ w ∈ u_ws RX8 TX8 5, w ∈ TT := fun w hw => by
  obtain ⟨k, hk, e⟩ := List.mem_map.mp hw
  rw [← e]
  exact mt (iX8 k (List.mem_range.mp hk)).1 (iX8 k (List.mem_range.mp hk)).2
def RX9 : String := "TakenNumbers$WaySums"
def TX9 : u_T := fun k => match k with
  | 0 => ("TakenNumbers$WaySums", "ways", "[I", false)
  | 1 => ("TakenNumbers$WaySums", "next", "[I", false)
  | _ => ("TakenNumbers$WaySums", "bound", "I", false)
def tX9 : Nat → FieldType := fun k => match k with
  | 0 => .array .int
  | 1 => .array .int
  | _ => .int
theorem tX9_ok : ∀ k, k < 3 → parseFieldDescriptor (TX9 k).2.2.1 = some (tX9 k) := by decide +kernel
theorem nX9 : ∀ a, a < 3 → ∀ b, b < 3 → a ≠ b → (TX9 a).2.1 ≠ (TX9 b).2.1 := by decide +kernel
theorem iX9 : ∀ k, k < 3 → (lw_tbl[([253, 255, 257] : List Nat).getD k 0]? = some (u_lay RX9 TX9 k) ∧ goodWord (u_lay RX9 TX9 k) = true) := by decide +kernel
theorem wX9 : ∀ w ∈ u_ws RX9 TX9 3, w ∈ TT := fun w hw => by
  obtain ⟨k, hk, e⟩ := List.mem_map.mp hw
  rw [← e]
  exact mt (iX9 k (List.mem_range.mp hk)).1 (iX9 k (List.mem_range.mp hk)).2
def RX10 : String := "TakenNumbers$Words"
def TX10 : u_T := fun k => match k with
  | 0 => ("TakenNumbers$Words", "size", "I", false)
  | 1 => ("TakenNumbers$Words", "numbers", "[I", true)
  | _ => ("TakenNumbers$Words", "uses", "[I", true)
def tX10 : Nat → FieldType := fun k => match k with
  | 0 => .int
  | 1 => .array .int
  | _ => .array .int
theorem tX10_ok : ∀ k, k < 3 → parseFieldDescriptor (TX10 k).2.2.1 = some (tX10 k) := by decide +kernel
theorem nX10 : ∀ a, a < 3 → ∀ b, b < 3 → a ≠ b → (TX10 a).2.1 ≠ (TX10 b).2.1 := by decide +kernel
theorem iX10 : ∀ k, k < 3 → (lw_tbl[([210, 212, 214] : List Nat).getD k 0]? = some (u_lay RX10 TX10 k) ∧ goodWord (u_lay RX10 TX10 k) = true) := by decide +kernel
theorem wX10 : ∀ w ∈ u_ws RX10 TX10 3, w ∈ TT := fun w hw => by
  obtain ⟨k, hk, e⟩ := List.mem_map.mp hw
  rw [← e]
  exact mt (iX10 k (List.mem_range.mp hk)).1 (iX10 k (List.mem_range.mp hk)).2
def RX11 : String := "TakenNumbers"
def TX11 : u_T := fun k => match k with
  | 0 => ("TakenNumbers", "text", "LTakenNumbers$Text;", true)
  | 1 => ("TakenNumbers", "port", "LTakenNumbers$Port;", false)
  | 2 => ("TakenNumbers", "draft", "LTakenNumbers$Port;", false)
  | 3 => ("TakenNumbers", "day", "LTakenNumbers$Day;", true)
  | 4 => ("TakenNumbers", "past", "LTakenNumbers$DayStack;", true)
  | 5 => ("TakenNumbers", "kept", "LTakenNumbers$DayStack;", true)
  | 6 => ("TakenNumbers", "theWords", "LTakenNumbers$Words;", true)
  | 7 => ("TakenNumbers", "theBook", "LTakenNumbers$Book;", true)
  | 8 => ("TakenNumbers", "waySums", "LTakenNumbers$WaySums;", true)
  | 9 => ("TakenNumbers", "sayings", "LTakenNumbers$Sayings;", true)
  | 10 => ("TakenNumbers", "scene", "LTakenNumbers$Scene;", true)
  | _ => ("TakenNumbers", "crowd", "LTakenNumbers$Crowd;", true)
def tX11 : Nat → FieldType := fun k => match k with
  | 0 => .object "TakenNumbers$Text"
  | 1 => .object "TakenNumbers$Port"
  | 2 => .object "TakenNumbers$Port"
  | 3 => .object "TakenNumbers$Day"
  | 4 => .object "TakenNumbers$DayStack"
  | 5 => .object "TakenNumbers$DayStack"
  | 6 => .object "TakenNumbers$Words"
  | 7 => .object "TakenNumbers$Book"
  | 8 => .object "TakenNumbers$WaySums"
  | 9 => .object "TakenNumbers$Sayings"
  | 10 => .object "TakenNumbers$Scene"
  | _ => .object "TakenNumbers$Crowd"
theorem tX11_ok : ∀ k, k < 12 → parseFieldDescriptor (TX11 k).2.2.1 = some (tX11 k) := by decide +kernel
theorem nX11 : ∀ a, a < 12 → ∀ b, b < 12 → a ≠ b → (TX11 a).2.1 ≠ (TX11 b).2.1 := by decide +kernel
theorem iX11 : ∀ k, k < 12 → (lw_tbl[([550, 552, 554, 556, 558, 560, 562, 564, 566, 568, 570, 572] : List Nat).getD k 0]? = some (u_lay RX11 TX11 k) ∧ goodWord (u_lay RX11 TX11 k) = true) := by decide +kernel
theorem wX11 : ∀ w ∈ u_ws RX11 TX11 12, w ∈ TT := fun w hw => by
  obtain ⟨k, hk, e⟩ := List.mem_map.mp hw
  rw [← e]
  exact mt (iX11 k (List.mem_range.mp hk)).1 (iX11 k (List.mem_range.mp hk)).2
def RX12 : String := "TakenNumbersModel"
def TX12 : u_T := fun k => match k with
  | 0 => ("TakenNumbersModel", "thrown", "I", false)
  | 1 => ("TakenNumbersModel", "port", "[I", true)
  | 2 => ("TakenNumbersModel", "fresh", "[I", true)
  | 3 => ("TakenNumbersModel", "day", "[I", true)
  | 4 => ("TakenNumbersModel", "was", "[I", true)
  | 5 => ("TakenNumbersModel", "undone", "I", false)
  | 6 => ("TakenNumbersModel", "kept", "[I", true)
  | 7 => ("TakenNumbersModel", "keeps", "I", false)
  | 8 => ("TakenNumbersModel", "text", "[I", true)
  | 9 => ("TakenNumbersModel", "size", "I", false)
  | 10 => ("TakenNumbersModel", "at", "I", false)
  | 11 => ("TakenNumbersModel", "figure", "[I", true)
  | 12 => ("TakenNumbersModel", "freed", "I", false)
  | 13 => ("TakenNumbersModel", "word", "[I", true)
  | 14 => ("TakenNumbersModel", "words", "I", false)
  | 15 => ("TakenNumbersModel", "table", "[I", true)
  | 16 => ("TakenNumbersModel", "ands", "I", false)
  | 17 => ("TakenNumbersModel", "lesses", "I", false)
  | 18 => ("TakenNumbersModel", "halves", "I", false)
  | 19 => ("TakenNumbersModel", "tried", "[I", true)
  | 20 => ("TakenNumbersModel", "gone", "[I", true)
  | 21 => ("TakenNumbersModel", "could", "[I", true)
  | 22 => ("TakenNumbersModel", "order", "[I", true)
  | 23 => ("TakenNumbersModel", "most", "I", false)
  | 24 => ("TakenNumbersModel", "sums", "[I", true)
  | 25 => ("TakenNumbersModel", "more", "[I", true)
  | 26 => ("TakenNumbersModel", "row", "[I", true)
  | 27 => ("TakenNumbersModel", "rows", "I", false)
  | 28 => ("TakenNumbersModel", "can", "[I", true)
  | _ => ("TakenNumbersModel", "readings", "[I", true)
def tX12 : Nat → FieldType := fun k => match k with
  | 0 => .int
  | 1 => .array .int
  | 2 => .array .int
  | 3 => .array .int
  | 4 => .array .int
  | 5 => .int
  | 6 => .array .int
  | 7 => .int
  | 8 => .array .int
  | 9 => .int
  | 10 => .int
  | 11 => .array .int
  | 12 => .int
  | 13 => .array .int
  | 14 => .int
  | 15 => .array .int
  | 16 => .int
  | 17 => .int
  | 18 => .int
  | 19 => .array .int
  | 20 => .array .int
  | 21 => .array .int
  | 22 => .array .int
  | 23 => .int
  | 24 => .array .int
  | 25 => .array .int
  | 26 => .array .int
  | 27 => .int
  | 28 => .array .int
  | _ => .array .int
theorem tX12_ok : ∀ k, k < 30 → parseFieldDescriptor (TX12 k).2.2.1 = some (tX12 k) := by decide +kernel
theorem nX12 : ∀ a, a < 30 → ∀ b, b < 30 → a ≠ b → (TX12 a).2.1 ≠ (TX12 b).2.1 := by decide +kernel
theorem iX12 : ∀ k, k < 30 → (lw_tbl[([1033, 1035, 1037, 1039, 1041, 1043, 1045, 1047, 1049, 1051, 1053, 1055, 1057, 1059, 1061, 1063, 1065, 1067, 1069, 1071, 1073, 1075, 1077, 1079, 1081, 1083, 1085, 1087, 1089, 1091] : List Nat).getD k 0]? = some (u_lay RX12 TX12 k) ∧ goodWord (u_lay RX12 TX12 k) = true) := by decide +kernel
theorem wX12 : ∀ w ∈ u_ws RX12 TX12 30, w ∈ TT := fun w hw => by
  obtain ⟨k, hk, e⟩ := List.mem_map.mp hw
  rw [← e]
  exact mt (iX12 k (List.mem_range.mp hk)).1 (iX12 k (List.mem_range.mp hk)).2
abbrev cls : List vw_C := [(RX0, TX0, 6), (RX1, TX1, 10), (RX2, TX2, 5), (RX3, TX3, 2), (RX4, TX4, 8), (RX5, TX5, 9), (RX6, TX6, 7), (RX7, TX7, 12), (RX8, TX8, 5), (RX9, TX9, 3), (RX10, TX10, 3), (RX11, TX11, 12), (RX12, TX12, 30)]
def kdl : List Nat := [99, 11, 8, 14, 13, 4, 13, 13, 13, 4, 13, 13, 13, 2, 13, 13, 3, 15, 2, 13, 13, 2, 13, 13, 2, 13, 13, 2, 13, 13, 2, 13, 13, 2, 13, 13, 2, 13, 13, 2, 13, 13, 3, 15, 2, 13, 13, 2, 13, 13, 10, 13, 13, 0, 13, 13, 13, 13, 9, 13, 13, 5, 7, 13, 13, 13, 13, 13, 13, 13, 13, 13, 13, 13, 13, 6, 13, 13, 1, 13, 13, 13, 13, 12, 16, 16, 16, 16, 16, 16, 16, 16, 16, 16, 16, 16, 16, 16, 16, 16, 16, 16]
def lnl : List Nat := [0, 12, 5, 200, 3, 8, 25, 6, 6, 8, 25, 6, 6, 5, 8, 6, 2, 8, 5, 8, 6, 5, 8, 6, 5, 8, 6, 5, 8, 6, 5, 8, 6, 5, 8, 6, 5, 8, 6, 5, 8, 6, 2, 2, 5, 8, 6, 5, 8, 6, 3, 10, 10, 6, 6, 6, 6, 6, 3, 601, 601, 9, 12, 15025, 25, 25, 24, 100, 800, 800, 800, 800, 800, 800, 100, 7, 6, 6, 10, 6, 100, 6, 36, 30, 59, 59, 51, 408, 102, 200, 3, 20, 15626, 7, 7, 7, 6, 601, 601, 6, 6, 64]
def nfl : List Nat := [6, 10, 5, 2, 8, 9, 7, 12, 5, 3, 3, 12, 30]
def frl : List (List Bool) := [[false, false, true, true, true, true], [false, false, false, false, false, true, true, true, true, true], [true, true, false, false, false], [false, true], [false, false, false, false, false, true, true, true], [true, true, true, true, true, true, true, true, false], [false, false, false, false, false, true, true], [false, false, false, false, true, true, true, true, true, false, false, false], [false, true, true, false, false], [true, true, false], [false, true, true], [true, true, true, true, true, true, true, true, true, true, true, true], [false, true, true, true, true, false, true, false, true, false, false, true, false, true, false, true, false, false, false, true, true, true, true, false, true, true, true, false, true, true]]
def NX : Nat := 82
def NT : Nat := 101
theorem cls_ok (ci : Nat) (C : String) (T : u_T) (N : Nat) (h : cls[ci]? = some (C, T, N)) : (∀ w ∈ u_ws C T N, w ∈ TT) ∧ nfl.getD ci 0 = N ∧ (∀ a, a < N → ∀ b, b < N → a ≠ b → (T a).2.1 ≠ (T b).2.1) ∧ ∃ ty0 : Nat → FieldType, ∀ k, k < N → parseFieldDescriptor (T k).2.2.1 = some (ty0 k) := by
  match ci, h with
  | 0, h => cases h; exact ⟨wX0, rfl, nX0, tX0, tX0_ok⟩
  | 1, h => cases h; exact ⟨wX1, rfl, nX1, tX1, tX1_ok⟩
  | 2, h => cases h; exact ⟨wX2, rfl, nX2, tX2, tX2_ok⟩
  | 3, h => cases h; exact ⟨wX3, rfl, nX3, tX3, tX3_ok⟩
  | 4, h => cases h; exact ⟨wX4, rfl, nX4, tX4, tX4_ok⟩
  | 5, h => cases h; exact ⟨wX5, rfl, nX5, tX5, tX5_ok⟩
  | 6, h => cases h; exact ⟨wX6, rfl, nX6, tX6, tX6_ok⟩
  | 7, h => cases h; exact ⟨wX7, rfl, nX7, tX7, tX7_ok⟩
  | 8, h => cases h; exact ⟨wX8, rfl, nX8, tX8, tX8_ok⟩
  | 9, h => cases h; exact ⟨wX9, rfl, nX9, tX9, tX9_ok⟩
  | 10, h => cases h; exact ⟨wX10, rfl, nX10, tX10, tX10_ok⟩
  | 11, h => cases h; exact ⟨wX11, rfl, nX11, tX11, tX11_ok⟩
  | 12, h => cases h; exact ⟨wX12, rfl, nX12, tX12, tX12_ok⟩
  | k + 13, h => simp [cls] at h
def yX0_init : MethodName := ⟨RX0, "<init>", "()V"⟩
abbrev bX0_init : ByteArray := prog_2_method_1_code
def yX0_append : MethodName := ⟨RX0, "append", "(I)Z"⟩
abbrev bX0_append : ByteArray := prog_2_method_2_code
def yX0_inTwoRows : MethodName := ⟨RX0, "inTwoRows", "()I"⟩
abbrev bX0_inTwoRows : ByteArray := prog_2_method_3_code
def yX0_read : MethodName := ⟨RX0, "read", "(LTakenNumbers$Port;LTakenNumbers$WaySums;)V"⟩
abbrev bX0_read : ByteArray := prog_2_method_4_code
def yX0_surePerson : MethodName := ⟨RX0, "surePerson", "(I)I"⟩
abbrev bX0_surePerson : ByteArray := prog_2_method_5_code
def yX0_readFrom : MethodName := ⟨RX0, "readFrom", "(II)V"⟩
abbrev bX0_readFrom : ByteArray := prog_2_method_6_code
def yX1_init : MethodName := ⟨RX1, "<init>", "(LTakenNumbers$Sayings;)V"⟩
abbrev bX1_init : ByteArray := prog_3_method_1_code
def yX1_stuckIn : MethodName := ⟨RX1, "stuckIn", "(LTakenNumbers$Scene;)I"⟩
abbrev bX1_stuckIn : ByteArray := prog_3_method_2_code
def yX1_denyOne : MethodName := ⟨RX1, "denyOne", "(LTakenNumbers$Scene;)Z"⟩
abbrev bX1_denyOne : ByteArray := prog_3_method_3_code
def yX1_denyTwo : MethodName := ⟨RX1, "denyTwo", "(LTakenNumbers$Scene;)Z"⟩
abbrev bX1_denyTwo : ByteArray := prog_3_method_4_code
def yX1_cornerBy : MethodName := ⟨RX1, "cornerBy", "(LTakenNumbers$Scene;I)Z"⟩
abbrev bX1_cornerBy : ByteArray := prog_3_method_5_code
def yX1_findOrder : MethodName := ⟨RX1, "findOrder", "(LTakenNumbers$Scene;)V"⟩
abbrev bX1_findOrder : ByteArray := prog_3_method_6_code
def yX1_getsWorse : MethodName := ⟨RX1, "getsWorse", "(LTakenNumbers$Scene;I)Z"⟩
abbrev bX1_getsWorse : ByteArray := prog_3_method_7_code
def yX1_search : MethodName := ⟨RX1, "search", "(LTakenNumbers$Scene;IIII)V"⟩
abbrev bX1_search : ByteArray := prog_3_method_8_code
def yX1_ableAt : MethodName := ⟨RX1, "ableAt", "(LTakenNumbers$Scene;III)I"⟩
abbrev bX1_ableAt : ByteArray := prog_3_method_9_code
def yX1_record : MethodName := ⟨RX1, "record", "(III)V"⟩
abbrev bX1_record : ByteArray := prog_3_method_10_code
def yX2_init : MethodName := ⟨RX2, "<init>", "()V"⟩
abbrev bX2_init : ByteArray := prog_4_method_1_code
def yX2_begin : MethodName := ⟨RX2, "begin", "(Z)V"⟩
abbrev bX2_begin : ByteArray := prog_4_method_2_code
def yX2_copy : MethodName := ⟨RX2, "copy", "(LTakenNumbers$Day;)V"⟩
abbrev bX2_copy : ByteArray := prog_4_method_3_code
def yX2_take : MethodName := ⟨RX2, "take", "(II)V"⟩
abbrev bX2_take : ByteArray := prog_4_method_4_code
def yX2_taken : MethodName := ⟨RX2, "taken", "()I"⟩
abbrev bX2_taken : ByteArray := prog_4_method_5_code
def yX2_lent : MethodName := ⟨RX2, "lent", "()I"⟩
abbrev bX2_lent : ByteArray := prog_4_method_6_code
def yX3_init : MethodName := ⟨RX3, "<init>", "(I)V"⟩
abbrev bX3_init : ByteArray := prog_5_method_1_code
def yX3_push : MethodName := ⟨RX3, "push", "(LTakenNumbers$Day;)V"⟩
abbrev bX3_push : ByteArray := prog_5_method_2_code
def yX3_pop : MethodName := ⟨RX3, "pop", "(LTakenNumbers$Day;)Z"⟩
abbrev bX3_pop : ByteArray := prog_5_method_3_code
def yX3_dropOldest : MethodName := ⟨RX3, "dropOldest", "()V"⟩
abbrev bX3_dropOldest : ByteArray := prog_5_method_4_code
def yX4_init : MethodName := ⟨RX4, "<init>", "()V"⟩
abbrev bX4_init : ByteArray := prog_6_method_1_code
def yX4_clear : MethodName := ⟨RX4, "clear", "()V"⟩
abbrev bX4_clear : ByteArray := prog_6_method_2_code
def yX4_isNumber : MethodName := ⟨RX4, "isNumber", "(I)Z"⟩
abbrev bX4_isNumber : ByteArray := prog_6_method_3_code
def yX4_isPerson : MethodName := ⟨RX4, "isPerson", "(I)Z"⟩
abbrev bX4_isPerson : ByteArray := prog_6_method_4_code
def yX4_isSet : MethodName := ⟨RX4, "isSet", "(I)Z"⟩
abbrev bX4_isSet : ByteArray := prog_6_method_5_code
def yX4_all : MethodName := ⟨RX4, "all", "()I"⟩
abbrev bX4_all : ByteArray := prog_6_method_6_code
def yX4_price : MethodName := ⟨RX4, "price", "(II)I"⟩
abbrev bX4_price : ByteArray := prog_6_method_7_code
def yX4_setNumbers : MethodName := ⟨RX4, "setNumbers", "(I)Z"⟩
abbrev bX4_setNumbers : ByteArray := prog_6_method_8_code
def yX4_setCost : MethodName := ⟨RX4, "setCost", "(II)Z"⟩
abbrev bX4_setCost : ByteArray := prog_6_method_9_code
def yX4_addPerson : MethodName := ⟨RX4, "addPerson", "(I)Z"⟩
abbrev bX4_addPerson : ByteArray := prog_6_method_10_code
def yX4_setOwner : MethodName := ⟨RX4, "setOwner", "(II)Z"⟩
abbrev bX4_setOwner : ByteArray := prog_6_method_11_code
def yX4_setLaw : MethodName := ⟨RX4, "setLaw", "(III)Z"⟩
abbrev bX4_setLaw : ByteArray := prog_6_method_12_code
def yX5_init : MethodName := ⟨RX5, "<init>", "()V"⟩
abbrev bX5_init : ByteArray := prog_7_method_1_code
def yX5_forget : MethodName := ⟨RX5, "forget", "(LTakenNumbers$Port;)V"⟩
abbrev bX5_forget : ByteArray := prog_7_method_2_code
def yX5_find : MethodName := ⟨RX5, "find", "(III)I"⟩
abbrev bX5_find : ByteArray := prog_7_method_3_code
def yX5_price : MethodName := ⟨RX5, "price", "()I"⟩
abbrev bX5_price : ByteArray := prog_7_method_4_code
def yX5_inUse : MethodName := ⟨RX5, "inUse", "(I)I"⟩
abbrev bX5_inUse : ByteArray := prog_7_method_5_code
def yX5_used : MethodName := ⟨RX5, "used", "(I)I"⟩
abbrev bX5_used : ByteArray := prog_7_method_6_code
def yX5_oneOf : MethodName := ⟨RX5, "oneOf", "(I)I"⟩
abbrev bX5_oneOf : ByteArray := prog_7_method_7_code
def yX6_init : MethodName := ⟨RX6, "<init>", "()V"⟩
abbrev bX6_init : ByteArray := prog_8_method_1_code
def yX6_setNow : MethodName := ⟨RX6, "setNow", "(LTakenNumbers$Port;LTakenNumbers$Day;)V"⟩
abbrev bX6_setNow : ByteArray := prog_8_method_2_code
def yX6_setDrawn : MethodName := ⟨RX6, "setDrawn", "(LTakenNumbers$Port;II)V"⟩
abbrev bX6_setDrawn : ByteArray := prog_8_method_3_code
def yX6_mayUse : MethodName := ⟨RX6, "mayUse", "(II)I"⟩
abbrev bX6_mayUse : ByteArray := prog_8_method_4_code
def yX6_setFree : MethodName := ⟨RX6, "setFree", "(LTakenNumbers$Port;)V"⟩
abbrev bX6_setFree : ByteArray := prog_8_method_5_code
def yX7_init : MethodName := ⟨RX7, "<init>", "()V"⟩
abbrev bX7_init : ByteArray := prog_9_method_1_code
def yX7_setPort : MethodName := ⟨RX7, "setPort", "(LTakenNumbers$Port;)V"⟩
abbrev bX7_setPort : ByteArray := prog_9_method_2_code
def yX7_build : MethodName := ⟨RX7, "build", "(II)V"⟩
abbrev bX7_build : ByteArray := prog_9_method_3_code
def yX7_pick : MethodName := ⟨RX7, "pick", "(I)V"⟩
abbrev bX7_pick : ByteArray := prog_9_method_4_code
def yX7_listNumbers : MethodName := ⟨RX7, "listNumbers", "()V"⟩
abbrev bX7_listNumbers : ByteArray := prog_9_method_5_code
def yX7_setBounds : MethodName := ⟨RX7, "setBounds", "()V"⟩
abbrev bX7_setBounds : ByteArray := prog_9_method_6_code
def yX7_spread : MethodName := ⟨RX7, "spread", "(III)V"⟩
abbrev bX7_spread : ByteArray := prog_9_method_7_code
def yX7_firstUse : MethodName := ⟨RX7, "firstUse", "(III)I"⟩
abbrev bX7_firstUse : ByteArray := prog_9_method_8_code
def yX7_at : MethodName := ⟨RX7, "at", "(II)I"⟩
abbrev bX7_at : ByteArray := prog_9_method_9_code
def yX7_weight : MethodName := ⟨RX7, "weight", "(II)I"⟩
abbrev bX7_weight : ByteArray := prog_9_method_10_code
def yX7_add : MethodName := ⟨RX7, "add", "(II)V"⟩
abbrev bX7_add : ByteArray := prog_9_method_11_code
def yX8_init : MethodName := ⟨RX8, "<init>", "()V"⟩
abbrev bX8_init : ByteArray := prog_10_method_1_code
def yX8_append : MethodName := ⟨RX8, "append", "(C)Z"⟩
abbrev bX8_append : ByteArray := prog_10_method_2_code
def yX8_readInto : MethodName := ⟨RX8, "readInto", "(LTakenNumbers$Port;)I"⟩
abbrev bX8_readInto : ByteArray := prog_10_method_3_code
def yX8_numbersBehind : MethodName := ⟨RX8, "numbersBehind", "(C)I"⟩
abbrev bX8_numbersBehind : ByteArray := prog_10_method_4_code
def yX8_readItem : MethodName := ⟨RX8, "readItem", "(I)Z"⟩
abbrev bX8_readItem : ByteArray := prog_10_method_5_code
def yX8_readNumber : MethodName := ⟨RX8, "readNumber", "(I)Z"⟩
abbrev bX8_readNumber : ByteArray := prog_10_method_6_code
def yX8_accept : MethodName := ⟨RX8, "accept", "(CLTakenNumbers$Port;)Z"⟩
abbrev bX8_accept : ByteArray := prog_10_method_7_code
def yX9_init : MethodName := ⟨RX9, "<init>", "()V"⟩
abbrev bX9_init : ByteArray := prog_11_method_1_code
def yX9_reckon : MethodName := ⟨RX9, "reckon", "(II)V"⟩
abbrev bX9_reckon : ByteArray := prog_11_method_2_code
def yX9_comingTo : MethodName := ⟨RX9, "comingTo", "(I)I"⟩
abbrev bX9_comingTo : ByteArray := prog_11_method_3_code
def yX9_join : MethodName := ⟨RX9, "join", "(II)V"⟩
abbrev bX9_join : ByteArray := prog_11_method_4_code
def yX10_init : MethodName := ⟨RX10, "<init>", "()V"⟩
abbrev bX10_init : ByteArray := prog_12_method_1_code
def yX10_append : MethodName := ⟨RX10, "append", "(II)Z"⟩
abbrev bX10_append : ByteArray := prog_12_method_2_code
def yX10_set : MethodName := ⟨RX10, "set", "()I"⟩
abbrev bX10_set : ByteArray := prog_12_method_3_code
def yX10_sum : MethodName := ⟨RX10, "sum", "()I"⟩
abbrev bX10_sum : ByteArray := prog_12_method_4_code
def yX10_price : MethodName := ⟨RX10, "price", "(LTakenNumbers$Port;)I"⟩
abbrev bX10_price : ByteArray := prog_12_method_5_code
def yX10_areSaying : MethodName := ⟨RX10, "areSaying", "(I)Z"⟩
abbrev bX10_areSaying : ByteArray := prog_12_method_6_code
def yX11_init : MethodName := ⟨RX11, "<init>", "()V"⟩
abbrev bX11_init : ByteArray := prog_1_method_1_code
def yX11_write : MethodName := ⟨RX11, "write", "(I)I"⟩
abbrev bX11_write : ByteArray := prog_1_method_2_code
def yX11_wipe : MethodName := ⟨RX11, "wipe", "()I"⟩
abbrev bX11_wipe : ByteArray := prog_1_method_3_code
def yX11_fault : MethodName := ⟨RX11, "fault", "()I"⟩
abbrev bX11_fault : ByteArray := prog_1_method_4_code
def yX11_lay : MethodName := ⟨RX11, "lay", "()I"⟩
abbrev bX11_lay : ByteArray := prog_1_method_5_code
def yX11_number : MethodName := ⟨RX11, "number", "(II)I"⟩
abbrev bX11_number : ByteArray := prog_1_method_6_code
def yX11_person : MethodName := ⟨RX11, "person", "(II)I"⟩
abbrev bX11_person : ByteArray := prog_1_method_7_code
def yX11_law : MethodName := ⟨RX11, "law", "(I)I"⟩
abbrev bX11_law : ByteArray := prog_1_method_8_code
def yX11_tell : MethodName := ⟨RX11, "tell", "(II)I"⟩
abbrev bX11_tell : ByteArray := prog_1_method_9_code
def yX11_hush : MethodName := ⟨RX11, "hush", "()I"⟩
abbrev bX11_hush : ByteArray := prog_1_method_10_code
def yX11_words : MethodName := ⟨RX11, "words", "(I)I"⟩
abbrev bX11_words : ByteArray := prog_1_method_11_code
def yX11_say : MethodName := ⟨RX11, "say", "(I)I"⟩
abbrev bX11_say : ByteArray := prog_1_method_12_code
def yX11_speak : MethodName := ⟨RX11, "speak", "(I)I"⟩
abbrev bX11_speak : ByteArray := prog_1_method_13_code
def yX11_lend : MethodName := ⟨RX11, "lend", "(II)I"⟩
abbrev bX11_lend : ByteArray := prog_1_method_14_code
def yX11_born : MethodName := ⟨RX11, "born", "()I"⟩
abbrev bX11_born : ByteArray := prog_1_method_15_code
def yX11_dusk : MethodName := ⟨RX11, "dusk", "(Z)I"⟩
abbrev bX11_dusk : ByteArray := prog_1_method_16_code
def yX11_undo : MethodName := ⟨RX11, "undo", "()I"⟩
abbrev bX11_undo : ByteArray := prog_1_method_17_code
def yX11_best : MethodName := ⟨RX11, "best", "(III)I"⟩
abbrev bX11_best : ByteArray := prog_1_method_18_code
def yX11_stuck : MethodName := ⟨RX11, "stuck", "()I"⟩
abbrev bX11_stuck : ByteArray := prog_1_method_19_code
def yX11_freed : MethodName := ⟨RX11, "freed", "(I)I"⟩
abbrev bX11_freed : ByteArray := prog_1_method_20_code
def yX11_order : MethodName := ⟨RX11, "order", "(I)I"⟩
abbrev bX11_order : ByteArray := prog_1_method_21_code
def yX11_deny : MethodName := ⟨RX11, "deny", "(II)I"⟩
abbrev bX11_deny : ByteArray := prog_1_method_22_code
def yX11_guard : MethodName := ⟨RX11, "guard", "()I"⟩
abbrev bX11_guard : ByteArray := prog_1_method_23_code
def yX11_value : MethodName := ⟨RX11, "value", "(I)I"⟩
abbrev bX11_value : ByteArray := prog_1_method_24_code
def yX11_changed : MethodName := ⟨RX11, "changed", "()I"⟩
abbrev bX11_changed : ByteArray := prog_1_method_25_code
def yX11_ways : MethodName := ⟨RX11, "ways", "(III)I"⟩
abbrev bX11_ways : ByteArray := prog_1_method_26_code
def yX11_lowest : MethodName := ⟨RX11, "lowest", "(I)I"⟩
abbrev bX11_lowest : ByteArray := prog_1_method_27_code
def yX11_enter : MethodName := ⟨RX11, "enter", "(I)I"⟩
abbrev bX11_enter : ByteArray := prog_1_method_28_code
def yX11_close : MethodName := ⟨RX11, "close", "()I"⟩
abbrev bX11_close : ByteArray := prog_1_method_29_code
def yX11_book : MethodName := ⟨RX11, "book", "(I)I"⟩
abbrev bX11_book : ByteArray := prog_1_method_30_code
def yX11_twice : MethodName := ⟨RX11, "twice", "()I"⟩
abbrev bX11_twice : ByteArray := prog_1_method_31_code
def yX11_corner : MethodName := ⟨RX11, "corner", "(II)I"⟩
abbrev bX11_corner : ByteArray := prog_1_method_32_code
def yX11_year : MethodName := ⟨RX11, "year", "(III)I"⟩
abbrev bX11_year : ByteArray := prog_1_method_33_code
def yX11_keep : MethodName := ⟨RX11, "keep", "()I"⟩
abbrev bX11_keep : ByteArray := prog_1_method_34_code
def yX11_back : MethodName := ⟨RX11, "back", "()I"⟩
abbrev bX11_back : ByteArray := prog_1_method_35_code
def yX11_count : MethodName := ⟨RX11, "count", "(I)I"⟩
abbrev bX11_count : ByteArray := prog_1_method_36_code
def yX11_sceneNow : MethodName := ⟨RX11, "sceneNow", "()LTakenNumbers$Scene;"⟩
abbrev bX11_sceneNow : ByteArray := prog_1_method_37_code
def yX11_usedNow : MethodName := ⟨RX11, "usedNow", "(II)I"⟩
abbrev bX11_usedNow : ByteArray := prog_1_method_38_code
def yX11_hasBit : MethodName := ⟨RX11, "hasBit", "(II)Z"⟩
abbrev bX11_hasBit : ByteArray := prog_1_method_39_code
def yX11_firstBit : MethodName := ⟨RX11, "firstBit", "(I)I"⟩
abbrev bX11_firstBit : ByteArray := prog_1_method_40_code
def yX11_holderOf : MethodName := ⟨RX11, "holderOf", "(I[I)I"⟩
abbrev bX11_holderOf : ByteArray := prog_1_method_41_code
def yX11_countsAs : MethodName := ⟨RX11, "countsAs", "(II)I"⟩
abbrev bX11_countsAs : ByteArray := prog_1_method_42_code
def yX11_canStand : MethodName := ⟨RX11, "canStand", "(II)Z"⟩
abbrev bX11_canStand : ByteArray := prog_1_method_43_code
def yX11_lastUse : MethodName := ⟨RX11, "lastUse", "(I)I"⟩
abbrev bX11_lastUse : ByteArray := prog_1_method_44_code
def yX11_together : MethodName := ⟨RX11, "together", "([I)I"⟩
abbrev bX11_together : ByteArray := prog_1_method_45_code
def yX12_in : MethodName := ⟨RX12, "in", "(JJJ)Z"⟩
abbrev bX12_in : ByteArray := prog_14_method_2_code
def yX12_has : MethodName := ⟨RX12, "has", "(II)Z"⟩
abbrev bX12_has : ByteArray := prog_14_method_3_code
def yX12_bits : MethodName := ⟨RX12, "bits", "(I)I"⟩
abbrev bX12_bits : ByteArray := prog_14_method_4_code
def yX12_init : MethodName := ⟨RX12, "<init>", "()V"⟩
abbrev bX12_init : ByteArray := prog_14_method_5_code
def yX12_begin : MethodName := ⟨RX12, "begin", "()V"⟩
abbrev bX12_begin : ByteArray := prog_14_method_6_code
def yX12_dawn : MethodName := ⟨RX12, "dawn", "(Z)V"⟩
abbrev bX12_dawn : ByteArray := prog_14_method_7_code
def yX12_noNumber : MethodName := ⟨RX12, "noNumber", "(I)Z"⟩
abbrev bX12_noNumber : ByteArray := prog_14_method_8_code
def yX12_noOne : MethodName := ⟨RX12, "noOne", "(I)Z"⟩
abbrev bX12_noOne : ByteArray := prog_14_method_9_code
def yX12_noSet : MethodName := ⟨RX12, "noSet", "(I)Z"⟩
abbrev bX12_noSet : ByteArray := prog_14_method_10_code
def yX12_write : MethodName := ⟨RX12, "write", "(I)I"⟩
abbrev bX12_write : ByteArray := prog_14_method_11_code
def yX12_wipe : MethodName := ⟨RX12, "wipe", "()I"⟩
abbrev bX12_wipe : ByteArray := prog_14_method_12_code
def yX12_isFigure : MethodName := ⟨RX12, "isFigure", "()Z"⟩
abbrev bX12_isFigure : ByteArray := prog_14_method_13_code
def yX12_areNumbers : MethodName := ⟨RX12, "areNumbers", "(I)Z"⟩
abbrev bX12_areNumbers : ByteArray := prog_14_method_14_code
def yX12_readItem : MethodName := ⟨RX12, "readItem", "(IZ)Z"⟩
abbrev bX12_readItem : ByteArray := prog_14_method_15_code
def yX12_readAll : MethodName := ⟨RX12, "readAll", "()I"⟩
abbrev bX12_readAll : ByteArray := prog_14_method_16_code
def yX12_fault : MethodName := ⟨RX12, "fault", "()I"⟩
abbrev bX12_fault : ByteArray := prog_14_method_17_code
def yX12_lay : MethodName := ⟨RX12, "lay", "()I"⟩
abbrev bX12_lay : ByteArray := prog_14_method_18_code
def yX12_number : MethodName := ⟨RX12, "number", "(II)I"⟩
abbrev bX12_number : ByteArray := prog_14_method_19_code
def yX12_taken : MethodName := ⟨RX12, "taken", "()I"⟩
abbrev bX12_taken : ByteArray := prog_14_method_20_code
def yX12_ofOne : MethodName := ⟨RX12, "ofOne", "(I)I"⟩
abbrev bX12_ofOne : ByteArray := prog_14_method_21_code
def yX12_mayOf : MethodName := ⟨RX12, "mayOf", "(I)I"⟩
abbrev bX12_mayOf : ByteArray := prog_14_method_22_code
def yX12_person : MethodName := ⟨RX12, "person", "(II)I"⟩
abbrev bX12_person : ByteArray := prog_14_method_23_code
def yX12_law : MethodName := ⟨RX12, "law", "(I)I"⟩
abbrev bX12_law : ByteArray := prog_14_method_24_code
def yX12_counts : MethodName := ⟨RX12, "counts", "(II)I"⟩
abbrev bX12_counts : ByteArray := prog_14_method_25_code
def yX12_priceOf : MethodName := ⟨RX12, "priceOf", "(II)I"⟩
abbrev bX12_priceOf : ByteArray := prog_14_method_26_code
def yX12_tell : MethodName := ⟨RX12, "tell", "(II)I"⟩
abbrev bX12_tell : ByteArray := prog_14_method_27_code
def yX12_hush : MethodName := ⟨RX12, "hush", "()I"⟩
abbrev bX12_hush : ByteArray := prog_14_method_28_code
def yX12_sumOfWords : MethodName := ⟨RX12, "sumOfWords", "()I"⟩
abbrev bX12_sumOfWords : ByteArray := prog_14_method_29_code
def yX12_priceOfWords : MethodName := ⟨RX12, "priceOfWords", "()I"⟩
abbrev bX12_priceOfWords : ByteArray := prog_14_method_30_code
def yX12_isSaying : MethodName := ⟨RX12, "isSaying", "()Z"⟩
abbrev bX12_isSaying : ByteArray := prog_14_method_31_code
def yX12_words : MethodName := ⟨RX12, "words", "(I)I"⟩
abbrev bX12_words : ByteArray := prog_14_method_32_code
def yX12_laid : MethodName := ⟨RX12, "laid", "(II)I"⟩
abbrev bX12_laid : ByteArray := prog_14_method_33_code
def yX12_by : MethodName := ⟨RX12, "by", "(IIII)I"⟩
abbrev bX12_by : ByteArray := prog_14_method_34_code
def yX12_layTable : MethodName := ⟨RX12, "layTable", "(II)V"⟩
abbrev bX12_layTable : ByteArray := prog_14_method_35_code
def yX12_bestOf : MethodName := ⟨RX12, "bestOf", "(III)I"⟩
abbrev bX12_bestOf : ByteArray := prog_14_method_36_code
def yX12_hasBest : MethodName := ⟨RX12, "hasBest", "(III)Z"⟩
abbrev bX12_hasBest : ByteArray := prog_14_method_37_code
def yX12_usedSet : MethodName := ⟨RX12, "usedSet", "()I"⟩
abbrev bX12_usedSet : ByteArray := prog_14_method_38_code
def yX12_keepDay : MethodName := ⟨RX12, "keepDay", "()V"⟩
abbrev bX12_keepDay : ByteArray := prog_14_method_39_code
def yX12_take : MethodName := ⟨RX12, "take", "(II)V"⟩
abbrev bX12_take : ByteArray := prog_14_method_40_code
def yX12_say : MethodName := ⟨RX12, "say", "(I)I"⟩
abbrev bX12_say : ByteArray := prog_14_method_41_code
def yX12_speak : MethodName := ⟨RX12, "speak", "(I)I"⟩
abbrev bX12_speak : ByteArray := prog_14_method_42_code
def yX12_lend : MethodName := ⟨RX12, "lend", "(II)I"⟩
abbrev bX12_lend : ByteArray := prog_14_method_43_code
def yX12_born : MethodName := ⟨RX12, "born", "()I"⟩
abbrev bX12_born : ByteArray := prog_14_method_44_code
def yX12_dusk : MethodName := ⟨RX12, "dusk", "(Z)I"⟩
abbrev bX12_dusk : ByteArray := prog_14_method_45_code
def yX12_undo : MethodName := ⟨RX12, "undo", "()I"⟩
abbrev bX12_undo : ByteArray := prog_14_method_46_code
def yX12_best : MethodName := ⟨RX12, "best", "(III)I"⟩
abbrev bX12_best : ByteArray := prog_14_method_47_code
def yX12_stuckOf : MethodName := ⟨RX12, "stuckOf", "(III)I"⟩
abbrev bX12_stuckOf : ByteArray := prog_14_method_48_code
def yX12_silent : MethodName := ⟨RX12, "silent", "()I"⟩
abbrev bX12_silent : ByteArray := prog_14_method_49_code
def yX12_stuck : MethodName := ⟨RX12, "stuck", "()I"⟩
abbrev bX12_stuck : ByteArray := prog_14_method_50_code
def yX12_freed : MethodName := ⟨RX12, "freed", "(I)I"⟩
abbrev bX12_freed : ByteArray := prog_14_method_51_code
def yX12_isAhead : MethodName := ⟨RX12, "isAhead", "(II)Z"⟩
abbrev bX12_isAhead : ByteArray := prog_14_method_52_code
def yX12_layOrder : MethodName := ⟨RX12, "layOrder", "()V"⟩
abbrev bX12_layOrder : ByteArray := prog_14_method_53_code
def yX12_order : MethodName := ⟨RX12, "order", "(I)I"⟩
abbrev bX12_order : ByteArray := prog_14_method_54_code
def yX12_deny : MethodName := ⟨RX12, "deny", "(II)I"⟩
abbrev bX12_deny : ByteArray := prog_14_method_55_code
def yX12_guard : MethodName := ⟨RX12, "guard", "()I"⟩
abbrev bX12_guard : ByteArray := prog_14_method_56_code
def yX12_value : MethodName := ⟨RX12, "value", "(I)I"⟩
abbrev bX12_value : ByteArray := prog_14_method_57_code
def yX12_changed : MethodName := ⟨RX12, "changed", "()I"⟩
abbrev bX12_changed : ByteArray := prog_14_method_58_code
def yX12_waysOf : MethodName := ⟨RX12, "waysOf", "(III)I"⟩
abbrev bX12_waysOf : ByteArray := prog_14_method_59_code
def yX12_ways : MethodName := ⟨RX12, "ways", "(III)I"⟩
abbrev bX12_ways : ByteArray := prog_14_method_60_code
def yX12_lowest : MethodName := ⟨RX12, "lowest", "(I)I"⟩
abbrev bX12_lowest : ByteArray := prog_14_method_61_code
def yX12_enter : MethodName := ⟨RX12, "enter", "(I)I"⟩
abbrev bX12_enter : ByteArray := prog_14_method_62_code
def yX12_close : MethodName := ⟨RX12, "close", "()I"⟩
abbrev bX12_close : ByteArray := prog_14_method_63_code
def yX12_readingsBy : MethodName := ⟨RX12, "readingsBy", "(II)I"⟩
abbrev bX12_readingsBy : ByteArray := prog_14_method_64_code
def yX12_book : MethodName := ⟨RX12, "book", "(I)I"⟩
abbrev bX12_book : ByteArray := prog_14_method_65_code
def yX12_twice : MethodName := ⟨RX12, "twice", "()I"⟩
abbrev bX12_twice : ByteArray := prog_14_method_66_code
def yX12_corner : MethodName := ⟨RX12, "corner", "(II)I"⟩
abbrev bX12_corner : ByteArray := prog_14_method_67_code
def yX12_year : MethodName := ⟨RX12, "year", "(III)I"⟩
abbrev bX12_year : ByteArray := prog_14_method_68_code
def yX12_keep : MethodName := ⟨RX12, "keep", "()I"⟩
abbrev bX12_keep : ByteArray := prog_14_method_69_code
def yX12_back : MethodName := ⟨RX12, "back", "()I"⟩
abbrev bX12_back : ByteArray := prog_14_method_70_code
def yX12_count : MethodName := ⟨RX12, "count", "(I)I"⟩
abbrev bX12_count : ByteArray := prog_14_method_71_code
def yJ6_bitCount_0f7a4 : MethodName := ⟨"java/lang/Integer", "bitCount", "(I)I"⟩
abbrev bJ6_bitCount_0f7a4 : ByteArray := prog_15_method_49_code
