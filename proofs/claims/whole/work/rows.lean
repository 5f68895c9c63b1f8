section
-- ===== PART A: goes FIRST, ahead of the names: the tables' words, and 'selects' of the private methods out of them =====
/-- a private method of a class that the tables say can be made, by its rows of tables_1 -/
def lw_okq (q : MethodName × Nat) : Prop := (q.1.cls ≠ "java/lang/invoke/MethodHandle" ∧ q.1.cls ≠ "java/lang/invoke/VarHandle") ∧ Cond.instantiable q.1.cls q.2 ∈ tables_1 ∧ Cond.privateMethod q.1 ∈ tables_1 ∧ Cond.instanceMethod q.1 ∈ tables_1
theorem lw_p0 : lw_okq (⟨"TakenNumbers$Text", "readItem", "(I)Z"⟩, 5) := ⟨⟨by decide +kernel, by decide +kernel⟩, List.mem_of_getElem? (i := 30) (by decide +kernel), List.mem_of_getElem? (i := 439) (by decide +kernel), List.mem_of_getElem? (i := 440) (by decide +kernel)⟩
theorem lw_p1 : lw_okq (⟨"TakenNumbers$Text", "readNumber", "(I)Z"⟩, 5) := ⟨⟨by decide +kernel, by decide +kernel⟩, List.mem_of_getElem? (i := 30) (by decide +kernel), List.mem_of_getElem? (i := 443) (by decide +kernel), List.mem_of_getElem? (i := 444) (by decide +kernel)⟩
theorem lw_p2 : lw_okq (⟨"TakenNumbers$Text", "accept", "(CLTakenNumbers$Port;)Z"⟩, 5) := ⟨⟨by decide +kernel, by decide +kernel⟩, List.mem_of_getElem? (i := 30) (by decide +kernel), List.mem_of_getElem? (i := 447) (by decide +kernel), List.mem_of_getElem? (i := 448) (by decide +kernel)⟩
theorem lw_p3 : lw_okq (⟨"TakenNumbers", "sceneNow", "()LTakenNumbers$Scene;"⟩, 12) := ⟨⟨by decide +kernel, by decide +kernel⟩, List.mem_of_getElem? (i := 22) (by decide +kernel), List.mem_of_getElem? (i := 562) (by decide +kernel), List.mem_of_getElem? (i := 563) (by decide +kernel)⟩
theorem lw_p4 : lw_okq (⟨"TakenNumbers$Scene", "setFree", "(LTakenNumbers$Port;)V"⟩, 7) := ⟨⟨by decide +kernel, by decide +kernel⟩, List.mem_of_getElem? (i := 291) (by decide +kernel), List.mem_of_getElem? (i := 570) (by decide +kernel), List.mem_of_getElem? (i := 571) (by decide +kernel)⟩
theorem lw_p5 : lw_okq (⟨"TakenNumbers$DayStack", "dropOldest", "()V"⟩, 2) := ⟨⟨by decide +kernel, by decide +kernel⟩, List.mem_of_getElem? (i := 130) (by decide +kernel), List.mem_of_getElem? (i := 645) (by decide +kernel), List.mem_of_getElem? (i := 646) (by decide +kernel)⟩
theorem lw_p6 : lw_okq (⟨"TakenNumbers", "usedNow", "(II)I"⟩, 12) := ⟨⟨by decide +kernel, by decide +kernel⟩, List.mem_of_getElem? (i := 22) (by decide +kernel), List.mem_of_getElem? (i := 664) (by decide +kernel), List.mem_of_getElem? (i := 665) (by decide +kernel)⟩
theorem lw_p7 : lw_okq (⟨"TakenNumbers$Sayings", "used", "(I)I"⟩, 9) := ⟨⟨by decide +kernel, by decide +kernel⟩, List.mem_of_getElem? (i := 210) (by decide +kernel), List.mem_of_getElem? (i := 672) (by decide +kernel), List.mem_of_getElem? (i := 673) (by decide +kernel)⟩
theorem lw_p8 : lw_okq (⟨"TakenNumbers$Table", "listNumbers", "()V"⟩, 12) := ⟨⟨by decide +kernel, by decide +kernel⟩, List.mem_of_getElem? (i := 216) (by decide +kernel), List.mem_of_getElem? (i := 683) (by decide +kernel), List.mem_of_getElem? (i := 684) (by decide +kernel)⟩
theorem lw_p9 : lw_okq (⟨"TakenNumbers$Table", "setBounds", "()V"⟩, 12) := ⟨⟨by decide +kernel, by decide +kernel⟩, List.mem_of_getElem? (i := 216) (by decide +kernel), List.mem_of_getElem? (i := 688) (by decide +kernel), List.mem_of_getElem? (i := 689) (by decide +kernel)⟩
theorem lw_p10 : lw_okq (⟨"TakenNumbers$Table", "spread", "(III)V"⟩, 12) := ⟨⟨by decide +kernel, by decide +kernel⟩, List.mem_of_getElem? (i := 216) (by decide +kernel), List.mem_of_getElem? (i := 697) (by decide +kernel), List.mem_of_getElem? (i := 698) (by decide +kernel)⟩
theorem lw_p11 : lw_okq (⟨"TakenNumbers$Table", "weight", "(II)I"⟩, 12) := ⟨⟨by decide +kernel, by decide +kernel⟩, List.mem_of_getElem? (i := 216) (by decide +kernel), List.mem_of_getElem? (i := 704) (by decide +kernel), List.mem_of_getElem? (i := 705) (by decide +kernel)⟩
theorem lw_p12 : lw_okq (⟨"TakenNumbers$Table", "at", "(II)I"⟩, 12) := ⟨⟨by decide +kernel, by decide +kernel⟩, List.mem_of_getElem? (i := 216) (by decide +kernel), List.mem_of_getElem? (i := 712) (by decide +kernel), List.mem_of_getElem? (i := 713) (by decide +kernel)⟩
theorem lw_p13 : lw_okq (⟨"TakenNumbers$Table", "firstUse", "(III)I"⟩, 12) := ⟨⟨by decide +kernel, by decide +kernel⟩, List.mem_of_getElem? (i := 216) (by decide +kernel), List.mem_of_getElem? (i := 716) (by decide +kernel), List.mem_of_getElem? (i := 717) (by decide +kernel)⟩
theorem lw_p14 : lw_okq (⟨"TakenNumbers$Table", "add", "(II)V"⟩, 12) := ⟨⟨by decide +kernel, by decide +kernel⟩, List.mem_of_getElem? (i := 216) (by decide +kernel), List.mem_of_getElem? (i := 720) (by decide +kernel), List.mem_of_getElem? (i := 721) (by decide +kernel)⟩
theorem lw_p15 : lw_okq (⟨"TakenNumbers$Crowd", "search", "(LTakenNumbers$Scene;IIII)V"⟩, 10) := ⟨⟨by decide +kernel, by decide +kernel⟩, List.mem_of_getElem? (i := 328) (by decide +kernel), List.mem_of_getElem? (i := 789) (by decide +kernel), List.mem_of_getElem? (i := 790) (by decide +kernel)⟩
def lw_privs_1 : List (MethodName × Nat) := [(⟨"TakenNumbers$Text", "readItem", "(I)Z"⟩, 5), (⟨"TakenNumbers$Text", "readNumber", "(I)Z"⟩, 5), (⟨"TakenNumbers$Text", "accept", "(CLTakenNumbers$Port;)Z"⟩, 5), (⟨"TakenNumbers", "sceneNow", "()LTakenNumbers$Scene;"⟩, 12), (⟨"TakenNumbers$Scene", "setFree", "(LTakenNumbers$Port;)V"⟩, 7), (⟨"TakenNumbers$DayStack", "dropOldest", "()V"⟩, 2), (⟨"TakenNumbers", "usedNow", "(II)I"⟩, 12), (⟨"TakenNumbers$Sayings", "used", "(I)I"⟩, 9), (⟨"TakenNumbers$Table", "listNumbers", "()V"⟩, 12), (⟨"TakenNumbers$Table", "setBounds", "()V"⟩, 12), (⟨"TakenNumbers$Table", "spread", "(III)V"⟩, 12), (⟨"TakenNumbers$Table", "weight", "(II)I"⟩, 12), (⟨"TakenNumbers$Table", "at", "(II)I"⟩, 12), (⟨"TakenNumbers$Table", "firstUse", "(III)I"⟩, 12), (⟨"TakenNumbers$Table", "add", "(II)V"⟩, 12), (⟨"TakenNumbers$Crowd", "search", "(LTakenNumbers$Scene;IIII)V"⟩, 10)]
theorem lw_r1 : ∀ q ∈ lw_privs_1, lw_okq q := List.forall_mem_cons.mpr ⟨lw_p0, List.forall_mem_cons.mpr ⟨lw_p1, List.forall_mem_cons.mpr ⟨lw_p2, List.forall_mem_cons.mpr ⟨lw_p3, List.forall_mem_cons.mpr ⟨lw_p4, List.forall_mem_cons.mpr ⟨lw_p5, List.forall_mem_cons.mpr ⟨lw_p6, List.forall_mem_cons.mpr ⟨lw_p7, List.forall_mem_cons.mpr ⟨lw_p8, List.forall_mem_cons.mpr ⟨lw_p9, List.forall_mem_cons.mpr ⟨lw_p10, List.forall_mem_cons.mpr ⟨lw_p11, List.forall_mem_cons.mpr ⟨lw_p12, List.forall_mem_cons.mpr ⟨lw_p13, List.forall_mem_cons.mpr ⟨lw_p14, List.forall_mem_cons.mpr ⟨lw_p15, fun _ h => absurd h List.not_mem_nil⟩⟩⟩⟩⟩⟩⟩⟩⟩⟩⟩⟩⟩⟩⟩⟩
theorem lw_p16 : lw_okq (⟨"TakenNumbers$Crowd", "ableAt", "(LTakenNumbers$Scene;III)I"⟩, 10) := ⟨⟨by decide +kernel, by decide +kernel⟩, List.mem_of_getElem? (i := 328) (by decide +kernel), List.mem_of_getElem? (i := 793) (by decide +kernel), List.mem_of_getElem? (i := 794) (by decide +kernel)⟩
theorem lw_p17 : lw_okq (⟨"TakenNumbers$Crowd", "record", "(III)V"⟩, 10) := ⟨⟨by decide +kernel, by decide +kernel⟩, List.mem_of_getElem? (i := 328) (by decide +kernel), List.mem_of_getElem? (i := 798) (by decide +kernel), List.mem_of_getElem? (i := 799) (by decide +kernel)⟩
theorem lw_p18 : lw_okq (⟨"TakenNumbers$Crowd", "getsWorse", "(LTakenNumbers$Scene;I)Z"⟩, 10) := ⟨⟨by decide +kernel, by decide +kernel⟩, List.mem_of_getElem? (i := 328) (by decide +kernel), List.mem_of_getElem? (i := 810) (by decide +kernel), List.mem_of_getElem? (i := 811) (by decide +kernel)⟩
theorem lw_p19 : lw_okq (⟨"TakenNumbers$WaySums", "join", "(II)V"⟩, 3) := ⟨⟨by decide +kernel, by decide +kernel⟩, List.mem_of_getElem? (i := 194) (by decide +kernel), List.mem_of_getElem? (i := 847) (by decide +kernel), List.mem_of_getElem? (i := 848) (by decide +kernel)⟩
theorem lw_p20 : lw_okq (⟨"TakenNumbers$Book", "readFrom", "(II)V"⟩, 6) := ⟨⟨by decide +kernel, by decide +kernel⟩, List.mem_of_getElem? (i := 167) (by decide +kernel), List.mem_of_getElem? (i := 884) (by decide +kernel), List.mem_of_getElem? (i := 885) (by decide +kernel)⟩
theorem lw_p21 : lw_okq (⟨"TakenNumbersModel", "begin", "()V"⟩, 30) := ⟨⟨by decide +kernel, by decide +kernel⟩, List.mem_of_getElem? (i := 939) (by decide +kernel), List.mem_of_getElem? (i := 945) (by decide +kernel), List.mem_of_getElem? (i := 946) (by decide +kernel)⟩
theorem lw_p22 : lw_okq (⟨"TakenNumbersModel", "dawn", "(Z)V"⟩, 30) := ⟨⟨by decide +kernel, by decide +kernel⟩, List.mem_of_getElem? (i := 939) (by decide +kernel), List.mem_of_getElem? (i := 949) (by decide +kernel), List.mem_of_getElem? (i := 950) (by decide +kernel)⟩
theorem lw_p23 : lw_okq (⟨"TakenNumbersModel", "readAll", "()I"⟩, 30) := ⟨⟨by decide +kernel, by decide +kernel⟩, List.mem_of_getElem? (i := 939) (by decide +kernel), List.mem_of_getElem? (i := 1061) (by decide +kernel), List.mem_of_getElem? (i := 1062) (by decide +kernel)⟩
theorem lw_p24 : lw_okq (⟨"TakenNumbersModel", "readItem", "(IZ)Z"⟩, 30) := ⟨⟨by decide +kernel, by decide +kernel⟩, List.mem_of_getElem? (i := 939) (by decide +kernel), List.mem_of_getElem? (i := 1065) (by decide +kernel), List.mem_of_getElem? (i := 1066) (by decide +kernel)⟩
theorem lw_p25 : lw_okq (⟨"TakenNumbersModel", "areNumbers", "(I)Z"⟩, 30) := ⟨⟨by decide +kernel, by decide +kernel⟩, List.mem_of_getElem? (i := 939) (by decide +kernel), List.mem_of_getElem? (i := 1069) (by decide +kernel), List.mem_of_getElem? (i := 1070) (by decide +kernel)⟩
theorem lw_p26 : lw_okq (⟨"TakenNumbersModel", "isFigure", "()Z"⟩, 30) := ⟨⟨by decide +kernel, by decide +kernel⟩, List.mem_of_getElem? (i := 939) (by decide +kernel), List.mem_of_getElem? (i := 1073) (by decide +kernel), List.mem_of_getElem? (i := 1074) (by decide +kernel)⟩
theorem lw_p27 : lw_okq (⟨"TakenNumbersModel", "noNumber", "(I)Z"⟩, 30) := ⟨⟨by decide +kernel, by decide +kernel⟩, List.mem_of_getElem? (i := 939) (by decide +kernel), List.mem_of_getElem? (i := 1089) (by decide +kernel), List.mem_of_getElem? (i := 1090) (by decide +kernel)⟩
theorem lw_p28 : lw_okq (⟨"TakenNumbersModel", "noOne", "(I)Z"⟩, 30) := ⟨⟨by decide +kernel, by decide +kernel⟩, List.mem_of_getElem? (i := 939) (by decide +kernel), List.mem_of_getElem? (i := 1097) (by decide +kernel), List.mem_of_getElem? (i := 1098) (by decide +kernel)⟩
theorem lw_p29 : lw_okq (⟨"TakenNumbersModel", "mayOf", "(I)I"⟩, 30) := ⟨⟨by decide +kernel, by decide +kernel⟩, List.mem_of_getElem? (i := 939) (by decide +kernel), List.mem_of_getElem? (i := 1101) (by decide +kernel), List.mem_of_getElem? (i := 1102) (by decide +kernel)⟩
theorem lw_p30 : lw_okq (⟨"TakenNumbersModel", "ofOne", "(I)I"⟩, 30) := ⟨⟨by decide +kernel, by decide +kernel⟩, List.mem_of_getElem? (i := 939) (by decide +kernel), List.mem_of_getElem? (i := 1105) (by decide +kernel), List.mem_of_getElem? (i := 1106) (by decide +kernel)⟩
theorem lw_p31 : lw_okq (⟨"TakenNumbersModel", "taken", "()I"⟩, 30) := ⟨⟨by decide +kernel, by decide +kernel⟩, List.mem_of_getElem? (i := 939) (by decide +kernel), List.mem_of_getElem? (i := 1109) (by decide +kernel), List.mem_of_getElem? (i := 1110) (by decide +kernel)⟩
def lw_privs_2 : List (MethodName × Nat) := [(⟨"TakenNumbers$Crowd", "ableAt", "(LTakenNumbers$Scene;III)I"⟩, 10), (⟨"TakenNumbers$Crowd", "record", "(III)V"⟩, 10), (⟨"TakenNumbers$Crowd", "getsWorse", "(LTakenNumbers$Scene;I)Z"⟩, 10), (⟨"TakenNumbers$WaySums", "join", "(II)V"⟩, 3), (⟨"TakenNumbers$Book", "readFrom", "(II)V"⟩, 6), (⟨"TakenNumbersModel", "begin", "()V"⟩, 30), (⟨"TakenNumbersModel", "dawn", "(Z)V"⟩, 30), (⟨"TakenNumbersModel", "readAll", "()I"⟩, 30), (⟨"TakenNumbersModel", "readItem", "(IZ)Z"⟩, 30), (⟨"TakenNumbersModel", "areNumbers", "(I)Z"⟩, 30), (⟨"TakenNumbersModel", "isFigure", "()Z"⟩, 30), (⟨"TakenNumbersModel", "noNumber", "(I)Z"⟩, 30), (⟨"TakenNumbersModel", "noOne", "(I)Z"⟩, 30), (⟨"TakenNumbersModel", "mayOf", "(I)I"⟩, 30), (⟨"TakenNumbersModel", "ofOne", "(I)I"⟩, 30), (⟨"TakenNumbersModel", "taken", "()I"⟩, 30)]
theorem lw_r2 : ∀ q ∈ lw_privs_2, lw_okq q := List.forall_mem_cons.mpr ⟨lw_p16, List.forall_mem_cons.mpr ⟨lw_p17, List.forall_mem_cons.mpr ⟨lw_p18, List.forall_mem_cons.mpr ⟨lw_p19, List.forall_mem_cons.mpr ⟨lw_p20, List.forall_mem_cons.mpr ⟨lw_p21, List.forall_mem_cons.mpr ⟨lw_p22, List.forall_mem_cons.mpr ⟨lw_p23, List.forall_mem_cons.mpr ⟨lw_p24, List.forall_mem_cons.mpr ⟨lw_p25, List.forall_mem_cons.mpr ⟨lw_p26, List.forall_mem_cons.mpr ⟨lw_p27, List.forall_mem_cons.mpr ⟨lw_p28, List.forall_mem_cons.mpr ⟨lw_p29, List.forall_mem_cons.mpr ⟨lw_p30, List.forall_mem_cons.mpr ⟨lw_p31, fun _ h => absurd h List.not_mem_nil⟩⟩⟩⟩⟩⟩⟩⟩⟩⟩⟩⟩⟩⟩⟩⟩
theorem lw_p32 : lw_okq (⟨"TakenNumbersModel", "sumOfWords", "()I"⟩, 30) := ⟨⟨by decide +kernel, by decide +kernel⟩, List.mem_of_getElem? (i := 939) (by decide +kernel), List.mem_of_getElem? (i := 1130) (by decide +kernel), List.mem_of_getElem? (i := 1131) (by decide +kernel)⟩
theorem lw_p33 : lw_okq (⟨"TakenNumbersModel", "priceOfWords", "()I"⟩, 30) := ⟨⟨by decide +kernel, by decide +kernel⟩, List.mem_of_getElem? (i := 939) (by decide +kernel), List.mem_of_getElem? (i := 1137) (by decide +kernel), List.mem_of_getElem? (i := 1138) (by decide +kernel)⟩
theorem lw_p34 : lw_okq (⟨"TakenNumbersModel", "priceOf", "(II)I"⟩, 30) := ⟨⟨by decide +kernel, by decide +kernel⟩, List.mem_of_getElem? (i := 939) (by decide +kernel), List.mem_of_getElem? (i := 1141) (by decide +kernel), List.mem_of_getElem? (i := 1142) (by decide +kernel)⟩
theorem lw_p35 : lw_okq (⟨"TakenNumbersModel", "isSaying", "()Z"⟩, 30) := ⟨⟨by decide +kernel, by decide +kernel⟩, List.mem_of_getElem? (i := 939) (by decide +kernel), List.mem_of_getElem? (i := 1145) (by decide +kernel), List.mem_of_getElem? (i := 1146) (by decide +kernel)⟩
theorem lw_p36 : lw_okq (⟨"TakenNumbersModel", "keepDay", "()V"⟩, 30) := ⟨⟨by decide +kernel, by decide +kernel⟩, List.mem_of_getElem? (i := 939) (by decide +kernel), List.mem_of_getElem? (i := 1156) (by decide +kernel), List.mem_of_getElem? (i := 1157) (by decide +kernel)⟩
theorem lw_p37 : lw_okq (⟨"TakenNumbersModel", "take", "(II)V"⟩, 30) := ⟨⟨by decide +kernel, by decide +kernel⟩, List.mem_of_getElem? (i := 939) (by decide +kernel), List.mem_of_getElem? (i := 1160) (by decide +kernel), List.mem_of_getElem? (i := 1161) (by decide +kernel)⟩
theorem lw_p38 : lw_okq (⟨"TakenNumbersModel", "bestOf", "(III)I"⟩, 30) := ⟨⟨by decide +kernel, by decide +kernel⟩, List.mem_of_getElem? (i := 939) (by decide +kernel), List.mem_of_getElem? (i := 1168) (by decide +kernel), List.mem_of_getElem? (i := 1169) (by decide +kernel)⟩
theorem lw_p39 : lw_okq (⟨"TakenNumbersModel", "layTable", "(II)V"⟩, 30) := ⟨⟨by decide +kernel, by decide +kernel⟩, List.mem_of_getElem? (i := 939) (by decide +kernel), List.mem_of_getElem? (i := 1172) (by decide +kernel), List.mem_of_getElem? (i := 1173) (by decide +kernel)⟩
theorem lw_p40 : lw_okq (⟨"TakenNumbersModel", "laid", "(II)I"⟩, 30) := ⟨⟨by decide +kernel, by decide +kernel⟩, List.mem_of_getElem? (i := 939) (by decide +kernel), List.mem_of_getElem? (i := 1177) (by decide +kernel), List.mem_of_getElem? (i := 1178) (by decide +kernel)⟩
theorem lw_p41 : lw_okq (⟨"TakenNumbersModel", "by", "(IIII)I"⟩, 30) := ⟨⟨by decide +kernel, by decide +kernel⟩, List.mem_of_getElem? (i := 939) (by decide +kernel), List.mem_of_getElem? (i := 1183) (by decide +kernel), List.mem_of_getElem? (i := 1184) (by decide +kernel)⟩
theorem lw_p42 : lw_okq (⟨"TakenNumbersModel", "usedSet", "()I"⟩, 30) := ⟨⟨by decide +kernel, by decide +kernel⟩, List.mem_of_getElem? (i := 939) (by decide +kernel), List.mem_of_getElem? (i := 1187) (by decide +kernel), List.mem_of_getElem? (i := 1188) (by decide +kernel)⟩
theorem lw_p43 : lw_okq (⟨"TakenNumbersModel", "silent", "()I"⟩, 30) := ⟨⟨by decide +kernel, by decide +kernel⟩, List.mem_of_getElem? (i := 939) (by decide +kernel), List.mem_of_getElem? (i := 1220) (by decide +kernel), List.mem_of_getElem? (i := 1221) (by decide +kernel)⟩
theorem lw_p44 : lw_okq (⟨"TakenNumbersModel", "stuckOf", "(III)I"⟩, 30) := ⟨⟨by decide +kernel, by decide +kernel⟩, List.mem_of_getElem? (i := 939) (by decide +kernel), List.mem_of_getElem? (i := 1224) (by decide +kernel), List.mem_of_getElem? (i := 1225) (by decide +kernel)⟩
theorem lw_p45 : lw_okq (⟨"TakenNumbersModel", "hasBest", "(III)Z"⟩, 30) := ⟨⟨by decide +kernel, by decide +kernel⟩, List.mem_of_getElem? (i := 939) (by decide +kernel), List.mem_of_getElem? (i := 1228) (by decide +kernel), List.mem_of_getElem? (i := 1229) (by decide +kernel)⟩
theorem lw_p46 : lw_okq (⟨"TakenNumbersModel", "layOrder", "()V"⟩, 30) := ⟨⟨by decide +kernel, by decide +kernel⟩, List.mem_of_getElem? (i := 939) (by decide +kernel), List.mem_of_getElem? (i := 1242) (by decide +kernel), List.mem_of_getElem? (i := 1243) (by decide +kernel)⟩
theorem lw_p47 : lw_okq (⟨"TakenNumbersModel", "isAhead", "(II)Z"⟩, 30) := ⟨⟨by decide +kernel, by decide +kernel⟩, List.mem_of_getElem? (i := 939) (by decide +kernel), List.mem_of_getElem? (i := 1246) (by decide +kernel), List.mem_of_getElem? (i := 1247) (by decide +kernel)⟩
def lw_privs_3 : List (MethodName × Nat) := [(⟨"TakenNumbersModel", "sumOfWords", "()I"⟩, 30), (⟨"TakenNumbersModel", "priceOfWords", "()I"⟩, 30), (⟨"TakenNumbersModel", "priceOf", "(II)I"⟩, 30), (⟨"TakenNumbersModel", "isSaying", "()Z"⟩, 30), (⟨"TakenNumbersModel", "keepDay", "()V"⟩, 30), (⟨"TakenNumbersModel", "take", "(II)V"⟩, 30), (⟨"TakenNumbersModel", "bestOf", "(III)I"⟩, 30), (⟨"TakenNumbersModel", "layTable", "(II)V"⟩, 30), (⟨"TakenNumbersModel", "laid", "(II)I"⟩, 30), (⟨"TakenNumbersModel", "by", "(IIII)I"⟩, 30), (⟨"TakenNumbersModel", "usedSet", "()I"⟩, 30), (⟨"TakenNumbersModel", "silent", "()I"⟩, 30), (⟨"TakenNumbersModel", "stuckOf", "(III)I"⟩, 30), (⟨"TakenNumbersModel", "hasBest", "(III)Z"⟩, 30), (⟨"TakenNumbersModel", "layOrder", "()V"⟩, 30), (⟨"TakenNumbersModel", "isAhead", "(II)Z"⟩, 30)]
theorem lw_r3 : ∀ q ∈ lw_privs_3, lw_okq q := List.forall_mem_cons.mpr ⟨lw_p32, List.forall_mem_cons.mpr ⟨lw_p33, List.forall_mem_cons.mpr ⟨lw_p34, List.forall_mem_cons.mpr ⟨lw_p35, List.forall_mem_cons.mpr ⟨lw_p36, List.forall_mem_cons.mpr ⟨lw_p37, List.forall_mem_cons.mpr ⟨lw_p38, List.forall_mem_cons.mpr ⟨lw_p39, List.forall_mem_cons.mpr ⟨lw_p40, List.forall_mem_cons.mpr ⟨lw_p41, List.forall_mem_cons.mpr ⟨lw_p42, List.forall_mem_cons.mpr ⟨lw_p43, List.forall_mem_cons.mpr ⟨lw_p44, List.forall_mem_cons.mpr ⟨lw_p45, List.forall_mem_cons.mpr ⟨lw_p46, List.forall_mem_cons.mpr ⟨lw_p47, fun _ h => absurd h List.not_mem_nil⟩⟩⟩⟩⟩⟩⟩⟩⟩⟩⟩⟩⟩⟩⟩⟩
theorem lw_p48 : lw_okq (⟨"TakenNumbersModel", "noSet", "(I)Z"⟩, 30) := ⟨⟨by decide +kernel, by decide +kernel⟩, List.mem_of_getElem? (i := 939) (by decide +kernel), List.mem_of_getElem? (i := 1270) (by decide +kernel), List.mem_of_getElem? (i := 1271) (by decide +kernel)⟩
theorem lw_p49 : lw_okq (⟨"TakenNumbersModel", "waysOf", "(III)I"⟩, 30) := ⟨⟨by decide +kernel, by decide +kernel⟩, List.mem_of_getElem? (i := 939) (by decide +kernel), List.mem_of_getElem? (i := 1274) (by decide +kernel), List.mem_of_getElem? (i := 1275) (by decide +kernel)⟩
theorem lw_p50 : lw_okq (⟨"TakenNumbersModel", "readingsBy", "(II)I"⟩, 30) := ⟨⟨by decide +kernel, by decide +kernel⟩, List.mem_of_getElem? (i := 939) (by decide +kernel), List.mem_of_getElem? (i := 1295) (by decide +kernel), List.mem_of_getElem? (i := 1296) (by decide +kernel)⟩
def lw_privs_4 : List (MethodName × Nat) := [(⟨"TakenNumbersModel", "noSet", "(I)Z"⟩, 30), (⟨"TakenNumbersModel", "waysOf", "(III)I"⟩, 30), (⟨"TakenNumbersModel", "readingsBy", "(II)I"⟩, 30)]
theorem lw_r4 : ∀ q ∈ lw_privs_4, lw_okq q := List.forall_mem_cons.mpr ⟨lw_p48, List.forall_mem_cons.mpr ⟨lw_p49, List.forall_mem_cons.mpr ⟨lw_p50, fun _ h => absurd h List.not_mem_nil⟩⟩⟩
def lw_privs : List (MethodName × Nat) := lw_privs_1 ++ (lw_privs_2 ++ (lw_privs_3 ++ (lw_privs_4)))
def lw_tbl : List Cond := k2_sels lw_privs ++ tables_1
theorem lw_privs_ok : ∀ q ∈ lw_privs, lw_okq q := by
  show ∀ q ∈ lw_privs_1 ++ (lw_privs_2 ++ (lw_privs_3 ++ (lw_privs_4))), lw_okq q
  exact List.forall_mem_append.mpr ⟨lw_r1, List.forall_mem_append.mpr ⟨lw_r2, List.forall_mem_append.mpr ⟨lw_r3, lw_r4⟩⟩⟩
def R_law : String := "TakenNumbersLaw"
def TT : List Cond := lw_tbl.filter goodWord
theorem mt {i : Nat} {w : Cond} (h : lw_tbl[i]? = some w) (hg : goodWord w = true) : w ∈ TT := List.mem_filter.mpr ⟨List.mem_of_getElem? h, hg⟩
theorem TT_good : ∀ w ∈ TT, (w.onTables && w.keeps) = true ∨ ∃ ty, w = .arrayClass ty := fun w h => good_of_word (List.mem_filter.mp h).2
theorem TT_in {cd : Cond} (h : cd ∈ TT) : GoodIn TT (cd :: TT) := fun w hw => by
  rcases List.mem_cons.mp hw with e | e
  · subst e; exact ⟨h, TT_good _ h⟩
  · exact ⟨e, TT_good _ e⟩
def RX0 : String := "TakenNumbers$Book"
def TX0 : u_T := fun k => match k with
  | 0 => ("TakenNumbers$Book", "size", "I", false)
  | 1 => ("TakenNumbers$Book", "readings", "I", false)
  | 2 => ("TakenNumbers$Book", "rows", "[I", true)
  | 3 => ("TakenNumbers$Book", "canBe", "[I", true)
  | 4 => ("TakenNumbers$Book", "wasOf", "[I", true)
  | _ => ("TakenNumbers$Book", "isOf", "[I", true)
def tX0 : Nat → FieldType := fun k => match k with
  | 0 => .int
  | 1 => .int
  | 2 => .array .int
  | 3 => .array .int
  | 4 => .array .int
  | _ => .array .int
theorem tX0_ok : ∀ k, k < 6 → parseFieldDescriptor (TX0 k).2.2.1 = some (tX0 k) := by decide +kernel
theorem nX0 : ∀ a, a < 6 → ∀ b, b < 6 → a ≠ b → (TX0 a).2.1 ≠ (TX0 b).2.1 := by decide +kernel
theorem iX0 : ∀ k, k < 6 → (lw_tbl[([231, 233, 235, 237, 239, 241] : List Nat).getD k 0]? = some (u_lay RX0 TX0 k) ∧ goodWord (u_lay RX0 TX0 k) = true) := by decide +kernel
theorem wX0 : ∀ w ∈ u_ws RX0 TX0 6, w ∈ TT := fun w hw => by
  obtain ⟨k, hk, e⟩ := List.mem_map.mp hw
  rw [← e]
  exact mt (iX0 k (List.mem_range.mp hk)).1 (iX0 k (List.mem_range.mp hk)).2
def RX1 : String := "TakenNumbers$Crowd"
def TX1 : u_T := fun k => match k with
  | 0 => ("TakenNumbers$Crowd", "mostStuck", "I", false)
  | 1 => ("TakenNumbers$Crowd", "lower", "I", false)
  | 2 => ("TakenNumbers$Crowd", "higher", "I", false)
  | 3 => ("TakenNumbers$Crowd", "cornerAmount", "I", false)
  | 4 => ("TakenNumbers$Crowd", "mostCan", "I", false)
  | 5 => ("TakenNumbers$Crowd", "bestRow", "[I", true)
  | 6 => ("TakenNumbers$Crowd", "sayings", "LTakenNumbers$Sayings;", true)
  | 7 => ("TakenNumbers$Crowd", "usedFor", "[I", true)
  | 8 => ("TakenNumbers$Crowd", "row", "[I", true)
  | _ => ("TakenNumbers$Crowd", "usedAt", "[I", true)
def tX1 : Nat → FieldType := fun k => match k with
  | 0 => .int
  | 1 => .int
  | 2 => .int
  | 3 => .int
  | 4 => .int
  | 5 => .array .int
  | 6 => .object "TakenNumbers$Sayings"
  | 7 => .array .int
  | 8 => .array .int
  | _ => .array .int
theorem tX1_ok : ∀ k, k < 10 → parseFieldDescriptor (TX1 k).2.2.1 = some (tX1 k) := by decide +kernel
theorem nX1 : ∀ a, a < 10 → ∀ b, b < 10 → a ≠ b → (TX1 a).2.1 ≠ (TX1 b).2.1 := by decide +kernel
theorem iX1 : ∀ k, k < 10 → (lw_tbl[([400, 402, 404, 406, 408, 410, 412, 414, 416, 418] : List Nat).getD k 0]? = some (u_lay RX1 TX1 k) ∧ goodWord (u_lay RX1 TX1 k) = true) := by decide +kernel
theorem wX1 : ∀ w ∈ u_ws RX1 TX1 10, w ∈ TT := fun w hw => by
  obtain ⟨k, hk, e⟩ := List.mem_map.mp hw
  rw [← e]
  exact mt (iX1 k (List.mem_range.mp hk)).1 (iX1 k (List.mem_range.mp hk)).2
def RX2 : String := "TakenNumbers$Day"
def TX2 : u_T := fun k => match k with
  | 0 => ("TakenNumbers$Day", "takenBy", "[I", true)
  | 1 => ("TakenNumbers$Day", "lentTo", "[I", true)
  | 2 => ("TakenNumbers$Day", "said", "I", false)
  | 3 => ("TakenNumbers$Day", "births", "I", false)
  | _ => ("TakenNumbers$Day", "feast", "Z", false)
def tX2 : Nat → FieldType := fun k => match k with
  | 0 => .array .int
  | 1 => .array .int
  | 2 => .int
  | 3 => .int
  | _ => .boolean
theorem tX2_ok : ∀ k, k < 5 → parseFieldDescriptor (TX2 k).2.2.1 = some (tX2 k) := by decide +kernel
theorem nX2 : ∀ a, a < 5 → ∀ b, b < 5 → a ≠ b → (TX2 a).2.1 ≠ (TX2 b).2.1 := by decide +kernel
theorem iX2 : ∀ k, k < 5 → (lw_tbl[([169, 171, 173, 175, 177] : List Nat).getD k 0]? = some (u_lay RX2 TX2 k) ∧ goodWord (u_lay RX2 TX2 k) = true) := by decide +kernel
theorem wX2 : ∀ w ∈ u_ws RX2 TX2 5, w ∈ TT := fun w hw => by
  obtain ⟨k, hk, e⟩ := List.mem_map.mp hw
  rw [← e]
  exact mt (iX2 k (List.mem_range.mp hk)).1 (iX2 k (List.mem_range.mp hk)).2
def RX3 : String := "TakenNumbers$DayStack"
def TX3 : u_T := fun k => match k with
  | 0 => ("TakenNumbers$DayStack", "size", "I", false)
  | _ => ("TakenNumbers$DayStack", "days", "[LTakenNumbers$Day;", true)
def tX3 : Nat → FieldType := fun k => match k with
  | 0 => .int
  | _ => .array (.object "TakenNumbers$Day")
theorem tX3_ok : ∀ k, k < 2 → parseFieldDescriptor (TX3 k).2.2.1 = some (tX3 k) := by decide +kernel
theorem nX3 : ∀ a, a < 2 → ∀ b, b < 2 → a ≠ b → (TX3 a).2.1 ≠ (TX3 b).2.1 := by decide +kernel
theorem iX3 : ∀ k, k < 2 → (lw_tbl[([195, 197] : List Nat).getD k 0]? = some (u_lay RX3 TX3 k) ∧ goodWord (u_lay RX3 TX3 k) = true) := by decide +kernel
theorem wX3 : ∀ w ∈ u_ws RX3 TX3 2, w ∈ TT := fun w hw => by
  obtain ⟨k, hk, e⟩ := List.mem_map.mp hw
  rw [← e]
  exact mt (iX3 k (List.mem_range.mp hk)).1 (iX3 k (List.mem_range.mp hk)).2
def RX4 : String := "TakenNumbers$Port"
def TX4 : u_T := fun k => match k with
  | 0 => ("TakenNumbers$Port", "numbers", "I", false)
  | 1 => ("TakenNumbers$Port", "persons", "I", false)
  | 2 => ("TakenNumbers$Port", "kind", "I", false)
  | 3 => ("TakenNumbers$Port", "lessCost", "I", false)
  | 4 => ("TakenNumbers$Port", "halfCost", "I", false)
  | 5 => ("TakenNumbers$Port", "cost", "[I", true)
  | 6 => ("TakenNumbers$Port", "owned", "[I", true)
  | _ => ("TakenNumbers$Port", "amount", "[I", true)
def tX4 : Nat → FieldType := fun k => match k with
  | 0 => .int
  | 1 => .int
  | 2 => .int
  | 3 => .int
  | 4 => .int
  | 5 => .array .int
  | 6 => .array .int
  | _ => .array .int
theorem tX4_ok : ∀ k, k < 8 → parseFieldDescriptor (TX4 k).2.2.1 = some (tX4 k) := by decide +kernel
theorem nX4 : ∀ a, a < 8 → ∀ b, b < 8 → a ≠ b → (TX4 a).2.1 ≠ (TX4 b).2.1 := by decide +kernel
theorem iX4 : ∀ k, k < 8 → (lw_tbl[([134, 136, 138, 140, 142, 144, 146, 148] : List Nat).getD k 0]? = some (u_lay RX4 TX4 k) ∧ goodWord (u_lay RX4 TX4 k) = true) := by decide +kernel
theorem wX4 : ∀ w ∈ u_ws RX4 TX4 8, w ∈ TT := fun w hw => by
  obtain ⟨k, hk, e⟩ := List.mem_map.mp hw
  rw [← e]
  exact mt (iX4 k (List.mem_range.mp hk)).1 (iX4 k (List.mem_range.mp hk)).2
def RX5 : String := "TakenNumbers$Sayings"
def TX5 : u_T := fun k => match k with
  | 0 => ("TakenNumbers$Sayings", "table", "LTakenNumbers$Table;", true)
  | 1 => ("TakenNumbers$Sayings", "mays", "[I", true)
  | 2 => ("TakenNumbers$Sayings", "kinds", "[I", true)
  | 3 => ("TakenNumbers$Sayings", "ands", "[I", true)
  | 4 => ("TakenNumbers$Sayings", "lesses", "[I", true)
  | 5 => ("TakenNumbers$Sayings", "halves", "[I", true)
  | 6 => ("TakenNumbers$Sayings", "prices", "[I", true)
  | 7 => ("TakenNumbers$Sayings", "turn", "[I", true)
  | _ => ("TakenNumbers$Sayings", "found", "I", false)
def tX5 : Nat → FieldType := fun k => match k with
  | 0 => .object "TakenNumbers$Table"
  | 1 => .array .int
  | 2 => .array .int
  | 3 => .array .int
  | 4 => .array .int
  | 5 => .array .int
  | 6 => .array .int
  | 7 => .array .int
  | _ => .int
theorem tX5_ok : ∀ k, k < 9 → parseFieldDescriptor (TX5 k).2.2.1 = some (tX5 k) := by decide +kernel
theorem nX5 : ∀ a, a < 9 → ∀ b, b < 9 → a ≠ b → (TX5 a).2.1 ≠ (TX5 b).2.1 := by decide +kernel
theorem iX5 : ∀ k, k < 9 → (lw_tbl[([322, 324, 326, 328, 330, 332, 334, 336, 338] : List Nat).getD k 0]? = some (u_lay RX5 TX5 k) ∧ goodWord (u_lay RX5 TX5 k) = true) := by decide +kernel
theorem wX5 : ∀ w ∈ u_ws RX5 TX5 9, w ∈ TT := fun w hw => by
  obtain ⟨k, hk, e⟩ := List.mem_map.mp hw
  rw [← e]
  exact mt (iX5 k (List.mem_range.mp hk)).1 (iX5 k (List.mem_range.mp hk)).2
def RX6 : String := "TakenNumbers$Scene"
def TX6 : u_T := fun k => match k with
  | 0 => ("TakenNumbers$Scene", "who", "I", false)
  | 1 => ("TakenNumbers$Scene", "all", "I", false)
  | 2 => ("TakenNumbers$Scene", "taken", "I", false)
  | 3 => ("TakenNumbers$Scene", "nobodys", "I", false)
  | 4 => ("TakenNumbers$Scene", "kind", "I", false)
  | 5 => ("TakenNumbers$Scene", "amount", "[I", true)
  | _ => ("TakenNumbers$Scene", "own", "[I", true)
def tX6 : Nat → FieldType := fun k => match k with
  | 0 => .int
  | 1 => .int
  | 2 => .int
  | 3 => .int
  | 4 => .int
  | 5 => .array .int
  | _ => .array .int
theorem tX6_ok : ∀ k, k < 7 → parseFieldDescriptor (TX6 k).2.2.1 = some (tX6 k) := by decide +kernel
theorem nX6 : ∀ a, a < 7 → ∀ b, b < 7 → a ≠ b → (TX6 a).2.1 ≠ (TX6 b).2.1 := by decide +kernel
theorem iX6 : ∀ k, k < 7 → (lw_tbl[([363, 365, 367, 369, 371, 373, 375] : List Nat).getD k 0]? = some (u_lay RX6 TX6 k) ∧ goodWord (u_lay RX6 TX6 k) = true) := by decide +kernel
theorem wX6 : ∀ w ∈ u_ws RX6 TX6 7, w ∈ TT := fun w hw => by
  obtain ⟨k, hk, e⟩ := List.mem_map.mp hw
  rw [← e]
  exact mt (iX6 k (List.mem_range.mp hk)).1 (iX6 k (List.mem_range.mp hk)).2
def RX7 : String := "TakenNumbers$Table"
def TX7 : u_T := fun k => match k with
  | 0 => ("TakenNumbers$Table", "ands", "I", false)
  | 1 => ("TakenNumbers$Table", "lesses", "I", false)
  | 2 => ("TakenNumbers$Table", "halves", "I", false)
  | 3 => ("TakenNumbers$Table", "price", "I", false)
  | 4 => ("TakenNumbers$Table", "least", "[I", true)
  | 5 => ("TakenNumbers$Table", "low", "[I", true)
  | 6 => ("TakenNumbers$Table", "high", "[I", true)
  | 7 => ("TakenNumbers$Table", "numbers", "[I", true)
  | 8 => ("TakenNumbers$Table", "prices", "[I", true)
  | 9 => ("TakenNumbers$Table", "size", "I", false)
  | 10 => ("TakenNumbers$Table", "builtMay", "I", false)
  | _ => ("TakenNumbers$Table", "builtKind", "I", false)
def tX7 : Nat → FieldType := fun k => match k with
  | 0 => .int
  | 1 => .int
  | 2 => .int
  | 3 => .int
  | 4 => .array .int
  | 5 => .array .int
  | 6 => .array .int
  | 7 => .array .int
  | 8 => .array .int
  | 9 => .int
  | 10 => .int
  | _ => .int
theorem tX7_ok : ∀ k, k < 12 → parseFieldDescriptor (TX7 k).2.2.1 = some (tX7 k) := by decide +kernel
theorem nX7 : ∀ a, a < 12 → ∀ b, b < 12 → a ≠ b → (TX7 a).2.1 ≠ (TX7 b).2.1 := by decide +kernel
theorem iX7 : ∀ k, k < 12 → (lw_tbl[([288, 290, 292, 294, 296, 298, 300, 302, 304, 306, 308, 310] : List Nat).getD k 0]? = some (u_lay RX7 TX7 k) ∧ goodWord (u_lay RX7 TX7 k) = true) := by decide +kernel
theorem wX7 : ∀ w ∈ u_ws RX7 TX7 12, w ∈ TT := fun w hw => by
  obtain ⟨k, hk, e⟩ := List.mem_map.mp hw
  rw [← e]
  exact mt (iX7 k (List.mem_range.mp hk)).1 (iX7 k (List.mem_range.mp hk)).2
def RX8 : String := "TakenNumbers$Text"
def TX8 : u_T := fun k => match k with
  | 0 => ("TakenNumbers$Text", "length", "I", false)
  | 1 => ("TakenNumbers$Text", "letters", "[C", true)
  | 2 => ("TakenNumbers$Text", "told", "[I", true)
  | 3 => ("TakenNumbers$Text", "at", "I", false)
  | _ => ("TakenNumbers$Text", "onlyN", "Z", false)
def tX8 : Nat → FieldType := fun k => match k with
  | 0 => .int
  | 1 => .array .char
  | 2 => .array .int
  | 3 => .int
  | _ => .boolean
theorem tX8_ok : ∀ k, k < 5 → parseFieldDescriptor (TX8 k).2.2.1 = some (tX8 k) := by decide +kernel
theorem nX8 : ∀ a, a < 5 → ∀ b, b < 5 → a ≠ b → (TX8 a).2.1 ≠ (TX8 b).2.1 := by decide +kernel
theorem iX8 : ∀ k, k < 5 → (lw_tbl[([92, 94, 96, 98, 100] : List Nat).getD k 0]? = some (u_lay RX8 TX8 k) ∧ goodWord (u_lay RX8 TX8 k) = true) := by decide +kernel
theorem wX8 : ∀ w ∈ u_ws RX8 TX8 5, w ∈ TT := fun w hw => by
  obtain ⟨k, hk, e⟩ := List.mem_map.mp hw
  rw [← e]
  exact mt (iX8 k (List.mem_range.mp hk)).1 (iX8 k (List.mem_range.mp hk)).2
def RX9 : String := "TakenNumbers$WaySums"
def TX9 : u_T := fun k => match k with
  | 0 => ("TakenNumbers$WaySums", "ways", "[I", false)
  | 1 => ("TakenNumbers$WaySums", "next", "[I", false)
  | _ => ("TakenNumbers$WaySums", "bound", "I", false)
def tX9 : Nat → FieldType := fun k => match k with
  | 0 => .array .int
  | 1 => .array .int
  | _ => .int
theorem tX9_ok : ∀ k, k < 3 → parseFieldDescriptor (TX9 k).2.2.1 = some (tX9 k) := by decide +kernel
theorem nX9 : ∀ a, a < 3 → ∀ b, b < 3 → a ≠ b → (TX9 a).2.1 ≠ (TX9 b).2.1 := by decide +kernel
theorem iX9 : ∀ k, k < 3 → (lw_tbl[([253, 255, 257] : List Nat).getD k 0]? = some (u_lay RX9 TX9 k) ∧ goodWord (u_lay RX9 TX9 k) = true) := by decide +kernel
theorem wX9 : ∀ w ∈ u_ws RX9 TX9 3, w ∈ TT := fun w hw => by
  obtain ⟨k, hk, e⟩ := List.mem_map.mp hw
  rw [← e]
  exact mt (iX9 k (List.mem_range.mp hk)).1 (iX9 k (List.mem_range.mp hk)).2
def RX10 : String := "TakenNumbers$Words"
def TX10 : u_T := fun k => match k with
  | 0 => ("TakenNumbers$Words", "size", "I", false)
  | 1 => ("TakenNumbers$Words", "numbers", "[I", true)
  | _ => ("TakenNumbers$Words", "uses", "[I", true)
def tX10 : Nat → FieldType := fun k => match k with
  | 0 => .int
  | 1 => .array .int
  | _ => .array .int
theorem tX10_ok : ∀ k, k < 3 → parseFieldDescriptor (TX10 k).2.2.1 = some (tX10 k) := by decide +kernel
theorem nX10 : ∀ a, a < 3 → ∀ b, b < 3 → a ≠ b → (TX10 a).2.1 ≠ (TX10 b).2.1 := by decide +kernel
theorem iX10 : ∀ k, k < 3 → (lw_tbl[([210, 212, 214] : List Nat).getD k 0]? = some (u_lay RX10 TX10 k) ∧ goodWord (u_lay RX10 TX10 k) = true) := by decide +kernel
theorem wX10 : ∀ w ∈ u_ws RX10 TX10 3, w ∈ TT := fun w hw => by
  obtain ⟨k, hk, e⟩ := List.mem_map.mp hw
  rw [← e]
  exact mt (iX10 k (List.mem_range.mp hk)).1 (iX10 k (List.mem_range.mp hk)).2
def RX11 : String := "TakenNumbers"
def TX11 : u_T := fun k => match k with
  | 0 => ("TakenNumbers", "text", "LTakenNumbers$Text;", true)
  | 1 => ("TakenNumbers", "port", "LTakenNumbers$Port;", false)
  | 2 => ("TakenNumbers", "draft", "LTakenNumbers$Port;", false)
  | 3 => ("TakenNumbers", "day", "LTakenNumbers$Day;", true)
  | 4 => ("TakenNumbers", "past", "LTakenNumbers$DayStack;", true)
  | 5 => ("TakenNumbers", "kept", "LTakenNumbers$DayStack;", true)
  | 6 => ("TakenNumbers", "theWords", "LTakenNumbers$Words;", true)
  | 7 => ("TakenNumbers", "theBook", "LTakenNumbers$Book;", true)
  | 8 => ("TakenNumbers", "waySums", "LTakenNumbers$WaySums;", true)
  | 9 => ("TakenNumbers", "sayings", "LTakenNumbers$Sayings;", true)
  | 10 => ("TakenNumbers", "scene", "LTakenNumbers$Scene;", true)
  | _ => ("TakenNumbers", "crowd", "LTakenNumbers$Crowd;", true)
def tX11 : Nat → FieldType := fun k => match k with
  | 0 => .object "TakenNumbers$Text"
  | 1 => .object "TakenNumbers$Port"
  | 2 => .object "TakenNumbers$Port"
  | 3 => .object "TakenNumbers$Day"
  | 4 => .object "TakenNumbers$DayStack"
  | 5 => .object "TakenNumbers$DayStack"
  | 6 => .object "TakenNumbers$Words"
  | 7 => .object "TakenNumbers$Book"
  | 8 => .object "TakenNumbers$WaySums"
  | 9 => .object "TakenNumbers$Sayings"
  | 10 => .object "TakenNumbers$Scene"
  | _ => .object "TakenNumbers$Crowd"
theorem tX11_ok : ∀ k, k < 12 → parseFieldDescriptor (TX11 k).2.2.1 = some (tX11 k) := by decide +kernel
theorem nX11 : ∀ a, a < 12 → ∀ b, b < 12 → a ≠ b → (TX11 a).2.1 ≠ (TX11 b).2.1 := by decide +kernel
theorem iX11 : ∀ k, k < 12 → (lw_tbl[([550, 552, 554, 556, 558, 560, 562, 564, 566, 568, 570, 572] : List Nat).getD k 0]? = some (u_lay RX11 TX11 k) ∧ goodWord (u_lay RX11 TX11 k) = true) := by decide +kernel
theorem wX11 : ∀ w ∈ u_ws RX11 TX11 12, w ∈ TT := fun w hw => by
  obtain ⟨k, hk, e⟩ := List.mem_map.mp hw
  rw [← e]
  exact mt (iX11 k (List.mem_range.mp hk)).1 (iX11 k (List.mem_range.mp hk)).2
def RX12 : String := "TakenNumbersModel"
def TX12 : u_T := fun k => match k with
  | 0 => ("TakenNumbersModel", "thrown", "I", false)
  | 1 => ("TakenNumbersModel", "port", "[I", true)
  | 2 => ("TakenNumbersModel", "fresh", "[I", true)
  | 3 => ("TakenNumbersModel", "day", "[I", true)
  | 4 => ("TakenNumbersModel", "was", "[I", true)
  | 5 => ("TakenNumbersModel", "undone", "I", false)
  | 6 => ("TakenNumbersModel", "kept", "[I", true)
  | 7 => ("TakenNumbersModel", "keeps", "I", false)
  | 8 => ("TakenNumbersModel", "text", "[I", true)
  | 9 => ("TakenNumbersModel", "size", "I", false)
  | 10 => ("TakenNumbersModel", "at", "I", false)
  | 11 => ("TakenNumbersModel", "figure", "[I", true)
  | 12 => ("TakenNumbersModel", "freed", "I", false)
  | 13 => ("TakenNumbersModel", "word", "[I", true)
  | 14 => ("TakenNumbersModel", "words", "I", false)
  | 15 => ("TakenNumbersModel", "table", "[I", true)
  | 16 => ("TakenNumbersModel", "ands", "I", false)
  | 17 => ("TakenNumbersModel", "lesses", "I", false)
  | 18 => ("TakenNumbersModel", "halves", "I", false)
  | 19 => ("TakenNumbersModel", "tried", "[I", true)
  | 20 => ("TakenNumbersModel", "gone", "[I", true)
  | 21 => ("TakenNumbersModel", "could", "[I", true)
  | 22 => ("TakenNumbersModel", "order", "[I", true)
  | 23 => ("TakenNumbersModel", "most", "I", false)
  | 24 => ("TakenNumbersModel", "sums", "[I", true)
  | 25 => ("TakenNumbersModel", "more", "[I", true)
  | 26 => ("TakenNumbersModel", "row", "[I", true)
  | 27 => ("TakenNumbersModel", "rows", "I", false)
  | 28 => ("TakenNumbersModel", "can", "[I", true)
  | _ => ("TakenNumbersModel", "readings", "[I", true)
def tX12 : Nat → FieldType := fun k => match k with
  | 0 => .int
  | 1 => .array .int
  | 2 => .array .int
  | 3 => .array .int
  | 4 => .array .int
  | 5 => .int
  | 6 => .array .int
  | 7 => .int
  | 8 => .array .int
  | 9 => .int
  | 10 => .int
  | 11 => .array .int
  | 12 => .int
  | 13 => .array .int
  | 14 => .int
  | 15 => .array .int
  | 16 => .int
  | 17 => .int
  | 18 => .int
  | 19 => .array .int
  | 20 => .array .int
  | 21 => .array .int
  | 22 => .array .int
  | 23 => .int
  | 24 => .array .int
  | 25 => .array .int
  | 26 => .array .int
  | 27 => .int
  | 28 => .array .int
  | _ => .array .int
theorem tX12_ok : ∀ k, k < 30 → parseFieldDescriptor (TX12 k).2.2.1 = some (tX12 k) := by decide +kernel
theorem nX12 : ∀ a, a < 30 → ∀ b, b < 30 → a ≠ b → (TX12 a).2.1 ≠ (TX12 b).2.1 := by decide +kernel
theorem iX12 : ∀ k, k < 30 → (lw_tbl[([1033, 1035, 1037, 1039, 1041, 1043, 1045, 1047, 1049, 1051, 1053, 1055, 1057, 1059, 1061, 1063, 1065, 1067, 1069, 1071, 1073, 1075, 1077, 1079, 1081, 1083, 1085, 1087, 1089, 1091] : List Nat).getD k 0]? = some (u_lay RX12 TX12 k) ∧ goodWord (u_lay RX12 TX12 k) = true) := by decide +kernel
theorem wX12 : ∀ w ∈ u_ws RX12 TX12 30, w ∈ TT := fun w hw => by
  obtain ⟨k, hk, e⟩ := List.mem_map.mp hw
  rw [← e]
  exact mt (iX12 k (List.mem_range.mp hk)).1 (iX12 k (List.mem_range.mp hk)).2
abbrev cls : List vw_C := [(RX0, TX0, 6), (RX1, TX1, 10), (RX2, TX2, 5), (RX3, TX3, 2), (RX4, TX4, 8), (RX5, TX5, 9), (RX6, TX6, 7), (RX7, TX7, 12), (RX8, TX8, 5), (RX9, TX9, 3), (RX10, TX10, 3), (RX11, TX11, 12), (RX12, TX12, 30)]
def kdl : List Nat := [99, 11, 8, 14, 13, 4, 13, 13, 13, 4, 13, 13, 13, 2, 13, 13, 3, 15, 2, 13, 13, 2, 13, 13, 2, 13, 13, 2, 13, 13, 2, 13, 13, 2, 13, 13, 2, 13, 13, 2, 13, 13, 3, 15, 2, 13, 13, 2, 13, 13, 10, 13, 13, 0, 13, 13, 13, 13, 9, 13, 13, 5, 7, 13, 13, 13, 13, 13, 13, 13, 13, 13, 13, 13, 13, 6, 13, 13, 1, 13, 13, 13, 13, 12, 16, 16, 16, 16, 16, 16, 16, 16, 16, 16, 16, 16, 16, 16, 16, 16, 16, 16]
def lnl : List Nat := [0, 12, 5, 200, 3, 8, 25, 6, 6, 8, 25, 6, 6, 5, 8, 6, 2, 8, 5, 8, 6, 5, 8, 6, 5, 8, 6, 5, 8, 6, 5, 8, 6, 5, 8, 6, 5, 8, 6, 5, 8, 6, 2, 2, 5, 8, 6, 5, 8, 6, 3, 10, 10, 6, 6, 6, 6, 6, 3, 601, 601, 9, 12, 15025, 25, 25, 24, 100, 800, 800, 800, 800, 800, 800, 100, 7, 6, 6, 10, 6, 100, 6, 36, 30, 59, 59, 51, 408, 102, 200, 3, 20, 15626, 7, 7, 7, 6, 601, 601, 6, 6, 64]
def nfl : List Nat := [6, 10, 5, 2, 8, 9, 7, 12, 5, 3, 3, 12, 30]
def frl : List (List Bool) := [[false, false, true, true, true, true], [false, false, false, false, false, true, true, true, true, true], [true, true, false, false, false], [false, true], [false, false, false, false, false, true, true, true], [true, true, true, true, true, true, true, true, false], [false, false, false, false, false, true, true], [false, false, false, false, true, true, true, true, true, false, false, false], [false, true, true, false, false], [true, true, false], [false, true, true], [true, true, true, true, true, true, true, true, true, true, true, true], [false, true, true, true, true, false, true, false, true, false, false, true, false, true, false, true, false, false, false, true, true, true, true, false, true, true, true, false, true, true]]
def NX : Nat := 82
def NT : Nat := 101
theorem cls_ok (ci : Nat) (C : String) (T : u_T) (N : Nat) (h : cls[ci]? = some (C, T, N)) : (∀ w ∈ u_ws C T N, w ∈ TT) ∧ nfl.getD ci 0 = N ∧ (∀ a, a < N → ∀ b, b < N → a ≠ b → (T a).2.1 ≠ (T b).2.1) ∧ ∃ ty0 : Nat → FieldType, ∀ k, k < N → parseFieldDescriptor (T k).2.2.1 = some (ty0 k) := by
  match ci, h with
  | 0, h => cases h; exact ⟨wX0, rfl, nX0, tX0, tX0_ok⟩
  | 1, h => cases h; exact ⟨wX1, rfl, nX1, tX1, tX1_ok⟩
  | 2, h => cases h; exact ⟨wX2, rfl, nX2, tX2, tX2_ok⟩
  | 3, h => cases h; exact ⟨wX3, rfl, nX3, tX3, tX3_ok⟩
  | 4, h => cases h; exact ⟨wX4, rfl, nX4, tX4, tX4_ok⟩
  | 5, h => cases h; exact ⟨wX5, rfl, nX5, tX5, tX5_ok⟩
  | 6, h => cases h; exact ⟨wX6, rfl, nX6, tX6, tX6_ok⟩
  | 7, h => cases h; exact ⟨wX7, rfl, nX7, tX7, tX7_ok⟩
  | 8, h => cases h; exact ⟨wX8, rfl, nX8, tX8, tX8_ok⟩
  | 9, h => cases h; exact ⟨wX9, rfl, nX9, tX9, tX9_ok⟩
  | 10, h => cases h; exact ⟨wX10, rfl, nX10, tX10, tX10_ok⟩
  | 11, h => cases h; exact ⟨wX11, rfl, nX11, tX11, tX11_ok⟩
  | 12, h => cases h; exact ⟨wX12, rfl, nX12, tX12, tX12_ok⟩
  | k + 13, h => simp [cls] at h
def yX0_init : MethodName := ⟨RX0, "<init>", "()V"⟩
abbrev bX0_init : ByteArray := prog_2_method_1_code
def yX0_append : MethodName := ⟨RX0, "append", "(I)Z"⟩
abbrev bX0_append : ByteArray := prog_2_method_2_code
def yX0_inTwoRows : MethodName := ⟨RX0, "inTwoRows", "()I"⟩
abbrev bX0_inTwoRows : ByteArray := prog_2_method_3_code
def yX0_read : MethodName := ⟨RX0, "read", "(LTakenNumbers$Port;LTakenNumbers$WaySums;)V"⟩
abbrev bX0_read : ByteArray := prog_2_method_4_code
def yX0_surePerson : MethodName := ⟨RX0, "surePerson", "(I)I"⟩
abbrev bX0_surePerson : ByteArray := prog_2_method_5_code
def yX0_readFrom : MethodName := ⟨RX0, "readFrom", "(II)V"⟩
abbrev bX0_readFrom : ByteArray := prog_2_method_6_code
def yX1_init : MethodName := ⟨RX1, "<init>", "(LTakenNumbers$Sayings;)V"⟩
abbrev bX1_init : ByteArray := prog_3_method_1_code
def yX1_stuckIn : MethodName := ⟨RX1, "stuckIn", "(LTakenNumbers$Scene;)I"⟩
abbrev bX1_stuckIn : ByteArray := prog_3_method_2_code
def yX1_denyOne : MethodName := ⟨RX1, "denyOne", "(LTakenNumbers$Scene;)Z"⟩
abbrev bX1_denyOne : ByteArray := prog_3_method_3_code
def yX1_denyTwo : MethodName := ⟨RX1, "denyTwo", "(LTakenNumbers$Scene;)Z"⟩
abbrev bX1_denyTwo : ByteArray := prog_3_method_4_code
def yX1_cornerBy : MethodName := ⟨RX1, "cornerBy", "(LTakenNumbers$Scene;I)Z"⟩
abbrev bX1_cornerBy : ByteArray := prog_3_method_5_code
def yX1_findOrder : MethodName := ⟨RX1, "findOrder", "(LTakenNumbers$Scene;)V"⟩
abbrev bX1_findOrder : ByteArray := prog_3_method_6_code
def yX1_getsWorse : MethodName := ⟨RX1, "getsWorse", "(LTakenNumbers$Scene;I)Z"⟩
abbrev bX1_getsWorse : ByteArray := prog_3_method_7_code
def yX1_search : MethodName := ⟨RX1, "search", "(LTakenNumbers$Scene;IIII)V"⟩
abbrev bX1_search : ByteArray := prog_3_method_8_code
def yX1_ableAt : MethodName := ⟨RX1, "ableAt", "(LTakenNumbers$Scene;III)I"⟩
abbrev bX1_ableAt : ByteArray := prog_3_method_9_code
def yX1_record : MethodName := ⟨RX1, "record", "(III)V"⟩
abbrev bX1_record : ByteArray := prog_3_method_10_code
def yX2_init : MethodName := ⟨RX2, "<init>", "()V"⟩
abbrev bX2_init : ByteArray := prog_4_method_1_code
def yX2_begin : MethodName := ⟨RX2, "begin", "(Z)V"⟩
abbrev bX2_begin : ByteArray := prog_4_method_2_code
def yX2_copy : MethodName := ⟨RX2, "copy", "(LTakenNumbers$Day;)V"⟩
abbrev bX2_copy : ByteArray := prog_4_method_3_code
def yX2_take : MethodName := ⟨RX2, "take", "(II)V"⟩
abbrev bX2_take : ByteArray := prog_4_method_4_code
def yX2_taken : MethodName := ⟨RX2, "taken", "()I"⟩
abbrev bX2_taken : ByteArray := prog_4_method_5_code
def yX2_lent : MethodName := ⟨RX2, "lent", "()I"⟩
abbrev bX2_lent : ByteArray := prog_4_method_6_code
def yX3_init : MethodName := ⟨RX3, "<init>", "(I)V"⟩
abbrev bX3_init : ByteArray := prog_5_method_1_code
def yX3_push : MethodName := ⟨RX3, "push", "(LTakenNumbers$Day;)V"⟩
abbrev bX3_push : ByteArray := prog_5_method_2_code
def yX3_pop : MethodName := ⟨RX3, "pop", "(LTakenNumbers$Day;)Z"⟩
abbrev bX3_pop : ByteArray := prog_5_method_3_code
def yX3_dropOldest : MethodName := ⟨RX3, "dropOldest", "()V"⟩
abbrev bX3_dropOldest : ByteArray := prog_5_method_4_code
def yX4_init : MethodName := ⟨RX4, "<init>", "()V"⟩
abbrev bX4_init : ByteArray := prog_6_method_1_code
def yX4_clear : MethodName := ⟨RX4, "clear", "()V"⟩
abbrev bX4_clear : ByteArray := prog_6_method_2_code
def yX4_isNumber : MethodName := ⟨RX4, "isNumber", "(I)Z"⟩
abbrev bX4_isNumber : ByteArray := prog_6_method_3_code
def yX4_isPerson : MethodName := ⟨RX4, "isPerson", "(I)Z"⟩
abbrev bX4_isPerson : ByteArray := prog_6_method_4_code
def yX4_isSet : MethodName := ⟨RX4, "isSet", "(I)Z"⟩
abbrev bX4_isSet : ByteArray := prog_6_method_5_code
def yX4_all : MethodName := ⟨RX4, "all", "()I"⟩
abbrev bX4_all : ByteArray := prog_6_method_6_code
def yX4_price : MethodName := ⟨RX4, "price", "(II)I"⟩
abbrev bX4_price : ByteArray := prog_6_method_7_code
def yX4_setNumbers : MethodName := ⟨RX4, "setNumbers", "(I)Z"⟩
abbrev bX4_setNumbers : ByteArray := prog_6_method_8_code
def yX4_setCost : MethodName := ⟨RX4, "setCost", "(II)Z"⟩
abbrev bX4_setCost : ByteArray := prog_6_method_9_code
def yX4_addPerson : MethodName := ⟨RX4, "addPerson", "(I)Z"⟩
abbrev bX4_addPerson : ByteArray := prog_6_method_10_code
def yX4_setOwner : MethodName := ⟨RX4, "setOwner", "(II)Z"⟩
abbrev bX4_setOwner : ByteArray := prog_6_method_11_code
def yX4_setLaw : MethodName := ⟨RX4, "setLaw", "(III)Z"⟩
abbrev bX4_setLaw : ByteArray := prog_6_method_12_code
def yX5_init : MethodName := ⟨RX5, "<init>", "()V"⟩
abbrev bX5_init : ByteArray := prog_7_method_1_code
def yX5_forget : MethodName := ⟨RX5, "forget", "(LTakenNumbers$Port;)V"⟩
abbrev bX5_forget : ByteArray := prog_7_method_2_code
def yX5_find : MethodName := ⟨RX5, "find", "(III)I"⟩
abbrev bX5_find : ByteArray := prog_7_method_3_code
def yX5_price : MethodName := ⟨RX5, "price", "()I"⟩
abbrev bX5_price : ByteArray := prog_7_method_4_code
def yX5_inUse : MethodName := ⟨RX5, "inUse", "(I)I"⟩
abbrev bX5_inUse : ByteArray := prog_7_method_5_code
def yX5_used : MethodName := ⟨RX5, "used", "(I)I"⟩
abbrev bX5_used : ByteArray := prog_7_method_6_code
def yX5_oneOf : MethodName := ⟨RX5, "oneOf", "(I)I"⟩
abbrev bX5_oneOf : ByteArray := prog_7_method_7_code
def yX6_init : MethodName := ⟨RX6, "<init>", "()V"⟩
abbrev bX6_init : ByteArray := prog_8_method_1_code
def yX6_setNow : MethodName := ⟨RX6, "setNow", "(LTakenNumbers$Port;LTakenNumbers$Day;)V"⟩
abbrev bX6_setNow : ByteArray := prog_8_method_2_code
def yX6_setDrawn : MethodName := ⟨RX6, "setDrawn", "(LTakenNumbers$Port;II)V"⟩
abbrev bX6_setDrawn : ByteArray := prog_8_method_3_code
def yX6_mayUse : MethodName := ⟨RX6, "mayUse", "(II)I"⟩
abbrev bX6_mayUse : ByteArray := prog_8_method_4_code
def yX6_setFree : MethodName := ⟨RX6, "setFree", "(LTakenNumbers$Port;)V"⟩
abbrev bX6_setFree : ByteArray := prog_8_method_5_code
def yX7_init : MethodName := ⟨RX7, "<init>", "()V"⟩
abbrev bX7_init : ByteArray := prog_9_method_1_code
def yX7_setPort : MethodName := ⟨RX7, "setPort", "(LTakenNumbers$Port;)V"⟩
abbrev bX7_setPort : ByteArray := prog_9_method_2_code
def yX7_build : MethodName := ⟨RX7, "build", "(II)V"⟩
abbrev bX7_build : ByteArray := prog_9_method_3_code
def yX7_pick : MethodName := ⟨RX7, "pick", "(I)V"⟩
abbrev bX7_pick : ByteArray := prog_9_method_4_code
def yX7_listNumbers : MethodName := ⟨RX7, "listNumbers", "()V"⟩
abbrev bX7_listNumbers : ByteArray := prog_9_method_5_code
def yX7_setBounds : MethodName := ⟨RX7, "setBounds", "()V"⟩
abbrev bX7_setBounds : ByteArray := prog_9_method_6_code
def yX7_spread : MethodName := ⟨RX7, "spread", "(III)V"⟩
abbrev bX7_spread : ByteArray := prog_9_method_7_code
def yX7_firstUse : MethodName := ⟨RX7, "firstUse", "(III)I"⟩
abbrev bX7_firstUse : ByteArray := prog_9_method_8_code
def yX7_at : MethodName := ⟨RX7, "at", "(II)I"⟩
abbrev bX7_at : ByteArray := prog_9_method_9_code
def yX7_weight : MethodName := ⟨RX7, "weight", "(II)I"⟩
abbrev bX7_weight : ByteArray := prog_9_method_10_code
def yX7_add : MethodName := ⟨RX7, "add", "(II)V"⟩
abbrev bX7_add : ByteArray := prog_9_method_11_code
def yX8_init : MethodName := ⟨RX8, "<init>", "()V"⟩
abbrev bX8_init : ByteArray := prog_10_method_1_code
def yX8_append : MethodName := ⟨RX8, "append", "(C)Z"⟩
abbrev bX8_append : ByteArray := prog_10_method_2_code
def yX8_readInto : MethodName := ⟨RX8, "readInto", "(LTakenNumbers$Port;)I"⟩
abbrev bX8_readInto : ByteArray := prog_10_method_3_code
def yX8_numbersBehind : MethodName := ⟨RX8, "numbersBehind", "(C)I"⟩
abbrev bX8_numbersBehind : ByteArray := prog_10_method_4_code
def yX8_readItem : MethodName := ⟨RX8, "readItem", "(I)Z"⟩
abbrev bX8_readItem : ByteArray := prog_10_method_5_code
def yX8_readNumber : MethodName := ⟨RX8, "readNumber", "(I)Z"⟩
abbrev bX8_readNumber : ByteArray := prog_10_method_6_code
def yX8_accept : MethodName := ⟨RX8, "accept", "(CLTakenNumbers$Port;)Z"⟩
abbrev bX8_accept : ByteArray := prog_10_method_7_code
def yX9_init : MethodName := ⟨RX9, "<init>", "()V"⟩
abbrev bX9_init : ByteArray := prog_11_method_1_code
def yX9_reckon : MethodName := ⟨RX9, "reckon", "(II)V"⟩
abbrev bX9_reckon : ByteArray := prog_11_method_2_code
def yX9_comingTo : MethodName := ⟨RX9, "comingTo", "(I)I"⟩
abbrev bX9_comingTo : ByteArray := prog_11_method_3_code
def yX9_join : MethodName := ⟨RX9, "join", "(II)V"⟩
abbrev bX9_join : ByteArray := prog_11_method_4_code
def yX10_init : MethodName := ⟨RX10, "<init>", "()V"⟩
abbrev bX10_init : ByteArray := prog_12_method_1_code
def yX10_append : MethodName := ⟨RX10, "append", "(II)Z"⟩
abbrev bX10_append : ByteArray := prog_12_method_2_code
def yX10_set : MethodName := ⟨RX10, "set", "()I"⟩
abbrev bX10_set : ByteArray := prog_12_method_3_code
def yX10_sum : MethodName := ⟨RX10, "sum", "()I"⟩
abbrev bX10_sum : ByteArray := prog_12_method_4_code
def yX10_price : MethodName := ⟨RX10, "price", "(LTakenNumbers$Port;)I"⟩
abbrev bX10_price : ByteArray := prog_12_method_5_code
def yX10_areSaying : MethodName := ⟨RX10, "areSaying", "(I)Z"⟩
abbrev bX10_areSaying : ByteArray := prog_12_method_6_code
def yX11_init : MethodName := ⟨RX11, "<init>", "()V"⟩
abbrev bX11_init : ByteArray := prog_1_method_1_code
def yX11_write : MethodName := ⟨RX11, "write", "(I)I"⟩
abbrev bX11_write : ByteArray := prog_1_method_2_code
def yX11_wipe : MethodName := ⟨RX11, "wipe", "()I"⟩
abbrev bX11_wipe : ByteArray := prog_1_method_3_code
def yX11_fault : MethodName := ⟨RX11, "fault", "()I"⟩
abbrev bX11_fault : ByteArray := prog_1_method_4_code
def yX11_lay : MethodName := ⟨RX11, "lay", "()I"⟩
abbrev bX11_lay : ByteArray := prog_1_method_5_code
def yX11_number : MethodName := ⟨RX11, "number", "(II)I"⟩
abbrev bX11_number : ByteArray := prog_1_method_6_code
def yX11_person : MethodName := ⟨RX11, "person", "(II)I"⟩
abbrev bX11_person : ByteArray := prog_1_method_7_code
def yX11_law : MethodName := ⟨RX11, "law", "(I)I"⟩
abbrev bX11_law : ByteArray := prog_1_method_8_code
def yX11_tell : MethodName := ⟨RX11, "tell", "(II)I"⟩
abbrev bX11_tell : ByteArray := prog_1_method_9_code
def yX11_hush : MethodName := ⟨RX11, "hush", "()I"⟩
abbrev bX11_hush : ByteArray := prog_1_method_10_code
def yX11_words : MethodName := ⟨RX11, "words", "(I)I"⟩
abbrev bX11_words : ByteArray := prog_1_method_11_code
def yX11_say : MethodName := ⟨RX11, "say", "(I)I"⟩
abbrev bX11_say : ByteArray := prog_1_method_12_code
def yX11_speak : MethodName := ⟨RX11, "speak", "(I)I"⟩
abbrev bX11_speak : ByteArray := prog_1_method_13_code
def yX11_lend : MethodName := ⟨RX11, "lend", "(II)I"⟩
abbrev bX11_lend : ByteArray := prog_1_method_14_code
def yX11_born : MethodName := ⟨RX11, "born", "()I"⟩
abbrev bX11_born : ByteArray := prog_1_method_15_code
def yX11_dusk : MethodName := ⟨RX11, "dusk", "(Z)I"⟩
abbrev bX11_dusk : ByteArray := prog_1_method_16_code
def yX11_undo : MethodName := ⟨RX11, "undo", "()I"⟩
abbrev bX11_undo : ByteArray := prog_1_method_17_code
def yX11_best : MethodName := ⟨RX11, "best", "(III)I"⟩
abbrev bX11_best : ByteArray := prog_1_method_18_code
def yX11_stuck : MethodName := ⟨RX11, "stuck", "()I"⟩
abbrev bX11_stuck : ByteArray := prog_1_method_19_code
def yX11_freed : MethodName := ⟨RX11, "freed", "(I)I"⟩
abbrev bX11_freed : ByteArray := prog_1_method_20_code
def yX11_order : MethodName := ⟨RX11, "order", "(I)I"⟩
abbrev bX11_order : ByteArray := prog_1_method_21_code
def yX11_deny : MethodName := ⟨RX11, "deny", "(II)I"⟩
abbrev bX11_deny : ByteArray := prog_1_method_22_code
def yX11_guard : MethodName := ⟨RX11, "guard", "()I"⟩
abbrev bX11_guard : ByteArray := prog_1_method_23_code
def yX11_value : MethodName := ⟨RX11, "value", "(I)I"⟩
abbrev bX11_value : ByteArray := prog_1_method_24_code
def yX11_changed : MethodName := ⟨RX11, "changed", "()I"⟩
abbrev bX11_changed : ByteArray := prog_1_method_25_code
def yX11_ways : MethodName := ⟨RX11, "ways", "(III)I"⟩
abbrev bX11_ways : ByteArray := prog_1_method_26_code
def yX11_lowest : MethodName := ⟨RX11, "lowest", "(I)I"⟩
abbrev bX11_lowest : ByteArray := prog_1_method_27_code
def yX11_enter : MethodName := ⟨RX11, "enter", "(I)I"⟩
abbrev bX11_enter : ByteArray := prog_1_method_28_code
def yX11_close : MethodName := ⟨RX11, "close", "()I"⟩
abbrev bX11_close : ByteArray := prog_1_method_29_code
def yX11_book : MethodName := ⟨RX11, "book", "(I)I"⟩
abbrev bX11_book : ByteArray := prog_1_method_30_code
def yX11_twice : MethodName := ⟨RX11, "twice", "()I"⟩
abbrev bX11_twice : ByteArray := prog_1_method_31_code
def yX11_corner : MethodName := ⟨RX11, "corner", "(II)I"⟩
abbrev bX11_corner : ByteArray := prog_1_method_32_code
def yX11_year : MethodName := ⟨RX11, "year", "(III)I"⟩
abbrev bX11_year : ByteArray := prog_1_method_33_code
def yX11_keep : MethodName := ⟨RX11, "keep", "()I"⟩
abbrev bX11_keep : ByteArray := prog_1_method_34_code
def yX11_back : MethodName := ⟨RX11, "back", "()I"⟩
abbrev bX11_back : ByteArray := prog_1_method_35_code
def yX11_count : MethodName := ⟨RX11, "count", "(I)I"⟩
abbrev bX11_count : ByteArray := prog_1_method_36_code
def yX11_sceneNow : MethodName := ⟨RX11, "sceneNow", "()LTakenNumbers$Scene;"⟩
abbrev bX11_sceneNow : ByteArray := prog_1_method_37_code
def yX11_usedNow : MethodName := ⟨RX11, "usedNow", "(II)I"⟩
abbrev bX11_usedNow : ByteArray := prog_1_method_38_code
def yX11_hasBit : MethodName := ⟨RX11, "hasBit", "(II)Z"⟩
abbrev bX11_hasBit : ByteArray := prog_1_method_39_code
def yX11_firstBit : MethodName := ⟨RX11, "firstBit", "(I)I"⟩
abbrev bX11_firstBit : ByteArray := prog_1_method_40_code
def yX11_holderOf : MethodName := ⟨RX11, "holderOf", "(I[I)I"⟩
abbrev bX11_holderOf : ByteArray := prog_1_method_41_code
def yX11_countsAs : MethodName := ⟨RX11, "countsAs", "(II)I"⟩
abbrev bX11_countsAs : ByteArray := prog_1_method_42_code
def yX11_canStand : MethodName := ⟨RX11, "canStand", "(II)Z"⟩
abbrev bX11_canStand : ByteArray := prog_1_method_43_code
def yX11_lastUse : MethodName := ⟨RX11, "lastUse", "(I)I"⟩
abbrev bX11_lastUse : ByteArray := prog_1_method_44_code
def yX11_together : MethodName := ⟨RX11, "together", "([I)I"⟩
abbrev bX11_together : ByteArray := prog_1_method_45_code
def yX12_in : MethodName := ⟨RX12, "in", "(JJJ)Z"⟩
abbrev bX12_in : ByteArray := prog_14_method_2_code
def yX12_has : MethodName := ⟨RX12, "has", "(II)Z"⟩
abbrev bX12_has : ByteArray := prog_14_method_3_code
def yX12_bits : MethodName := ⟨RX12, "bits", "(I)I"⟩
abbrev bX12_bits : ByteArray := prog_14_method_4_code
def yX12_init : MethodName := ⟨RX12, "<init>", "()V"⟩
abbrev bX12_init : ByteArray := prog_14_method_5_code
def yX12_begin : MethodName := ⟨RX12, "begin", "()V"⟩
abbrev bX12_begin : ByteArray := prog_14_method_6_code
def yX12_dawn : MethodName := ⟨RX12, "dawn", "(Z)V"⟩
abbrev bX12_dawn : ByteArray := prog_14_method_7_code
def yX12_noNumber : MethodName := ⟨RX12, "noNumber", "(I)Z"⟩
abbrev bX12_noNumber : ByteArray := prog_14_method_8_code
def yX12_noOne : MethodName := ⟨RX12, "noOne", "(I)Z"⟩
abbrev bX12_noOne : ByteArray := prog_14_method_9_code
def yX12_noSet : MethodName := ⟨RX12, "noSet", "(I)Z"⟩
abbrev bX12_noSet : ByteArray := prog_14_method_10_code
def yX12_write : MethodName := ⟨RX12, "write", "(I)I"⟩
abbrev bX12_write : ByteArray := prog_14_method_11_code
def yX12_wipe : MethodName := ⟨RX12, "wipe", "()I"⟩
abbrev bX12_wipe : ByteArray := prog_14_method_12_code
def yX12_isFigure : MethodName := ⟨RX12, "isFigure", "()Z"⟩
abbrev bX12_isFigure : ByteArray := prog_14_method_13_code
def yX12_areNumbers : MethodName := ⟨RX12, "areNumbers", "(I)Z"⟩
abbrev bX12_areNumbers : ByteArray := prog_14_method_14_code
def yX12_readItem : MethodName := ⟨RX12, "readItem", "(IZ)Z"⟩
abbrev bX12_readItem : ByteArray := prog_14_method_15_code
def yX12_readAll : MethodName := ⟨RX12, "readAll", "()I"⟩
abbrev bX12_readAll : ByteArray := prog_14_method_16_code
def yX12_fault : MethodName := ⟨RX12, "fault", "()I"⟩
abbrev bX12_fault : ByteArray := prog_14_method_17_code
def yX12_lay : MethodName := ⟨RX12, "lay", "()I"⟩
abbrev bX12_lay : ByteArray := prog_14_method_18_code
def yX12_number : MethodName := ⟨RX12, "number", "(II)I"⟩
abbrev bX12_number : ByteArray := prog_14_method_19_code
def yX12_taken : MethodName := ⟨RX12, "taken", "()I"⟩
abbrev bX12_taken : ByteArray := prog_14_method_20_code
def yX12_ofOne : MethodName := ⟨RX12, "ofOne", "(I)I"⟩
abbrev bX12_ofOne : ByteArray := prog_14_method_21_code
def yX12_mayOf : MethodName := ⟨RX12, "mayOf", "(I)I"⟩
abbrev bX12_mayOf : ByteArray := prog_14_method_22_code
def yX12_person : MethodName := ⟨RX12, "person", "(II)I"⟩
abbrev bX12_person : ByteArray := prog_14_method_23_code
def yX12_law : MethodName := ⟨RX12, "law", "(I)I"⟩
abbrev bX12_law : ByteArray := prog_14_method_24_code
def yX12_counts : MethodName := ⟨RX12, "counts", "(II)I"⟩
abbrev bX12_counts : ByteArray := prog_14_method_25_code
def yX12_priceOf : MethodName := ⟨RX12, "priceOf", "(II)I"⟩
abbrev bX12_priceOf : ByteArray := prog_14_method_26_code
def yX12_tell : MethodName := ⟨RX12, "tell", "(II)I"⟩
abbrev bX12_tell : ByteArray := prog_14_method_27_code
def yX12_hush : MethodName := ⟨RX12, "hush", "()I"⟩
abbrev bX12_hush : ByteArray := prog_14_method_28_code
def yX12_sumOfWords : MethodName := ⟨RX12, "sumOfWords", "()I"⟩
abbrev bX12_sumOfWords : ByteArray := prog_14_method_29_code
def yX12_priceOfWords : MethodName := ⟨RX12, "priceOfWords", "()I"⟩
abbrev bX12_priceOfWords : ByteArray := prog_14_method_30_code
def yX12_isSaying : MethodName := ⟨RX12, "isSaying", "()Z"⟩
abbrev bX12_isSaying : ByteArray := prog_14_method_31_code
def yX12_words : MethodName := ⟨RX12, "words", "(I)I"⟩
abbrev bX12_words : ByteArray := prog_14_method_32_code
def yX12_laid : MethodName := ⟨RX12, "laid", "(II)I"⟩
abbrev bX12_laid : ByteArray := prog_14_method_33_code
def yX12_by : MethodName := ⟨RX12, "by", "(IIII)I"⟩
abbrev bX12_by : ByteArray := prog_14_method_34_code
def yX12_layTable : MethodName := ⟨RX12, "layTable", "(II)V"⟩
abbrev bX12_layTable : ByteArray := prog_14_method_35_code
def yX12_bestOf : MethodName := ⟨RX12, "bestOf", "(III)I"⟩
abbrev bX12_bestOf : ByteArray := prog_14_method_36_code
def yX12_hasBest : MethodName := ⟨RX12, "hasBest", "(III)Z"⟩
abbrev bX12_hasBest : ByteArray := prog_14_method_37_code
def yX12_usedSet : MethodName := ⟨RX12, "usedSet", "()I"⟩
abbrev bX12_usedSet : ByteArray := prog_14_method_38_code
def yX12_keepDay : MethodName := ⟨RX12, "keepDay", "()V"⟩
abbrev bX12_keepDay : ByteArray := prog_14_method_39_code
def yX12_take : MethodName := ⟨RX12, "take", "(II)V"⟩
abbrev bX12_take : ByteArray := prog_14_method_40_code
def yX12_say : MethodName := ⟨RX12, "say", "(I)I"⟩
abbrev bX12_say : ByteArray := prog_14_method_41_code
def yX12_speak : MethodName := ⟨RX12, "speak", "(I)I"⟩
abbrev bX12_speak : ByteArray := prog_14_method_42_code
def yX12_lend : MethodName := ⟨RX12, "lend", "(II)I"⟩
abbrev bX12_lend : ByteArray := prog_14_method_43_code
def yX12_born : MethodName := ⟨RX12, "born", "()I"⟩
abbrev bX12_born : ByteArray := prog_14_method_44_code
def yX12_dusk : MethodName := ⟨RX12, "dusk", "(Z)I"⟩
abbrev bX12_dusk : ByteArray := prog_14_method_45_code
def yX12_undo : MethodName := ⟨RX12, "undo", "()I"⟩
abbrev bX12_undo : ByteArray := prog_14_method_46_code
def yX12_best : MethodName := ⟨RX12, "best", "(III)I"⟩
abbrev bX12_best : ByteArray := prog_14_method_47_code
def yX12_stuckOf : MethodName := ⟨RX12, "stuckOf", "(III)I"⟩
abbrev bX12_stuckOf : ByteArray := prog_14_method_48_code
def yX12_silent : MethodName := ⟨RX12, "silent", "()I"⟩
abbrev bX12_silent : ByteArray := prog_14_method_49_code
def yX12_stuck : MethodName := ⟨RX12, "stuck", "()I"⟩
abbrev bX12_stuck : ByteArray := prog_14_method_50_code
def yX12_freed : MethodName := ⟨RX12, "freed", "(I)I"⟩
abbrev bX12_freed : ByteArray := prog_14_method_51_code
def yX12_isAhead : MethodName := ⟨RX12, "isAhead", "(II)Z"⟩
abbrev bX12_isAhead : ByteArray := prog_14_method_52_code
def yX12_layOrder : MethodName := ⟨RX12, "layOrder", "()V"⟩
abbrev bX12_layOrder : ByteArray := prog_14_method_53_code
def yX12_order : MethodName := ⟨RX12, "order", "(I)I"⟩
abbrev bX12_order : ByteArray := prog_14_method_54_code
def yX12_deny : MethodName := ⟨RX12, "deny", "(II)I"⟩
abbrev bX12_deny : ByteArray := prog_14_method_55_code
def yX12_guard : MethodName := ⟨RX12, "guard", "()I"⟩
abbrev bX12_guard : ByteArray := prog_14_method_56_code
def yX12_value : MethodName := ⟨RX12, "value", "(I)I"⟩
abbrev bX12_value : ByteArray := prog_14_method_57_code
def yX12_changed : MethodName := ⟨RX12, "changed", "()I"⟩
abbrev bX12_changed : ByteArray := prog_14_method_58_code
def yX12_waysOf : MethodName := ⟨RX12, "waysOf", "(III)I"⟩
abbrev bX12_waysOf : ByteArray := prog_14_method_59_code
def yX12_ways : MethodName := ⟨RX12, "ways", "(III)I"⟩
abbrev bX12_ways : ByteArray := prog_14_method_60_code
def yX12_lowest : MethodName := ⟨RX12, "lowest", "(I)I"⟩
abbrev bX12_lowest : ByteArray := prog_14_method_61_code
def yX12_enter : MethodName := ⟨RX12, "enter", "(I)I"⟩
abbrev bX12_enter : ByteArray := prog_14_method_62_code
def yX12_close : MethodName := ⟨RX12, "close", "()I"⟩
abbrev bX12_close : ByteArray := prog_14_method_63_code
def yX12_readingsBy : MethodName := ⟨RX12, "readingsBy", "(II)I"⟩
abbrev bX12_readingsBy : ByteArray := prog_14_method_64_code
def yX12_book : MethodName := ⟨RX12, "book", "(I)I"⟩
abbrev bX12_book : ByteArray := prog_14_method_65_code
def yX12_twice : MethodName := ⟨RX12, "twice", "()I"⟩
abbrev bX12_twice : ByteArray := prog_14_method_66_code
def yX12_corner : MethodName := ⟨RX12, "corner", "(II)I"⟩
abbrev bX12_corner : ByteArray := prog_14_method_67_code
def yX12_year : MethodName := ⟨RX12, "year", "(III)I"⟩
abbrev bX12_year : ByteArray := prog_14_method_68_code
def yX12_keep : MethodName := ⟨RX12, "keep", "()I"⟩
abbrev bX12_keep : ByteArray := prog_14_method_69_code
def yX12_back : MethodName := ⟨RX12, "back", "()I"⟩
abbrev bX12_back : ByteArray := prog_14_method_70_code
def yX12_count : MethodName := ⟨RX12, "count", "(I)I"⟩
abbrev bX12_count : ByteArray := prog_14_method_71_code
def yJ6_bitCount_0f7a4 : MethodName := ⟨"java/lang/Integer", "bitCount", "(I)I"⟩
abbrev bJ6_bitCount_0f7a4 : ByteArray := prog_15_method_49_code
end
section
/-! my own base: a flat picture of all cells that the two constructors make, and a row for each instruction that touches it -/
def kd (a : Nat) : Nat := kdl.getD a 99
def ln (a : Nat) : Nat := lnl.getD a 0
def nf (ci : Nat) : Nat := nfl.getD ci 0
def fr (ci k : Nat) : Bool := (frl.getD ci []).getD k false
/-- ints and references of every cell, by its relative address and place; reference 0 is null -/
abbrev Hp : Type := (Nat → Nat → Int32) × (Nat → Nat → Nat)
def si (h : Hp) (a k : Nat) (v : Int32) : Hp := (fun b => if b = a then upd (h.1 a) k v else h.1 b, h.2)
def sr (h : Hp) (a k : Nat) (q : Nat) : Hp := (h.1, fun b => if b = a then (fun j => if j = k then q else h.2 a j) else h.2 b)
/-- a new cell: ints 0, references null -/
def sz (h : Hp) (a : Nat) : Hp := (fun b => if b = a then (fun _ => 0) else h.1 b, fun b => if b = a then (fun _ => 0) else h.2 b)
/-- a cell's ints all at once -/
def sc (h : Hp) (a : Nat) (f : Nat → Int32) : Hp := (fun b => if b = a then f else h.1 b, h.2)
abbrev GG : Type := va_G × ClassId × ClassId × ClassId × Nat
abbrev bs (G : GG) : Nat := G.2.2.2.2
def ro (b q : Nat) : Option Nat := if q = 0 then none else some (b + q)
def fv (b : Nat) (h : Hp) (a ci k : Nat) : Value := if fr ci k = true then va_rf (ro b (h.2 a k)) else .int (h.1 a k)
def cE (G : GG) (h : Hp) (a : Nat) : va_E :=
  if kd a < 13 then .inr (kd a, (List.range (nf (kd a))).map (fv (bs G) h a (kd a)))
  else if kd a = 14 then .inl (G.2.2.1, ln a, .inl (h.1 a))
  else if kd a = 15 then .inl (G.2.2.2.1, ln a, .inr (.inr (.inr (.inr (fun j => ro (bs G) (h.2 a j))))))
  else .inl (G.2.1, ln a, .inl (h.1 a))
def wl (G : GG) (n : Nat) (h : Hp) : va_W := (List.range n).map (fun i => (bs G + (i + 1), cE G h (i + 1)))
def Wd (G : GG) (n : Nat) (h : Hp) (H : Heap) : Prop := va_P G.1 cls (wl G n h) H ∧ H.size = bs G + 1 + n
abbrev tyl (G : GG) : List (ClassId × FieldType) := [(G.2.1, .int), (G.2.2.1, .char), (G.2.2.2.1, .object RX2)]
def isNest : Cond → Bool
  | .methodLinkNest _ _ _ _ => true
  | .arrayOver (.object _) => true
  | _ => false
def Ks (G : GG) (U : State) : Prop := va_K G.1 cls (tyl G) U ∧ ∀ w ∈ lw_tbl, isNest w = true → va_Nw w U
abbrev Ab (G : GG) : Nat → Prop := fun q => bs G < q
def XW (G : GG) (n : Nat) (h : Hp) (s : State) (cells : Nat) (H : Heap) (locs : List Loc) : Prop := va_P G.1 cls (wl G n h) H ∧ va_S (Ab G) s.heap H locs ∧ s.heap.size + cells = bs G + 1 + n ∧ bs G < s.heap.size
theorem Ks.warm {G : GG} {s U : State} (hW : s.WarmedH U.vm) (h : Ks G s) : Ks G U := by
  refine ⟨va_K.moved hW.alike h.1, fun w hw hn => ?_⟩
  have h2 := h.2 w hw hn
  cases w with
  | methodLinkNest a i x hh => exact va_Nw.warmM hW h2
  | arrayOver ty =>
    cases ty with
    | object C => exact va_AO.moved hW.alike h2
    | _ => simp [isNest] at hn
  | _ => simp [isNest] at hn
theorem Ks.call {G : GG} {U : State} {g : JFrame} {mk : MethodId} {a : Array Value} (h : Ks G U) : Ks G (U.calling g mk a) := by
  refine ⟨va_K.moved (u := U) (U := U.calling g mk a) (Vm.Alike.refl U.vm) h.1, fun w hw hn => ?_⟩
  have h2 := h.2 w hw hn
  cases w with
  | methodLinkNest a i x hh => exact va_Nw.same rfl rfl h2
  | arrayOver ty =>
    cases ty with
    | object C => exact va_AO.moved (u := U) (U := U.calling g mk a) (Vm.Alike.refl U.vm) h2
    | _ => simp [isNest] at hn
  | _ => simp [isNest] at hn
theorem wl_at (G : GG) (h : Hp) {n a : Nat} (h1 : 1 ≤ a) (h2 : a ≤ n) : (wl G n h)[a - 1]? = some (bs G + a, cE G h a) := by
  have e : a - 1 + 1 = a := by omega
  simp only [wl, List.getElem?_map, List.getElem?_range (show a - 1 < n by omega), Option.map_some, e]
theorem wl_set (G : GG) (h h' : Hp) {n a : Nat} (h1 : 1 ≤ a) (hh : ∀ b, b ≠ a → cE G h' b = cE G h b) : (wl G n h).set (a - 1) (bs G + a, cE G h' a) = wl G n h' := by
  apply List.ext_getElem?
  intro i
  rw [List.getElem?_set]
  simp only [wl, List.length_map, List.length_range, List.getElem?_map]
  by_cases hi : a - 1 = i
  · have e : a = i + 1 := by omega
    subst e
    by_cases hn : i < n
    · simp [hn, List.getElem?_range hn]
    · simp [hn]
  · rw [if_neg hi]
    by_cases hn : i < n
    · simp only [List.getElem?_range hn, Option.map_some, hh (i + 1) (by omega)]
    · rw [List.getElem?_eq_none (by simp; omega)]; rfl
theorem wl_push (G : GG) (h h' : Hp) {n : Nat} (hh : ∀ b, b ≤ n → cE G h' b = cE G h b) : wl G n h ++ [(bs G + (n + 1), cE G h' (n + 1))] = wl G (n + 1) h' := by
  simp only [wl, List.range_succ, List.map_append, List.map_cons, List.map_nil]
  congr 1
  apply List.map_congr_left
  intro i hi
  rw [hh (i + 1) (by have := List.mem_range.mp hi; omega)]
theorem wl_D (G : GG) (n : Nat) (h : Hp) : va_D (Ab G) (wl G n h) := by
  have key : ∀ (i : Nat) (q : Nat × va_E), (wl G n h)[i]? = some q → q.1 = bs G + (i + 1) := by
    intro i q hq
    simp only [wl, List.getElem?_map, Option.map_eq_some_iff] at hq
    obtain ⟨j, hj, e⟩ := hq
    obtain ⟨h1, h2⟩ := List.getElem?_eq_some_iff.mp hj
    simp at h2
    rw [← e, h2]
  refine ⟨fun i j x y hi hj e => ?_, fun k q hk => ?_⟩
  · have a1 := key i x hi
    have a2 := key j y hj
    omega
  · have a1 := key k q hk
    show bs G < q.1
    omega
theorem cE_o (G : GG) (h : Hp) {a ci : Nat} (hk : kd a = ci) (hc : ci < 13) : cE G h a = .inr (ci, (List.range (nf ci)).map (fv (bs G) h a ci)) := by
  subst hk
  simp only [cE, if_pos hc]
theorem cE_i (G : GG) (h : Hp) {a : Nat} (hk : kd a = 13 ∨ kd a = 16) : cE G h a = .inl (G.2.1, ln a, .inl (h.1 a)) := by
  unfold cE
  rcases hk with h1 | h1 <;> simp [h1]
theorem cE_c (G : GG) (h : Hp) {a : Nat} (hk : kd a = 14) : cE G h a = .inl (G.2.2.1, ln a, .inl (h.1 a)) := by
  unfold cE
  simp [hk]
theorem cE_d (G : GG) (h : Hp) {a : Nat} (hk : kd a = 15) : cE G h a = .inl (G.2.2.2.1, ln a, .inr (.inr (.inr (.inr (fun j => ro (bs G) (h.2 a j)))))) := by
  unfold cE
  simp [hk]
theorem cE_eq (G : GG) {h h' : Hp} {b : Nat} (h1 : h'.1 b = h.1 b) (h2 : h'.2 b = h.2 b) : cE G h' b = cE G h b := by
  simp only [cE, h1, h2]
  have e : fv (bs G) h' b (kd b) = fv (bs G) h b (kd b) := by
    funext k
    simp only [fv, h1, h2]
  rw [e]
theorem cE_si (G : GG) (h : Hp) (a k : Nat) (v : Int32) (b : Nat) (hb : b ≠ a) : cE G (si h a k v) b = cE G h b := cE_eq G (if_neg hb) rfl
theorem cE_sr (G : GG) (h : Hp) (a k q : Nat) (b : Nat) (hb : b ≠ a) : cE G (sr h a k q) b = cE G h b := cE_eq G rfl (if_neg hb)
theorem cE_sc (G : GG) (h : Hp) (a : Nat) (f : Nat → Int32) (b : Nat) (hb : b ≠ a) : cE G (sc h a f) b = cE G h b := cE_eq G (if_neg hb) rfl
theorem cE_sz (G : GG) (h : Hp) (a : Nat) (b : Nat) (hb : b ≠ a) : cE G (sz h a) b = cE G h b := cE_eq G (if_neg hb) (if_neg hb)
theorem si_1 (h : Hp) (a k : Nat) (v : Int32) : (si h a k v).1 a = upd (h.1 a) k v := if_pos rfl
theorem sr_2 (h : Hp) (a k q : Nat) : (sr h a k q).2 a = fun j => if j = k then q else h.2 a j := if_pos rfl
theorem sc_1 (h : Hp) (a : Nat) (f : Nat → Int32) : (sc h a f).1 a = f := if_pos rfl
theorem rm_set {α : Type} (f : Nat → α) (N k : Nat) (v : α) : ((List.range N).map f).set k v = (List.range N).map (fun j => if j = k then v else f j) := by
  apply List.ext_getElem?
  intro i
  rw [List.getElem?_set]
  simp only [List.length_map, List.length_range, List.getElem?_map]
  by_cases hk : k = i
  · subst hk
    by_cases hn : k < N
    · simp [hn]
    · rw [if_pos rfl, if_neg hn, List.getElem?_eq_none (by simp; omega)]; rfl
  · rw [if_neg hk]
    by_cases hn : i < N
    · simp [List.getElem?_range hn, Ne.symm hk]
    · rw [List.getElem?_eq_none (by simp; omega)]; rfl
theorem fv_int (b : Nat) (h : Hp) (a : Nat) {ci k : Nat} (hf : fr ci k = false) : fv b h a ci k = .int (h.1 a k) := by simp [fv, hf]
theorem fv_ref (b : Nat) (h : Hp) (a : Nat) {ci k : Nat} (hf : fr ci k = true) (hq : h.2 a k ≠ 0) : fv b h a ci k = .ref (b + h.2 a k) := by simp [fv, hf, ro, hq, va_rf]
theorem fv_si (b : Nat) (h : Hp) (a : Nat) {ci k : Nat} (v : Int32) (hf : fr ci k = false) : fv b (si h a k v) a ci = fun j => if j = k then Value.int v else fv b h a ci j := by
  funext j
  by_cases hj : j = k
  · subst hj; simp [fv, hf, si, upd]
  · simp [fv, si, upd, hj]
theorem fv_sr (b : Nat) (h : Hp) (a : Nat) {ci k q : Nat} (hq : q ≠ 0) (hf : fr ci k = true) : fv b (sr h a k q) a ci = fun j => if j = k then Value.ref (b + q) else fv b h a ci j := by
  funext j
  by_cases hj : j = k
  · subst hj; simp [fv, hf, sr, ro, hq, va_rf]
  · simp [fv, sr, hj]
/-- which kinds stand below which bound -/
def kmx (K : Nat) : Nat := if K = 12 ∨ K = 16 then NT else NX
theorem kd_all : ∀ a, a < 102 → (kd a = 99 ∨ (1 ≤ a ∧ a ≤ kmx (kd a))) := by decide +kernel
theorem kd_le {a K : Nat} (h : kd a = K) (hK : K ≠ 99) : 1 ≤ a ∧ a ≤ kmx K := by
  by_cases ha : a < 102
  · rcases kd_all a ha with h1 | h1
    · exact absurd (h.symm.trans h1) hK
    · rw [← h]; exact h1
  · have : kd a = 99 := by
      unfold kd
      rw [List.getD_eq_getElem?_getD, List.getElem?_eq_none (by show 102 ≤ a; omega)]
      rfl
    exact absurd (h.symm.trans this) hK
theorem kd_in {a K n : Nat} (h : kd a = K) (hn : kmx K ≤ n) (hK : K ≠ 99) : 1 ≤ a ∧ a ≤ n := ⟨(kd_le h hK).1, Nat.le_trans (kd_le h hK).2 hn⟩
theorem kd_n0 {a K : Nat} (h : kd a = K) (hK : K ≠ 99) : a ≠ 0 := fun e => by have := (kd_le h hK).1; omega
/-- a field of a class at a place of the constant pool -/
def FL (own : String) (idx ci k : Nat) : Prop := ∃ (C : String) (T : u_T) (N : Nat), cls[ci]? = some (C, T, N) ∧ k < N ∧ Cond.fieldLink own idx (T k).1 (T k).2.1 (T k).2.2.1 ∈ TT
def FO (ci k : Nat) (own : String) : Prop := ∃ (C : String) (T : u_T) (N : Nat), cls[ci]? = some (C, T, N) ∧ (T k).1 = own
def FT (ci k : Nat) (ty : FieldType) (fin : Bool) : Prop := ∃ (C : String) (T : u_T) (N : Nat), cls[ci]? = some (C, T, N) ∧ parseFieldDescriptor (T k).2.2.1 = some ty ∧ (T k).2.2.2 = fin
def gd {α : Type} (c : Prop) [Decidable c] (x : Option α) : Option α := if c then x else none
theorem gd_e {α : Type} {c : Prop} [Decidable c] {x : Option α} {r : α} (h : gd c x = some r) : c ∧ x = some r := by
  unfold gd at h
  by_cases hc : c
  · exact ⟨hc, by rw [if_pos hc] at h; exact h⟩
  · rw [if_neg hc] at h; cases h
theorem gd_t {α : Type} {c : Prop} [Decidable c] {x : Option α} (h : c) : gd c x = x := if_pos h
/-- a name for a picture -/
def lt {α : Type} (x : Hp) (k : Hp → Option α) : Option α := k x
theorem lt_e {α : Type} {x : Hp} {k : Hp → Option α} {r : α} (h : lt x k = some r) : ∃ h', h' = x ∧ k h' = some r := ⟨x, rfl, h⟩
def bd {ρ α : Type} (x : Option (ρ × Hp)) (k : ρ → Hp → Option α) : Option α := match x with
  | some (r, h) => k r h
  | none => none
theorem bd_e {ρ α : Type} {x : Option (ρ × Hp)} {k : ρ → Hp → Option α} {r : α} (h : bd x k = some r) : ∃ v h', x = some (v, h') ∧ k v h' = some r := by
  cases x with
  | none => cases h
  | some q => exact ⟨q.1, q.2, rfl, h⟩
theorem bd_s {ρ α : Type} (v : ρ) (h : Hp) (k : ρ → Hp → Option α) : bd (some (v, h)) k = k v h := rfl
theorem ite_t {α : Type} {c : Prop} [Decidable c] {A B : Option α} {r : α} (h : (if c then A else B) = some r) (hc : c) : A = some r := by rw [if_pos hc] at h; exact h
theorem ite_f {α : Type} {c : Prop} [Decidable c] {A B : Option α} {r : α} (h : (if c then A else B) = some r) (hc : ¬ c) : B = some r := by rw [if_neg hc] at h; exact h
/-- an int that is in a row's range, as the guards have it -/
def inr (i : Int32) (n : Nat) : Bool := decide (0 ≤ i.toInt) && decide (i.toInt < n)
theorem inr_in {i : Int32} {n : Nat} (h : inr i n = true) : vp_in i n := by
  simp only [inr, Bool.and_eq_true, decide_eq_true_eq] at h
  exact vp_in_iff.mpr h
def FU : Nat := 100000
def rmC (d mc ms : Nat) : Room := { frames := d, cells := mc, slots := ms, locals := 60 * d }
def QP (G : GG) (n' : Nat) (h' : Hp) (r : Option Value) : Array Value → State → Outcome → State → Prop := fun _ st o t => o = .returned r ∧ va_P G.1 cls (wl G n' h') t.heap ∧ va_F (Ab G) st t
/-- a contract: from the picture h the method returns r, and leaves the picture h' -/
def CT (l : Launch) (G : GG) (n n' : Nat) (y : MethodName) (cd : Cond) (d mc ms : Nat) (av : List Value) (h h' : Hp) (r : Option Value) : Prop :=
  Met l y (cd :: TT) (rmC d mc ms) (va_Pc av (fun U => Wd G n h U.heap ∧ Ks G U)) (QP G n' h' r) mc ms (Ab G)
def Cx (p : Program) (s : State) (m : MethodId) (args : Array Value) (meth : Method) (c : Code) (G : GG) (bytes : ByteArray) (own : String) (nL : Nat) (ret : Option FieldType) (nm : String) : Prop :=
  p.tables.exec = Jvm.exec ∧ c.code = bytes ∧ meth.sig.returnType = ret ∧ c.maxLocals = nL ∧ s.vm.findClass own = some m.cls ∧ (∀ w ∈ TT, w.before args s = true) ∧ Ks G s ∧ meth.locks = false ∧ meth.name = nm
theorem ct_of {l : Launch} {G : GG} {n n' : Nat} {y : MethodName} {bytes : ByteArray} {maxL : Nat} {ret : Option FieldType} {d mc ms : Nat} {av : List Value} {h h' : Hp} {r : Option Value} (hy : plainName y.cls = true) (hav : (lg_sl av).length ≤ maxL)
    (body : ∀ (p : Program) (e : Env) (s : State) (m : MethodId) (below : List Frame) (meth : Method) (c : Code), Cx p s m av.toArray meth c G bytes y.cls maxL ret y.name → XW G n h s 0 s.heap [] → ∀ ls : Array Slot, lv_has ls maxL (lv_args 0 av) →
      W p l e (rmC d mc ms) s m av.toArray below meth c s.heap [] 0 0 (MQ below (QP G n' h' r) av.toArray s mc ms (Ab G)) (F0 m 0 ls [])) :
    CT l G n n' y (.code y bytes maxL ret) d mc ms av h h' r := by
  refine Met.ofW (cc := bytes) (maxL := maxL) (ret := ret) hy rfl ?_
  intro p e s m args below meth c s₁ B hml hv
  obtain ⟨rfl, hW, hK⟩ := hv
  have hts := atoms_spec (ws := Cond.code y bytes maxL ret :: TT) B.pre
  have hl := lv_entry av (n := maxL) hav
  rw [lg_entry_eq]
  exact body p e s m below meth c ⟨B.exec, B.bytes, B.returns, hml, findClass_of_methodNamed B.named, fun w hw => hts w (List.mem_cons_of_mem _ hw), hK, B.notSynchronized, (name_of_methodNamed B.named B.method).1⟩
    ⟨hW.1, va_S.rf, hW.2, by rw [hW.2]; omega⟩ _ hl
section ROWS
variable {p : Program} {l : Launch} {e : Env} {R : Room} {s : State} {m : MethodId} {args : Array Value} {below : List Frame} {meth : Method} {c : Code} {H : Heap} {locs : List Loc} {cells slots : Nat} {Q : State → Prop}
variable {cc : ByteArray} {pc : Nat} {ls : Array Slot} {rest : List Value} {G : GG} {n : Nat} {h : Hp}
theorem w_size {g : JFrame} (k : H.size ≤ s.heap.size + cells → W p l e R s m args below meth c H locs cells slots Q g) : W p l e R s m args below meth c H locs cells slots Q g := by
  intro T hT X
  refine k ?_ T hT X
  have := X.same.2.2.1
  rw [← hT]
  exact this
theorem XW.sz (X : XW G n h s cells H locs) (hu : H.size ≤ s.heap.size + cells) : H.size = bs G + 1 + n := by
  obtain ⟨h1, h2, h3, h4⟩ := X
  by_cases hn : n = 0
  · have := h2.1
    omega
  · have h5 := (h1 (n - 1) _ (wl_at G h (a := n) (by omega) (by omega))).lt
    dsimp only at h5
    omega
theorem g_get (hx : p.tables.exec = Jvm.exec) (hb : c.code = cc) {own : String} {idx ci k a : Nat} (hts : ∀ w ∈ TT, w.before args s = true) (hown : s.vm.findClass own = some m.cls) (hK : Ks G s) (X : XW G n h s cells H locs) (hk : kd a = ci) (ha : 1 ≤ a ∧ a ≤ n) (hl : FL own idx ci k) (hc : ci < 13)
    (hdg : decode cc pc = .ok (.getfield idx, 3)) (kk : W p l e R s m args below meth c H locs cells slots Q (F0 m (pc + 3) ls (fv (bs G) h a ci k :: rest))) : W p l e R s m args below meth c H locs cells slots Q (F0 m pc ls (.ref (bs G + a) :: rest)) := by
  obtain ⟨C, T, N, h1, h2, h3⟩ := hl
  have he := wl_at G h ha.1 ha.2
  rw [cE_o G h hk hc] at he
  have hok := cls_ok ci C T N h1
  refine va_get hx hb hts hok.1 hown hK.1 X.1 (a - 1) he h1 k h2 (hts _ h3) (fun _ z => z) ?_ hdg kk
  rw [List.getElem?_map, List.getElem?_range (by rw [show nf ci = N from hok.2.1]; exact h2)]
  rfl
theorem g_I (hx : p.tables.exec = Jvm.exec) (hb : c.code = cc) {own : String} {idx ci k a : Nat} (hts : ∀ w ∈ TT, w.before args s = true) (hown : s.vm.findClass own = some m.cls) (hK : Ks G s) (X : XW G n h s cells H locs) (hk : kd a = ci) (hn : kmx ci ≤ n) (hl : FL own idx ci k) (hc : ci < 13) (hfr : fr ci k = false)
    (hdg : decode cc pc = .ok (.getfield idx, 3)) (kk : W p l e R s m args below meth c H locs cells slots Q (F0 m (pc + 3) ls (.int (h.1 a k) :: rest))) : W p l e R s m args below meth c H locs cells slots Q (F0 m pc ls (.ref (bs G + a) :: rest)) :=
  g_get hx hb hts hown hK X hk (kd_in hk hn (by omega)) hl hc hdg (by rw [fv_int _ _ _ hfr]; exact kk)
theorem g_R (hx : p.tables.exec = Jvm.exec) (hb : c.code = cc) {own : String} {idx ci k a K : Nat} (hts : ∀ w ∈ TT, w.before args s = true) (hown : s.vm.findClass own = some m.cls) (hK : Ks G s) (X : XW G n h s cells H locs) (hk : kd a = ci) (hn : kmx ci ≤ n) (hq : kd (h.2 a k) = K) (hl : FL own idx ci k) (hc : ci < 13) (hfr : fr ci k = true) (hK9 : K ≠ 99)
    (hdg : decode cc pc = .ok (.getfield idx, 3)) (kk : W p l e R s m args below meth c H locs cells slots Q (F0 m (pc + 3) ls (.ref (bs G + h.2 a k) :: rest))) : W p l e R s m args below meth c H locs cells slots Q (F0 m pc ls (.ref (bs G + a) :: rest)) :=
  g_get hx hb hts hown hK X hk (kd_in hk hn (by omega)) hl hc hdg (by rw [fv_ref _ _ _ hfr (kd_n0 hq hK9)]; exact kk)
theorem g_put (hx : p.tables.exec = Jvm.exec) (hb : c.code = cc) {own : String} {idx ci k a : Nat} {ty : FieldType} {v : Value} {h1 : Hp} (hts : ∀ w ∈ TT, w.before args s = true) (hown : s.vm.findClass own = some m.cls) (hK : Ks G s) (X : XW G n h s cells H locs) (hk : kd a = ci) (ha : 1 ≤ a ∧ a ≤ n) (hl : FL own idx ci k) (hty : FT ci k ty false) (hc : ci < 13)
    (hnr : narrow ty v = v) (hfit : fits ty v = true) (hh : ∀ b, b ≠ a → cE G h1 b = cE G h b) (hv : fv (bs G) h1 a ci = fun j => if j = k then v else fv (bs G) h a ci j)
    (hdg : decode cc pc = .ok (.putfield idx, 3)) (kk : ∀ (H1 : Heap) (locs1 : List Loc), XW G n h1 s cells H1 locs1 → W p l e R s m args below meth c H1 locs1 cells slots Q (F0 m (pc + 3) ls rest)) : W p l e R s m args below meth c H locs cells slots Q (F0 m pc ls (v :: .ref (bs G + a) :: rest)) := by
  obtain ⟨C, T, N, e1, e2, e3⟩ := hl
  obtain ⟨C', T', N', e1', e4, e5⟩ := hty
  cases e1.symm.trans e1'
  have he := wl_at G h ha.1 ha.2
  rw [cE_o G h hk hc] at he
  have hok := cls_ok ci C T N e1
  obtain ⟨ty0, hty0⟩ := hok.2.2.2
  refine va_put hx hb hts hok.1 ty0 hty0 hok.2.2.1 hown hK.1 X.1 (wl_D G n h) X.2.1 (a - 1) he e1 k e2 (hts _ e3) (fun _ z => z) e5 e4 hnr hfit (by simp; rw [show nf ci = N from hok.2.1]; exact e2) hdg (fun H1 locs1 hP hD hS => ?_)
  have es : (wl G n h).set (a - 1) (bs G + a, Sum.inr (ci, ((List.range (nf ci)).map (fv (bs G) h a ci)).set k v)) = wl G n h1 := by
    rw [rm_set, ← hv, ← cE_o G h1 hk hc]
    exact wl_set G h h1 ha.1 hh
  rw [es] at hP
  exact kk H1 locs1 ⟨hP, hS, X.2.2.1, X.2.2.2⟩
theorem g_putF (hx : p.tables.exec = Jvm.exec) (hb : c.code = cc) {own : String} {idx ci k a : Nat} {ty : FieldType} {v : Value} {h1 : Hp} (hts : ∀ w ∈ TT, w.before args s = true) (hown : s.vm.findClass own = some m.cls) (hK : Ks G s) (X : XW G n h s cells H locs) (hk : kd a = ci) (ha : 1 ≤ a ∧ a ≤ n) (hl : FL own idx ci k) (hty : FT ci k ty true) (hc : ci < 13) (hin : meth.name = "<init>") (hdecl : FO ci k own)
    (hnr : narrow ty v = v) (hfit : fits ty v = true) (hh : ∀ b, b ≠ a → cE G h1 b = cE G h b) (hv : fv (bs G) h1 a ci = fun j => if j = k then v else fv (bs G) h a ci j)
    (hdg : decode cc pc = .ok (.putfield idx, 3)) (kk : ∀ (H1 : Heap) (locs1 : List Loc), XW G n h1 s cells H1 locs1 → W p l e R s m args below meth c H1 locs1 cells slots Q (F0 m (pc + 3) ls rest)) : W p l e R s m args below meth c H locs cells slots Q (F0 m pc ls (v :: .ref (bs G + a) :: rest)) := by
  obtain ⟨C, T, N, e1, e2, e3⟩ := hl
  obtain ⟨C', T', N', e1', e4, e5⟩ := hty
  cases e1.symm.trans e1'
  obtain ⟨C', T', N', e1', e6⟩ := hdecl
  cases e1.symm.trans e1'
  have he := wl_at G h ha.1 ha.2
  rw [cE_o G h hk hc] at he
  have hok := cls_ok ci C T N e1
  obtain ⟨ty0, hty0⟩ := hok.2.2.2
  refine va_putF hx hb hts hok.1 ty0 hty0 hok.2.2.1 hown hK.1 X.1 (wl_D G n h) X.2.1 (a - 1) he e1 k e2 (hts _ e3) (fun _ z => z) e5 hin e6 e4 hnr hfit (by simp; rw [show nf ci = N from hok.2.1]; exact e2) hdg (fun H1 locs1 hP hD hS => ?_)
  have es : (wl G n h).set (a - 1) (bs G + a, Sum.inr (ci, ((List.range (nf ci)).map (fv (bs G) h a ci)).set k v)) = wl G n h1 := by
    rw [rm_set, ← hv, ← cE_o G h1 hk hc]
    exact wl_set G h h1 ha.1 hh
  rw [es] at hP
  exact kk H1 locs1 ⟨hP, hS, X.2.2.1, X.2.2.2⟩
theorem g_PI (hx : p.tables.exec = Jvm.exec) (hb : c.code = cc) {own : String} {idx ci k a : Nat} {v : Int32} (hts : ∀ w ∈ TT, w.before args s = true) (hown : s.vm.findClass own = some m.cls) (hK : Ks G s) (X : XW G n h s cells H locs) (hk : kd a = ci) (hn : kmx ci ≤ n) (hl : FL own idx ci k) (hty : FT ci k .int false) (hc : ci < 13) (hfr : fr ci k = false)
    (hdg : decode cc pc = .ok (.putfield idx, 3)) (kk : ∀ (H1 : Heap) (locs1 : List Loc), XW G n (si h a k v) s cells H1 locs1 → W p l e R s m args below meth c H1 locs1 cells slots Q (F0 m (pc + 3) ls rest)) : W p l e R s m args below meth c H locs cells slots Q (F0 m pc ls (.int v :: .ref (bs G + a) :: rest)) :=
  g_put hx hb hts hown hK X hk (kd_in hk hn (by omega)) hl hty hc rfl rfl (cE_si G h a k v) (fv_si _ _ _ _ hfr) hdg kk
theorem z_ok {v : Int32} (hz : v = 0 ∨ v = 1) : narrow .boolean (.int v) = .int v ∧ fits .boolean (.int v) = true := by
  rcases hz with h | h <;> subst h <;> decide
theorem g_PZ (hx : p.tables.exec = Jvm.exec) (hb : c.code = cc) {own : String} {idx ci k a : Nat} {v : Int32} (hts : ∀ w ∈ TT, w.before args s = true) (hown : s.vm.findClass own = some m.cls) (hK : Ks G s) (X : XW G n h s cells H locs) (hz : v = 0 ∨ v = 1) (hk : kd a = ci) (hn : kmx ci ≤ n) (hl : FL own idx ci k) (hty : FT ci k .boolean false) (hc : ci < 13) (hfr : fr ci k = false)
    (hdg : decode cc pc = .ok (.putfield idx, 3)) (kk : ∀ (H1 : Heap) (locs1 : List Loc), XW G n (si h a k v) s cells H1 locs1 → W p l e R s m args below meth c H1 locs1 cells slots Q (F0 m (pc + 3) ls rest)) : W p l e R s m args below meth c H locs cells slots Q (F0 m pc ls (.int v :: .ref (bs G + a) :: rest)) :=
  g_put hx hb hts hown hK X hk (kd_in hk hn (by omega)) hl hty hc (z_ok hz).1 (z_ok hz).2 (cE_si G h a k v) (fv_si _ _ _ _ hfr) hdg kk
theorem g_PR (hx : p.tables.exec = Jvm.exec) (hb : c.code = cc) {own : String} {idx ci k a q K : Nat} {ty : FieldType} (hts : ∀ w ∈ TT, w.before args s = true) (hown : s.vm.findClass own = some m.cls) (hK : Ks G s) (X : XW G n h s cells H locs) (hk : kd a = ci) (hn : kmx ci ≤ n) (hq : kd q = K) (hl : FL own idx ci k) (hty : FT ci k ty false) (hc : ci < 13) (hfr : fr ci k = true) (hK9 : K ≠ 99) (hnr : ∀ z : Nat, narrow ty (.ref z) = .ref z) (hfit : ∀ z : Nat, fits ty (.ref z) = true)
    (hdg : decode cc pc = .ok (.putfield idx, 3)) (kk : ∀ (H1 : Heap) (locs1 : List Loc), XW G n (sr h a k q) s cells H1 locs1 → W p l e R s m args below meth c H1 locs1 cells slots Q (F0 m (pc + 3) ls rest)) : W p l e R s m args below meth c H locs cells slots Q (F0 m pc ls (.ref (bs G + q) :: .ref (bs G + a) :: rest)) :=
  g_put hx hb hts hown hK X hk (kd_in hk hn (by omega)) hl hty hc (hnr _) (hfit _) (cE_sr G h a k q) (fv_sr _ _ _ (kd_n0 hq hK9) hfr) hdg kk
/-- rows of ints -/
theorem g_ia (hx : p.tables.exec = Jvm.exec) (hb : c.code = cc) {a K : Nat} {i : Int32} (hK : Ks G s) (X : XW G n h s cells H locs) (hk : kd a = K) (hn : kmx K ≤ n) (hin : inr i (ln a) = true) (hK1 : K = 13 ∨ K = 16)
    (hdg : decode cc pc = .ok (.iaload, 1)) (kk : W p l e R s m args below meth c H locs cells slots Q (F0 m (pc + 1) ls (.int (h.1 a i.toNatClampNeg) :: rest))) : W p l e R s m args below meth c H locs cells slots Q (F0 m pc ls (.int i :: .ref (bs G + a) :: rest)) := by
  have ha := kd_in hk hn (by omega)
  have he := wl_at G h ha.1 ha.2
  rw [cE_i G h (by rw [hk]; exact hK1)] at he
  exact va_iald hx hb hK.1 X.1 (a - 1) 0 he rfl (inr_in hin) hdg kk
theorem g_is (hx : p.tables.exec = Jvm.exec) (hb : c.code = cc) {a K : Nat} {i v : Int32} (hK : Ks G s) (X : XW G n h s cells H locs) (hk : kd a = K) (hn : kmx K ≤ n) (hin : inr i (ln a) = true) (hK1 : K = 13 ∨ K = 16)
    (hdg : decode cc pc = .ok (.iastore, 1)) (kk : ∀ (H1 : Heap) (locs1 : List Loc), XW G n (si h a i.toNatClampNeg v) s cells H1 locs1 → W p l e R s m args below meth c H1 locs1 cells slots Q (F0 m (pc + 1) ls rest)) : W p l e R s m args below meth c H locs cells slots Q (F0 m pc ls (.int v :: .int i :: .ref (bs G + a) :: rest)) := by
  have ha := kd_in hk hn (by omega)
  have he := wl_at G h ha.1 ha.2
  have hk2 : kd a = 13 ∨ kd a = 16 := by rw [hk]; exact hK1
  rw [cE_i G h hk2] at he
  refine va_iast hx hb hK.1 X.1 (wl_D G n h) X.2.1 (a - 1) 0 he rfl (inr_in hin) hdg (fun H1 locs1 hP hD hS => ?_)
  rw [← si_1, ← cE_i G _ hk2, wl_set G h _ ha.1 (cE_si G h a _ v)] at hP
  exact kk H1 locs1 ⟨hP, hS, X.2.2.1, X.2.2.2⟩
theorem g_ca (hx : p.tables.exec = Jvm.exec) (hb : c.code = cc) {a : Nat} {i : Int32} (hK : Ks G s) (X : XW G n h s cells H locs) (hk : kd a = 14) (hn : kmx 14 ≤ n) (hin : inr i (ln a) = true)
    (hdg : decode cc pc = .ok (.caload, 1)) (kk : W p l e R s m args below meth c H locs cells slots Q (F0 m (pc + 1) ls (.int (h.1 a i.toNatClampNeg) :: rest))) : W p l e R s m args below meth c H locs cells slots Q (F0 m pc ls (.int i :: .ref (bs G + a) :: rest)) := by
  have ha := kd_in hk hn (by omega)
  have he := wl_at G h ha.1 ha.2
  rw [cE_c G h hk] at he
  exact va_cald hx hb hK.1 X.1 (a - 1) 1 he rfl (inr_in hin) hdg kk
theorem g_cs (hx : p.tables.exec = Jvm.exec) (hb : c.code = cc) {a : Nat} {i v : Int32} (hK : Ks G s) (X : XW G n h s cells H locs) (hk : kd a = 14) (hn : kmx 14 ≤ n) (hin : inr i (ln a) = true)
    (hdg : decode cc pc = .ok (.castore, 1)) (kk : ∀ (H1 : Heap) (locs1 : List Loc), XW G n (si h a i.toNatClampNeg (vp_nar .char v)) s cells H1 locs1 → W p l e R s m args below meth c H1 locs1 cells slots Q (F0 m (pc + 1) ls rest)) : W p l e R s m args below meth c H locs cells slots Q (F0 m pc ls (.int v :: .int i :: .ref (bs G + a) :: rest)) := by
  have ha := kd_in hk hn (by omega)
  have he := wl_at G h ha.1 ha.2
  rw [cE_c G h hk] at he
  refine va_cast hx hb hK.1 X.1 (wl_D G n h) X.2.1 (a - 1) 1 he rfl (inr_in hin) hdg (fun H1 locs1 hP hD hS => ?_)
  rw [← si_1, ← cE_c G _ hk, wl_set G h _ ha.1 (cE_si G h a _ _)] at hP
  exact kk H1 locs1 ⟨hP, hS, X.2.2.1, X.2.2.2⟩
theorem g_al (hx : p.tables.exec = Jvm.exec) (hb : c.code = cc) {a K : Nat} (hK : Ks G s) (X : XW G n h s cells H locs) (hk : kd a = K) (hn : kmx K ≤ n) (hK1 : K = 13 ∨ K = 14 ∨ K = 15 ∨ K = 16)
    (hdg : decode cc pc = .ok (.arraylength, 1)) (kk : W p l e R s m args below meth c H locs cells slots Q (F0 m (pc + 1) ls (.int (nI (ln a)) :: rest))) : W p l e R s m args below meth c H locs cells slots Q (F0 m pc ls (.ref (bs G + a) :: rest)) := by
  have ha := kd_in hk hn (by omega)
  have he := wl_at G h ha.1 ha.2
  by_cases h1 : K = 14
  · rw [cE_c G h (by rw [hk]; exact h1)] at he
    exact va_alen (ty := .char) hx hb hK.1 X.1 (a - 1) 1 he rfl rfl hdg kk
  · by_cases h2 : K = 15
    · rw [cE_d G h (by rw [hk]; exact h2)] at he
      exact va_alen (ty := .object RX2) hx hb hK.1 X.1 (a - 1) 2 he rfl rfl hdg kk
    · rw [cE_i G h (by rw [hk]; omega)] at he
      exact va_alen (ty := .int) hx hb hK.1 X.1 (a - 1) 0 he rfl rfl hdg kk
/-- rows of days -/
theorem g_da (hx : p.tables.exec = Jvm.exec) (hb : c.code = cc) {a : Nat} {i : Int32} (hK : Ks G s) (X : XW G n h s cells H locs) (hk : kd a = 15) (hn : kmx 15 ≤ n) (hin : inr i (ln a) = true) (hq : kd (h.2 a i.toNatClampNeg) = 2)
    (hdg : decode cc pc = .ok (.aaload, 1)) (kk : W p l e R s m args below meth c H locs cells slots Q (F0 m (pc + 1) ls (.ref (bs G + h.2 a i.toNatClampNeg) :: rest))) : W p l e R s m args below meth c H locs cells slots Q (F0 m pc ls (.int i :: .ref (bs G + a) :: rest)) := by
  have ha := kd_in hk hn (by omega)
  have he := wl_at G h ha.1 ha.2
  rw [cE_d G h hk] at he
  refine va_aldq (C := RX2) hx hb hK.1 X.1 (a - 1) 2 he rfl (inr_in hin) hdg ?_
  rw [show va_rf (ro (bs G) (h.2 a i.toNatClampNeg)) = .ref (bs G + h.2 a i.toNatClampNeg) by simp [ro, kd_n0 hq (by decide), va_rf]]
  exact kk
theorem g_ds (hx : p.tables.exec = Jvm.exec) (hb : c.code = cc) {a q : Nat} {i : Int32} (hK : Ks G s) (X : XW G n h s cells H locs) (hk : kd a = 15) (ha : 1 ≤ a ∧ a ≤ n) (hin : inr i (ln a) = true) (hq : kd q = 2) (hqn : 1 ≤ q ∧ q ≤ n)
    (hdg : decode cc pc = .ok (.aastore, 1)) (kk : ∀ (H1 : Heap) (locs1 : List Loc), XW G n (sr h a i.toNatClampNeg q) s cells H1 locs1 → W p l e R s m args below meth c H1 locs1 cells slots Q (F0 m (pc + 1) ls rest)) : W p l e R s m args below meth c H locs cells slots Q (F0 m pc ls (.ref (bs G + q) :: .int i :: .ref (bs G + a) :: rest)) := by
  have he := wl_at G h ha.1 ha.2
  rw [cE_d G h hk] at he
  have hv := wl_at G h hqn.1 hqn.2
  rw [cE_o G h hq (by decide)] at hv
  refine va_astq hx hb hK.1 X.1 (wl_D G n h) X.2.1 (a - 1) 2 (q - 1) 2 he rfl hv (r := (RX2, TX2, 5)) rfl (inr_in hin) hdg (fun H1 locs1 hP hD hS => ?_)
  have e1 : (va_up (fun j => ro (bs G) (h.2 a j)) i.toNatClampNeg (some (bs G + q))) = fun j => ro (bs G) ((sr h a i.toNatClampNeg q).2 a j) := by
    funext j
    rw [sr_2]
    by_cases hj : j = i.toNatClampNeg
    · subst hj; simp [va_up, ro, kd_n0 hq (by decide)]
    · simp [va_up, hj]
  rw [e1, ← cE_d G _ hk, wl_set G h _ ha.1 (cE_sr G h a _ q)] at hP
  exact kk H1 locs1 ⟨hP, hS, X.2.2.1, X.2.2.2⟩
end ROWS
end
section
/-! calls and returns over the flat picture -/
def LC (y : MethodName) (bytes : ByteArray) (maxL : Nat) (ret : Option FieldType) (np : Nat) : Prop := Cond.code y bytes maxL ret ∈ TT ∧ Cond.initialized y.cls ∈ TT ∧ (y.cls ≠ "java/lang/invoke/MethodHandle" ∧ y.cls ≠ "java/lang/invoke/VarHandle" ∧ (parseMethodDescriptor y.desc).map (fun d => d.parameters.length) = some np) ∧ maxL ≤ 41
/-- by a plain link, or by a nest mate's -/
def LV (own : String) (idx : Nat) (y : MethodName) : Prop := Cond.methodLink own idx y ∈ TT ∧ Cond.instanceMethod y ∈ TT ∧ Cond.selects y.cls y y ∈ TT
def LSt (own : String) (idx : Nat) (y : MethodName) : Prop := Cond.methodLink own idx y ∈ TT ∧ Cond.static y ∈ TT
def LSN (own : String) (idx : Nat) (y : MethodName) : Prop := Cond.methodLinkNest own idx y RX11 ∈ lw_tbl ∧ Cond.static y ∈ TT
def LI (own : String) (idx : Nat) (y : MethodName) : Prop := Cond.methodLink own idx y ∈ TT ∧ Cond.instanceMethod y ∈ TT ∧ y.name = "<init>"
def LIN (own : String) (idx : Nat) (y : MethodName) : Prop := Cond.methodLinkNest own idx y RX11 ∈ lw_tbl ∧ Cond.instanceMethod y ∈ TT ∧ y.name = "<init>"
section CALLS
variable {p : Program} {l : Launch} {e : Env} {R : Room} {s : State} {m : MethodId} {args : Array Value} {below : List Frame} {meth : Method} {c : Code} {H : Heap} {locs : List Loc} {cells slots : Nat} {Q : State → Prop}
variable {cc : ByteArray} {pc : Nat} {ls : Array Slot} {rest : List Value} {G : GG} {n n' : Nat} {h h' : Hp} {r : Option Value} {mc ms d d' mcR msR nL : Nat} {own : String} {idx : Nat} {y : MethodName} {bytes : ByteArray} {maxL np : Nat} {ret : Option FieldType} {As : List Value}
theorem c_go {a : Array Value} {st0 : List Value} (X : XW G n h s cells H locs) (hn : n' = n + mc) (hr : va_Run p l e R s m args below meth c H locs cells slots mc ms (F0 m pc ls st0) rest (QP G n' h' r a) (Ab G))
    (kk : ∀ (H1 : Heap) (locs1 : List Loc), XW G n' h' s (cells + mc) H1 locs1 → W p l e R s m args below meth c H1 locs1 (cells + mc) (slots + ms) Q (F0 m (pc + 3) ls (r.toList ++ rest))) : W p l e R s m args below meth c H locs cells slots Q (F0 m pc ls st0) := by
  intro T hT XS
  obtain ⟨v, st₀, t, T', L, h0, X', hL, e1, e2, ⟨hv, hP, hz, hk⟩, st⟩ := hr T hT XS
  cases hv
  obtain ⟨x1, x2, x3, x4⟩ := X
  rw [h0] at hz hk
  obtain ⟨t2, a1, b1⟩ := kk T'.heap (locs ++ L) ⟨by rw [e1]; exact hP, ⟨Nat.le_trans x2.1 (by rw [e1]; exact hz), fun q h1 h2 => by rw [e1, hk q (Nat.lt_of_lt_of_le h1 x2.1) h2]; exact x2.2.1 q h1 h2, fun q hq => by
      rcases List.mem_append.mp hq with h | h
      · exact x2.2.2 q h
      · exact hL q h⟩, by omega, x4⟩ T' rfl X'
  exact ⟨t2, st t2 a1, b1⟩
theorem c_pre {av : List Value} (hK : Ks G s) (X : XW G n h s cells H locs) (hu : H.size ≤ s.heap.size + cells) : PreS s H (va_Pc av (fun U => Wd G n h U.heap ∧ Ks G U)) av :=
  ⟨fun _ _ _ _ q => ⟨q.1, q.2.1, q.2.2.call⟩, fun _ hU hW => ⟨rfl, ⟨by rw [hU]; exact X.1, by rw [hU]; exact X.sz hu⟩, hK.warm hW⟩⟩
theorem c_B (hts : ∀ w ∈ TT, w.before args s = true) (hc : LC y bytes maxL ret np) (hl : Cond.methodLink own idx y ∈ TT) (hd : d' < d) : CallB (rmC d mcR msR) s args own idx y bytes maxL ret (.code y bytes maxL ret :: TT) (rmC d' mc ms) mc ms np :=
  callB_of np hts (TT_in hc.1) rfl rfl rfl (hts _ hc.2.1) (hts _ hl) hc.2.2.1 ⟨hd, by show 8 + (maxL + 11) + 60 * d' ≤ 60 * d; have := hc.2.2.2; omega⟩
theorem c_BN (hts : ∀ w ∈ TT, w.before args s = true) (hK : Ks G s) (hc : LC y bytes maxL ret np) (hl : Cond.methodLinkNest own idx y RX11 ∈ lw_tbl) (hd : d' < d) : va_CN (rmC d mcR msR) s args own idx y RX11 bytes maxL ret (.code y bytes maxL ret :: TT) (rmC d' mc ms) mc ms np :=
  va_cnB np hts (TT_in hc.1) rfl rfl rfl (hK.2 _ hl rfl) (hts _ hc.2.1) hc.2.2.1 ⟨hd, by show 8 + (maxL + 11) + 60 * d' ≤ 60 * d; have := hc.2.2.2; omega⟩
theorem c_V {a ci : Nat} {C : String} {T : u_T} {N : Nat} (hx : p.tables.exec = Jvm.exec) (hb : c.code = cc) (hml : c.maxLocals = nL) (hown : s.vm.findClass own = some m.cls) (hts : ∀ w ∈ TT, w.before args s = true) (hK : Ks G s) (X : XW G n h s cells H locs)
    (hM : CT l G n n' y (.code y bytes maxL ret) d' mc ms (.ref (bs G + a) :: As) h h' r) (hn : n' = n + mc) (hk : kd a = ci) (ha : 1 ≤ a ∧ a ≤ n) (hc : LC y bytes maxL ret np) (hl : LV own idx y) (hcl : cls[ci]? = some (C, T, N)) (hC : y.cls = C) (hd : d' < d) (hAs : As.length = np) (hls : ls.size = nL) (hrs : (rest.map fun v => v.category).sum ≤ 8)
    (hdg : decode cc pc = .ok (.invokevirtual idx, 3)) (hf : cells + mc ≤ mcR ∧ slots + ms ≤ msR)
    (kk : ∀ (H1 : Heap) (locs1 : List Loc), XW G n' h' s (cells + mc) H1 locs1 → W p l e (rmC d mcR msR) s m args below meth c H1 locs1 (cells + mc) (slots + ms) Q (F0 m (pc + 3) ls (r.toList ++ rest))) :
    W p l e (rmC d mcR msR) s m args below meth c H locs cells slots Q (F0 m pc ls (As.reverse ++ .ref (bs G + a) :: rest)) := by
  refine w_size (fun hu => ?_)
  have he := wl_at G h ha.1 ha.2
  have hc13 : ci < 13 := by
    have := (List.getElem?_eq_some_iff.mp hcl).1
    exact this
  rw [cE_o G h hk hc13] at he
  subst hC
  exact c_go X hn (va_runV (C := y.cls) (As := As) (rest := rest) ⟨hx, hb, hml, hown, hts⟩ hM ⟨c_B hts hc hl.1 hd, hts _ hl.2.1, hts _ hl.2.2⟩ ⟨(c_pre hK X hu).1, va_recv hK.1 X.1 hcl he, (c_pre hK X hu).2⟩ rfl hAs hls rfl (lv_room hrs) hdg hf) kk
theorem c_S (hx : p.tables.exec = Jvm.exec) (hb : c.code = cc) (hml : c.maxLocals = nL) (hown : s.vm.findClass own = some m.cls) (hts : ∀ w ∈ TT, w.before args s = true) (hK : Ks G s) (X : XW G n h s cells H locs)
    (hM : CT l G n n' y (.code y bytes maxL ret) d' mc ms As h h' r) (hn : n' = n + mc) (hc : LC y bytes maxL ret np) (hl : LSt own idx y) (hd : d' < d) (hAs : As.length = np) (hls : ls.size = nL) (hrs : (rest.map fun v => v.category).sum ≤ 8)
    (hdg : decode cc pc = .ok (.invokestatic idx, 3)) (hf : cells + mc ≤ mcR ∧ slots + ms ≤ msR)
    (kk : ∀ (H1 : Heap) (locs1 : List Loc), XW G n' h' s (cells + mc) H1 locs1 → W p l e (rmC d mcR msR) s m args below meth c H1 locs1 (cells + mc) (slots + ms) Q (F0 m (pc + 3) ls (r.toList ++ rest))) :
    W p l e (rmC d mcR msR) s m args below meth c H locs cells slots Q (F0 m pc ls (As.reverse ++ rest)) := by
  refine w_size (fun hu => ?_)
  exact c_go X hn (va_runS (As := As) (rest := rest) ⟨hx, hb, hml, hown, hts⟩ hM ⟨c_B hts hc hl.1 hd, hts _ hl.2⟩ (c_pre hK X hu) rfl hAs hls rfl (lv_room hrs) hdg hf) kk
theorem c_SN (hx : p.tables.exec = Jvm.exec) (hb : c.code = cc) (hml : c.maxLocals = nL) (hown : s.vm.findClass own = some m.cls) (hts : ∀ w ∈ TT, w.before args s = true) (hK : Ks G s) (X : XW G n h s cells H locs)
    (hM : CT l G n n' y (.code y bytes maxL ret) d' mc ms As h h' r) (hn : n' = n + mc) (hc : LC y bytes maxL ret np) (hl : LSN own idx y) (hd : d' < d) (hAs : As.length = np) (hls : ls.size = nL) (hrs : (rest.map fun v => v.category).sum ≤ 8)
    (hdg : decode cc pc = .ok (.invokestatic idx, 3)) (hf : cells + mc ≤ mcR ∧ slots + ms ≤ msR)
    (kk : ∀ (H1 : Heap) (locs1 : List Loc), XW G n' h' s (cells + mc) H1 locs1 → W p l e (rmC d mcR msR) s m args below meth c H1 locs1 (cells + mc) (slots + ms) Q (F0 m (pc + 3) ls (r.toList ++ rest))) :
    W p l e (rmC d mcR msR) s m args below meth c H locs cells slots Q (F0 m pc ls (As.reverse ++ rest)) := by
  refine w_size (fun hu => ?_)
  exact c_go X hn (va_runSN (As := As) (rest := rest) ⟨hx, hb, hml, hown, hts⟩ hM ⟨c_BN hts hK hc hl.1 hd, hts _ hl.2, trivial⟩ (c_pre hK X hu) rfl hAs hls rfl (lv_room hrs) hdg hf) kk
theorem c_I {a : Nat} (hx : p.tables.exec = Jvm.exec) (hb : c.code = cc) (hml : c.maxLocals = nL) (hown : s.vm.findClass own = some m.cls) (hts : ∀ w ∈ TT, w.before args s = true) (hK : Ks G s) (X : XW G n h s cells H locs)
    (hM : CT l G n n' y (.code y bytes maxL none) d' mc ms (.ref (bs G + a) :: As) h h' r) (hn : n' = n + mc) (hc : LC y bytes maxL none np) (hl : LI own idx y) (hd : d' < d) (hAs : As.length = np) (hls : ls.size = nL) (hrs : (rest.map fun v => v.category).sum ≤ 8)
    (hdg : decode cc pc = .ok (.invokespecial idx, 3)) (hf : cells + mc ≤ mcR ∧ slots + ms ≤ msR)
    (kk : ∀ (H1 : Heap) (locs1 : List Loc), XW G n' h' s (cells + mc) H1 locs1 → W p l e (rmC d mcR msR) s m args below meth c H1 locs1 (cells + mc) (slots + ms) Q (F0 m (pc + 3) ls (r.toList ++ rest))) :
    W p l e (rmC d mcR msR) s m args below meth c H locs cells slots Q (F0 m pc ls (As.reverse ++ .ref (bs G + a) :: rest)) := by
  refine w_size (fun hu => ?_)
  exact c_go X hn (va_runI (As := As) (rest := rest) ⟨hx, hb, hml, hown, hts⟩ hM ⟨c_B hts hc hl.1 hd, hl.2.2, hts _ hl.2.1⟩ (c_pre hK X hu) rfl hAs hls rfl (lv_room hrs) hdg hf) kk
theorem c_IN {a : Nat} (hx : p.tables.exec = Jvm.exec) (hb : c.code = cc) (hml : c.maxLocals = nL) (hown : s.vm.findClass own = some m.cls) (hts : ∀ w ∈ TT, w.before args s = true) (hK : Ks G s) (X : XW G n h s cells H locs)
    (hM : CT l G n n' y (.code y bytes maxL none) d' mc ms (.ref (bs G + a) :: As) h h' r) (hn : n' = n + mc) (hc : LC y bytes maxL none np) (hl : LIN own idx y) (hd : d' < d) (hAs : As.length = np) (hls : ls.size = nL) (hrs : (rest.map fun v => v.category).sum ≤ 8)
    (hdg : decode cc pc = .ok (.invokespecial idx, 3)) (hf : cells + mc ≤ mcR ∧ slots + ms ≤ msR)
    (kk : ∀ (H1 : Heap) (locs1 : List Loc), XW G n' h' s (cells + mc) H1 locs1 → W p l e (rmC d mcR msR) s m args below meth c H1 locs1 (cells + mc) (slots + ms) Q (F0 m (pc + 3) ls (r.toList ++ rest))) :
    W p l e (rmC d mcR msR) s m args below meth c H locs cells slots Q (F0 m pc ls (As.reverse ++ .ref (bs G + a) :: rest)) := by
  refine w_size (fun hu => ?_)
  exact c_go X hn (va_runIN (As := As) (rest := rest) ⟨hx, hb, hml, hown, hts⟩ hM ⟨c_BN hts hK hc hl.1 hd, hl.2.2, hts _ hl.2.1⟩ (c_pre hK X hu) rfl hAs hls rfl (lv_room hrs) hdg hf) kk
theorem r_I {v v' : Int32} (hx : p.tables.exec = Jvm.exec) (hb : c.code = cc) (hr : meth.sig.returnType = some .int) (hlocks : meth.locks = false) (X : XW G n h s cells H locs) (hf : some (v, h) = some (v', h')) (hdg : decode cc pc = .ok (.ireturn, 1)) :
    W p l e R s m args below meth c H locs cells slots (MQ below (QP G n h' (some (.int v'))) args s cells slots (Ab G)) (F0 m pc ls [.int v]) := by
  cases hf
  exact W.iret hx hb hr (fun t ht hW => ⟨rfl, by rw [ht]; exact X.1, X.2.1.F ht⟩) X.2.1.2.2 hdg hlocks
theorem r_Z {v v' : Int32} {ty : FieldType} (hx : p.tables.exec = Jvm.exec) (hb : c.code = cc) (hr : meth.sig.returnType = some ty) (hlocks : meth.locks = false) (X : XW G n h s cells H locs) (hz : narrow ty (.int v) = .int v) (hf : some (v, h) = some (v', h')) (hdg : decode cc pc = .ok (.ireturn, 1)) :
    W p l e R s m args below meth c H locs cells slots (MQ below (QP G n h' (some (.int v'))) args s cells slots (Ab G)) (F0 m pc ls [.int v]) := by
  cases hf
  exact W.zret hx hb hr hz (fun t ht hW => ⟨rfl, by rw [ht]; exact X.1, X.2.1.F ht⟩) X.2.1.2.2 hdg hlocks
theorem r_V {v v' : Unit} (hx : p.tables.exec = Jvm.exec) (hb : c.code = cc) (hr : meth.sig.returnType = none) (hlocks : meth.locks = false) (X : XW G n h s cells H locs) (hf : some (v, h) = some (v', h')) (hdg : decode cc pc = .ok (.return_, 1)) :
    W p l e R s m args below meth c H locs cells slots (MQ below (QP G n h' none) args s cells slots (Ab G)) (F0 m pc ls []) := by
  cases hf
  exact W.vret hx hb hr (fun t ht hW => ⟨rfl, by rw [ht]; exact X.1, X.2.1.F ht⟩) X.2.1.2.2 hdg hlocks
theorem r_A {v v' : Nat} {nm : String} (hx : p.tables.exec = Jvm.exec) (hb : c.code = cc) (hr : meth.sig.returnType = some (.object nm)) (hlocks : meth.locks = false) (X : XW G n h s cells H locs) (hf : some (v, h) = some (v', h')) (hdg : decode cc pc = .ok (.areturn, 1)) :
    W p l e R s m args below meth c H locs cells slots (MQ below (QP G n h' (some (.ref (bs G + v')))) args s cells slots (Ab G)) (F0 m pc ls [.ref (bs G + v)]) := by
  cases hf
  exact W.aret hx hb hr (Or.inl ⟨_, rfl⟩) (Or.inr ⟨_, rfl⟩) (fun t ht hW => ⟨rfl, by rw [ht]; exact X.1, X.2.1.F ht⟩) X.2.1.2.2 hdg hlocks
/-- System.arraycopy between two rows of ints, the first k places -/
theorem g_copy {a b K1 K2 : Nat} {k : Int32} (hx : p.tables.exec = Jvm.exec) (hb : c.code = cc) (hml : c.maxLocals = ls.size) (hown : s.vm.findClass own = some m.cls) (hts : ∀ w ∈ TT, w.before args s = true) (hK : Ks G s) (X : XW G n h s cells H locs)
    (hl : Cond.methodLink own idx arraycopyName ∈ TT) (hnat : Cond.native arraycopyName ∈ TT) (hst : Cond.static arraycopyName ∈ TT) (hini : Cond.initialized "java/lang/System" ∈ TT)
    (hka : kd a = K1) (hkb : kd b = K2) (hna : kmx K1 ≤ n) (hnb : kmx K2 ≤ n) (h1 : K1 = 13 ∨ K1 = 16) (h2 : K2 = 13 ∨ K2 = 16) (hk0 : ¬ k < 0) (hka2 : k.toNatClampNeg ≤ ln a) (hkb2 : k.toNatClampNeg ≤ ln b) (hd : 0 < d) (hrs : (rest.map fun v => v.category).sum ≤ 8)
    (hdg : decode cc pc = .ok (.invokestatic idx, 3))
    (kk : ∀ (H1 : Heap) (locs1 : List Loc), XW G n (sc h b (va_cpy (h.1 a) (h.1 b) 0 0 k.toNatClampNeg)) s cells H1 locs1 → W p l e (rmC d mcR msR) s m args below meth c H1 locs1 cells slots Q (F0 m (pc + 3) ls rest)) :
    W p l e (rmC d mcR msR) s m args below meth c H locs cells slots Q (F0 m pc ls (.int k :: .int 0 :: .ref (bs G + b) :: .int 0 :: .ref (bs G + a) :: rest)) := by
  have ha := kd_in hka hna (by omega)
  have hb1 := kd_in hkb hnb (by omega)
  have he := wl_at G h ha.1 ha.2
  have heb := wl_at G h hb1.1 hb1.2
  have hk2 : kd b = 13 ∨ kd b = 16 := by rw [hkb]; exact h2
  rw [cE_i G h (by rw [hka]; exact h1)] at he
  rw [cE_i G h hk2] at heb
  have z0 : (0 : Int32).toNatClampNeg = 0 := rfl
  have hloc : (rest.map fun v => v.category).sum + (nativeFrameWords "java/lang/System" "arraycopy" 5 + 11) ≤ (rmC d mcR msR).locals := by
    have h41 : nativeFrameWords "java/lang/System" "arraycopy" 5 ≤ 41 := by decide +kernel
    show _ ≤ 60 * d
    omega
  refine va_copyi (ty := .int) (sp := 0) (dp := 0) (n := k) hx hb hml hown (hts _ hl) (hts _ hnat) (hts _ hst) (hts _ hini) hK.1 X.1 (wl_D G n h) X.2.1 (a - 1) (b - 1) 0 0 he heb rfl rfl rfl (by decide) (by decide) hk0 (by rw [z0]; omega) (by rw [z0]; omega) (fun _ _ => rfl) (show 1 ≤ (rmC d mcR msR).frames from hd) hloc hdg (fun H1 locs1 hP hD hS => ?_)
  rw [z0] at hP
  rw [show va_cpy (h.1 a) (h.1 b) 0 0 k.toNatClampNeg = (sc h b (va_cpy (h.1 a) (h.1 b) 0 0 k.toNatClampNeg)).1 b from (sc_1 _ _ _).symm, ← cE_i G _ hk2, wl_set G h _ hb1.1 (cE_sc G h b _)] at hP
  exact kk H1 locs1 ⟨hP, hS, X.2.2.1, X.2.2.2⟩
theorem i32n {x k : Int32} (h : ¬ x = k) : x.toInt ≠ k.toInt := fun e => h (Int32.toInt_inj.mp e)
end CALLS
theorem lm_native : Cond.native arraycopyName ∈ TT := mt (i := 705) (by decide +kernel) (by decide +kernel)
theorem lm_static : Cond.static arraycopyName ∈ TT := mt (i := 704) (by decide +kernel) (by decide +kernel)
theorem lm_system : Cond.initialized "java/lang/System" ∈ TT := mt (i := 70) (by decide +kernel) (by decide +kernel)
theorem lm_math : Cond.initialized "java/lang/Math" ∈ TT := mt (i := 57) (by decide +kernel) (by decide +kernel)
theorem lm_maxS : Cond.static Lib.Math.max.name ∈ TT := mt (i := 187) (by decide +kernel) (by decide +kernel)
theorem lm_minS : Cond.static Lib.Math.min.name ∈ TT := mt (i := 744) (by decide +kernel) (by decide +kernel)
theorem lm_maxC : Cond.code Lib.Math.max.name Lib.Math.max.code 2 (some .int) ∈ TT := mt (i := 188) (by decide +kernel) (by decide +kernel)
theorem lm_minC : Cond.code Lib.Math.min.name Lib.Math.min.code 2 (some .int) ∈ TT := mt (i := 745) (by decide +kernel) (by decide +kernel)
theorem lk_df {ps : List (Int × Int)} {ex : List Int32} {x : Int32} {dflt : Int} (h : ps.map (·.1) = ex.map (·.toInt)) (hne : ∀ k ∈ ex, ¬ x = k) : Op.lookupswitch.offset ps dflt x.toInt = dflt := by
  induction ps generalizing ex with
  | nil => rfl
  | cons a r ih =>
    cases ex with
    | nil => cases h
    | cons k ex =>
      simp only [List.map_cons, List.cons.injEq] at h
      obtain ⟨a1, a2⟩ := a
      rw [Op.lookupswitch.offset_cons, if_neg]
      · exact ih h.2 (fun z hz => hne z (List.mem_cons_of_mem _ hz))
      · intro e
        exact hne k List.mem_cons_self (Int32.toInt_inj.mp (by rw [← h.1, ← e]))
section CALLS0
variable {p : Program} {l : Launch} {e : Env} {s : State} {m : MethodId} {args : Array Value} {below : List Frame} {meth : Method} {c : Code} {H : Heap} {locs : List Loc} {cells slots : Nat} {Q : State → Prop}
variable {cc : ByteArray} {pc : Nat} {ls : Array Slot} {rest st1 : List Value} {G : GG} {n : Nat} {h h' : Hp} {r : Option Value} {d d' mcR msR nL : Nat} {own : String} {idx : Nat} {y : MethodName} {bytes : ByteArray} {maxL np : Nat} {ret : Option FieldType} {As : List Value}
/-- calls that make no cell -/
theorem c_V0 {a ci : Nat} {C : String} {T : u_T} {N : Nat} (hx : p.tables.exec = Jvm.exec) (hb : c.code = cc) (hml : c.maxLocals = nL) (hown : s.vm.findClass own = some m.cls) (hts : ∀ w ∈ TT, w.before args s = true) (hK : Ks G s) (X : XW G n h s 0 H locs)
    (hM : CT l G n n y (.code y bytes maxL ret) d' 0 0 (.ref (bs G + a) :: As) h h' r) (hk : kd a = ci) (hn : kmx ci ≤ n) (hc : LC y bytes maxL ret np) (hl : LV own idx y) (hcl : cls[ci]? = some (C, T, N)) (hC : y.cls = C) (hd : d' < d) (hAs : As.length = np) (hls : ls.size = nL) (hrs : (rest.map fun v => v.category).sum ≤ 8)
    (hdg : decode cc pc = .ok (.invokevirtual idx, 3)) (hst : r.toList ++ rest = st1)
    (kk : ∀ (H1 : Heap) (locs1 : List Loc), XW G n h' s 0 H1 locs1 → W p l e (rmC d 0 0) s m args below meth c H1 locs1 0 0 Q (F0 m (pc + 3) ls st1)) :
    W p l e (rmC d 0 0) s m args below meth c H locs 0 0 Q (F0 m pc ls (As.reverse ++ .ref (bs G + a) :: rest)) := by
  subst hst
  have h99 : ci ≠ 99 := by
    have : ci < 13 := (List.getElem?_eq_some_iff.mp hcl).1
    omega
  exact c_V hx hb hml hown hts hK X hM rfl hk (kd_in hk hn h99) hc hl hcl hC hd hAs hls hrs hdg ⟨Nat.le_refl 0, Nat.le_refl 0⟩ kk
theorem c_S0 (hx : p.tables.exec = Jvm.exec) (hb : c.code = cc) (hml : c.maxLocals = nL) (hown : s.vm.findClass own = some m.cls) (hts : ∀ w ∈ TT, w.before args s = true) (hK : Ks G s) (X : XW G n h s 0 H locs)
    (hM : CT l G n n y (.code y bytes maxL ret) d' 0 0 As h h' r) (hc : LC y bytes maxL ret np) (hl : LSt own idx y) (hd : d' < d) (hAs : As.length = np) (hls : ls.size = nL) (hrs : (rest.map fun v => v.category).sum ≤ 8)
    (hdg : decode cc pc = .ok (.invokestatic idx, 3)) (hst : r.toList ++ rest = st1)
    (kk : ∀ (H1 : Heap) (locs1 : List Loc), XW G n h' s 0 H1 locs1 → W p l e (rmC d 0 0) s m args below meth c H1 locs1 0 0 Q (F0 m (pc + 3) ls st1)) :
    W p l e (rmC d 0 0) s m args below meth c H locs 0 0 Q (F0 m pc ls (As.reverse ++ rest)) := by
  subst hst
  exact c_S hx hb hml hown hts hK X hM rfl hc hl hd hAs hls hrs hdg ⟨Nat.le_refl 0, Nat.le_refl 0⟩ kk
theorem c_SN0 (hx : p.tables.exec = Jvm.exec) (hb : c.code = cc) (hml : c.maxLocals = nL) (hown : s.vm.findClass own = some m.cls) (hts : ∀ w ∈ TT, w.before args s = true) (hK : Ks G s) (X : XW G n h s 0 H locs)
    (hM : CT l G n n y (.code y bytes maxL ret) d' 0 0 As h h' r) (hc : LC y bytes maxL ret np) (hl : LSN own idx y) (hd : d' < d) (hAs : As.length = np) (hls : ls.size = nL) (hrs : (rest.map fun v => v.category).sum ≤ 8)
    (hdg : decode cc pc = .ok (.invokestatic idx, 3)) (hst : r.toList ++ rest = st1)
    (kk : ∀ (H1 : Heap) (locs1 : List Loc), XW G n h' s 0 H1 locs1 → W p l e (rmC d 0 0) s m args below meth c H1 locs1 0 0 Q (F0 m (pc + 3) ls st1)) :
    W p l e (rmC d 0 0) s m args below meth c H locs 0 0 Q (F0 m pc ls (As.reverse ++ rest)) := by
  subst hst
  exact c_SN hx hb hml hown hts hK X hM rfl hc hl hd hAs hls hrs hdg ⟨Nat.le_refl 0, Nat.le_refl 0⟩ kk
theorem g_mmax {x z : Int32} (hx : p.tables.exec = Jvm.exec) (hb : c.code = cc) (hml : c.maxLocals = ls.size) (hown : s.vm.findClass own = some m.cls) (hts : ∀ w ∈ TT, w.before args s = true) (hl : Cond.methodLink own idx Lib.Math.max.name ∈ TT) (hd : 0 < d) (hrs : (rest.map fun v => v.category).sum ≤ 8) (hdg : decode cc pc = .ok (.invokestatic idx, 3))
    (kk : W p l e (rmC d 0 0) s m args below meth c H locs 0 0 Q (F0 m (pc + 3) ls (.int (if x < z then z else x) :: rest))) : W p l e (rmC d 0 0) s m args below meth c H locs 0 0 Q (F0 m pc ls (.int z :: .int x :: rest)) :=
  va_mmax (R := rmC d 0 0) hx hb hml hown (hts _ hl) (hts _ lm_maxS) (hts _ lm_math) (hts _ lm_maxC) (show 1 ≤ (rmC d 0 0).frames from hd) (by show _ ≤ 60 * d; omega) (Nat.le_refl 0) (Nat.le_refl 0) hdg kk
theorem g_mmin {x z : Int32} (hx : p.tables.exec = Jvm.exec) (hb : c.code = cc) (hml : c.maxLocals = ls.size) (hown : s.vm.findClass own = some m.cls) (hts : ∀ w ∈ TT, w.before args s = true) (hl : Cond.methodLink own idx Lib.Math.min.name ∈ TT) (hd : 0 < d) (hrs : (rest.map fun v => v.category).sum ≤ 8) (hdg : decode cc pc = .ok (.invokestatic idx, 3))
    (kk : W p l e (rmC d 0 0) s m args below meth c H locs 0 0 Q (F0 m (pc + 3) ls (.int (if z < x then z else x) :: rest))) : W p l e (rmC d 0 0) s m args below meth c H locs 0 0 Q (F0 m pc ls (.int z :: .int x :: rest)) :=
  va_mmin (R := rmC d 0 0) hx hb hml hown (hts _ hl) (hts _ lm_minS) (hts _ lm_math) (hts _ lm_minC) (show 1 ≤ (rmC d 0 0).frames from hd) (by show _ ≤ 60 * d; omega) (Nat.le_refl 0) (Nat.le_refl 0) hdg kk
variable {R : Room}
theorem sw_in {dflt lo hi : Int} {offs : Array Int} {len : Nat} {x k : Int32} {off : Int} {tgt : Nat} (hx : p.tables.exec = Jvm.exec) (hb : c.code = cc) (hdg : decode cc pc = .ok (.tableswitch dflt lo hi offs, len)) (he : x = k) (h1 : ¬ k.toInt < lo) (h2 : ¬ hi < k.toInt) (ho : offs[(k.toInt - lo).toNat]? = some off) (ht : (pc : Int) + off = (tgt : Int))
    (kk : W p l e R s m args below meth c H locs cells slots Q (F0 m tgt ls rest)) : W p l e R s m args below meth c H locs cells slots Q (F0 m pc ls (.int x :: rest)) := by
  subst he
  exact lv_tableIn hx hb hdg h1 h2 ho ht kk
theorem sw_df {dflt lo hi : Int} {offs : Array Int} {len : Nat} {x : Int32} {ex : List Int32} {tgt : Nat} (hx : p.tables.exec = Jvm.exec) (hb : c.code = cc) (hdg : decode cc pc = .ok (.tableswitch dflt lo hi offs, len)) (hsz : hi + 1 = lo + offs.size) (hall : ∀ i, i < offs.size → ((∃ k ∈ ex, k.toInt = lo + i) ∨ offs[i]? = some dflt)) (hne : ∀ k ∈ ex, ¬ x = k) (ht : (pc : Int) + dflt = (tgt : Int))
    (kk : W p l e R s m args below meth c H locs cells slots Q (F0 m tgt ls rest)) : W p l e R s m args below meth c H locs cells slots Q (F0 m pc ls (.int x :: rest)) := by
  by_cases h1 : x.toInt < lo
  · exact lv_tableOut hx hb hdg (Or.inl h1) ht kk
  · by_cases h2 : hi < x.toInt
    · exact lv_tableOut hx hb hdg (Or.inr h2) ht kk
    · refine lv_tableIn hx hb hdg h1 h2 ?_ ht kk
      rcases hall (x.toInt - lo).toNat (by omega) with ⟨k, hk, ek⟩ | h
      · exact absurd (Int32.toInt_inj.mp (by rw [ek]; omega)) (hne k hk)
      · exact h
end CALLS0
end
section
set_option maxRecDepth 100000
theorem cn_J6_265 : Cond.constant "java/lang/Integer" 265 (1431655765 : Int32) ∈ TT := mt (i := 777) (by decide +kernel) (by decide +kernel)
theorem cn_J6_266 : Cond.constant "java/lang/Integer" 266 (858993459 : Int32) ∈ TT := mt (i := 778) (by decide +kernel) (by decide +kernel)
theorem cn_J6_267 : Cond.constant "java/lang/Integer" 267 (252645135 : Int32) ∈ TT := mt (i := 779) (by decide +kernel) (by decide +kernel)
theorem cn_X12_103 : Cond.constantLong RX12 103 (24 : Int64) ∈ TT := mt (i := 1130) (by decide +kernel) (by decide +kernel)
theorem cn_X12_144 : Cond.constantLong RX12 144 (3 : Int64) ∈ TT := mt (i := 1171) (by decide +kernel) (by decide +kernel)
theorem cn_X12_162 : Cond.constantLong RX12 162 (-300 : Int64) ∈ TT := mt (i := 1231) (by decide +kernel) (by decide +kernel)
theorem cn_X12_164 : Cond.constantLong RX12 164 (300 : Int64) ∈ TT := mt (i := 1232) (by decide +kernel) (by decide +kernel)
theorem cn_X12_166 : Cond.constant RX12 166 (1000000 : Int32) ∈ TT := mt (i := 1226) (by decide +kernel) (by decide +kernel)
theorem cn_X12_207 : Cond.constantLong RX12 207 (99 : Int64) ∈ TT := mt (i := 1264) (by decide +kernel) (by decide +kernel)
theorem cn_X12_209 : Cond.constantLong RX12 209 (4 : Int64) ∈ TT := mt (i := 1265) (by decide +kernel) (by decide +kernel)
theorem cn_X12_227 : Cond.constantLong RX12 227 (-1 : Int64) ∈ TT := mt (i := 1290) (by decide +kernel) (by decide +kernel)
theorem cn_X12_229 : Cond.constantLong RX12 229 (5 : Int64) ∈ TT := mt (i := 1291) (by decide +kernel) (by decide +kernel)
theorem cn_X12_234 : Cond.constantLong RX12 234 (600 : Int64) ∈ TT := mt (i := 1328) (by decide +kernel) (by decide +kernel)
theorem cn_X12_245 : Cond.constantLong RX12 245 (9999 : Int64) ∈ TT := mt (i := 1361) (by decide +kernel) (by decide +kernel)
theorem cn_X12_247 : Cond.constantLong RX12 247 (30 : Int64) ∈ TT := mt (i := 1362) (by decide +kernel) (by decide +kernel)
theorem cn_X12_249 : Cond.constantLong RX12 249 (7919 : Int64) ∈ TT := mt (i := 1363) (by decide +kernel) (by decide +kernel)
theorem cn_X12_251 : Cond.constantLong RX12 251 (6151 : Int64) ∈ TT := mt (i := 1364) (by decide +kernel) (by decide +kernel)
theorem cn_X12_253 : Cond.constantLong RX12 253 (101 : Int64) ∈ TT := mt (i := 1365) (by decide +kernel) (by decide +kernel)
theorem cn_X12_255 : Cond.constantLong RX12 255 (65521 : Int64) ∈ TT := mt (i := 1366) (by decide +kernel) (by decide +kernel)
theorem cn_X12_79 : Cond.constantLong RX12 79 (32 : Int64) ∈ TT := mt (i := 1098) (by decide +kernel) (by decide +kernel)
theorem cn_X12_81 : Cond.constantLong RX12 81 (126 : Int64) ∈ TT := mt (i := 1099) (by decide +kernel) (by decide +kernel)
theorem cn_X12_89 : Cond.constantLong RX12 89 (48 : Int64) ∈ TT := mt (i := 1127) (by decide +kernel) (by decide +kernel)
theorem cn_X12_91 : Cond.constantLong RX12 91 (57 : Int64) ∈ TT := mt (i := 1128) (by decide +kernel) (by decide +kernel)
theorem cn_X12_97 : Cond.constantLong RX12 97 (2 : Int64) ∈ TT := mt (i := 1129) (by decide +kernel) (by decide +kernel)
theorem cn_X6_43 : Cond.constantLong RX6 43 (7919 : Int64) ∈ TT := mt (i := 972) (by decide +kernel) (by decide +kernel)
theorem cn_X6_45 : Cond.constantLong RX6 45 (6151 : Int64) ∈ TT := mt (i := 973) (by decide +kernel) (by decide +kernel)
theorem cn_X6_47 : Cond.constantLong RX6 47 (101 : Int64) ∈ TT := mt (i := 974) (by decide +kernel) (by decide +kernel)
theorem cn_X6_49 : Cond.constantLong RX6 49 (65521 : Int64) ∈ TT := mt (i := 975) (by decide +kernel) (by decide +kernel)
theorem cn_X6_51 : Cond.constantLong RX6 51 (99 : Int64) ∈ TT := mt (i := 976) (by decide +kernel) (by decide +kernel)
theorem cn_X7_49 : Cond.constant RX7 49 (1000000 : Int32) ∈ TT := mt (i := 746) (by decide +kernel) (by decide +kernel)
theorem fl_X0_15 : FL RX0 15 0 3 := ⟨RX0, TX0, 6, rfl, by decide, mt (i := 228) (by decide +kernel) (by decide +kernel)⟩
theorem fl_X0_18 : FL RX0 18 0 4 := ⟨RX0, TX0, 6, rfl, by decide, mt (i := 229) (by decide +kernel) (by decide +kernel)⟩
theorem fl_X0_21 : FL RX0 21 0 5 := ⟨RX0, TX0, 6, rfl, by decide, mt (i := 230) (by decide +kernel) (by decide +kernel)⟩
theorem fl_X0_24 : FL RX0 24 0 0 := ⟨RX0, TX0, 6, rfl, by decide, mt (i := 223) (by decide +kernel) (by decide +kernel)⟩
theorem fl_X0_28 : FL RX0 28 4 2 := ⟨RX4, TX4, 8, rfl, by decide, mt (i := 117) (by decide +kernel) (by decide +kernel)⟩
theorem fl_X0_39 : FL RX0 39 4 1 := ⟨RX4, TX4, 8, rfl, by decide, mt (i := 114) (by decide +kernel) (by decide +kernel)⟩
theorem fl_X0_42 : FL RX0 42 4 7 := ⟨RX4, TX4, 8, rfl, by decide, mt (i := 132) (by decide +kernel) (by decide +kernel)⟩
theorem fl_X0_49 : FL RX0 49 0 1 := ⟨RX0, TX0, 6, rfl, by decide, mt (i := 225) (by decide +kernel) (by decide +kernel)⟩
theorem fl_X0_9 : FL RX0 9 0 2 := ⟨RX0, TX0, 6, rfl, by decide, mt (i := 227) (by decide +kernel) (by decide +kernel)⟩
theorem fl_X10_15 : FL RX10 15 10 2 := ⟨RX10, TX10, 3, rfl, by decide, mt (i := 209) (by decide +kernel) (by decide +kernel)⟩
theorem fl_X10_18 : FL RX10 18 10 0 := ⟨RX10, TX10, 3, rfl, by decide, mt (i := 206) (by decide +kernel) (by decide +kernel)⟩
theorem fl_X10_9 : FL RX10 9 10 1 := ⟨RX10, TX10, 3, rfl, by decide, mt (i := 208) (by decide +kernel) (by decide +kernel)⟩
theorem fl_X11_10 : FL RX11 10 11 0 := ⟨RX11, TX11, 12, rfl, by decide, mt (i := 538) (by decide +kernel) (by decide +kernel)⟩
theorem fl_X11_109 : FL RX11 109 8 0 := ⟨RX8, TX8, 5, rfl, by decide, mt (i := 86) (by decide +kernel) (by decide +kernel)⟩
theorem fl_X11_116 : FL RX11 116 4 1 := ⟨RX4, TX4, 8, rfl, by decide, mt (i := 116) (by decide +kernel) (by decide +kernel)⟩
theorem fl_X11_123 : FL RX11 123 3 0 := ⟨RX3, TX3, 2, rfl, by decide, mt (i := 193) (by decide +kernel) (by decide +kernel)⟩
theorem fl_X11_126 : FL RX11 126 10 0 := ⟨RX10, TX10, 3, rfl, by decide, mt (i := 207) (by decide +kernel) (by decide +kernel)⟩
theorem fl_X11_127 : FL RX11 127 0 0 := ⟨RX0, TX0, 6, rfl, by decide, mt (i := 224) (by decide +kernel) (by decide +kernel)⟩
theorem fl_X11_128 : FL RX11 128 4 0 := ⟨RX4, TX4, 8, rfl, by decide, mt (i := 112) (by decide +kernel) (by decide +kernel)⟩
theorem fl_X11_135 : FL RX11 135 4 5 := ⟨RX4, TX4, 8, rfl, by decide, mt (i := 126) (by decide +kernel) (by decide +kernel)⟩
theorem fl_X11_139 : FL RX11 139 4 6 := ⟨RX4, TX4, 8, rfl, by decide, mt (i := 129) (by decide +kernel) (by decide +kernel)⟩
theorem fl_X11_146 : FL RX11 146 2 0 := ⟨RX2, TX2, 5, rfl, by decide, mt (i := 158) (by decide +kernel) (by decide +kernel)⟩
theorem fl_X11_149 : FL RX11 149 2 1 := ⟨RX2, TX2, 5, rfl, by decide, mt (i := 161) (by decide +kernel) (by decide +kernel)⟩
theorem fl_X11_155 : FL RX11 155 4 7 := ⟨RX4, TX4, 8, rfl, by decide, mt (i := 133) (by decide +kernel) (by decide +kernel)⟩
theorem fl_X11_158 : FL RX11 158 2 2 := ⟨RX2, TX2, 5, rfl, by decide, mt (i := 164) (by decide +kernel) (by decide +kernel)⟩
theorem fl_X11_172 : FL RX11 172 4 2 := ⟨RX4, TX4, 8, rfl, by decide, mt (i := 119) (by decide +kernel) (by decide +kernel)⟩
theorem fl_X11_175 : FL RX11 175 4 3 := ⟨RX4, TX4, 8, rfl, by decide, mt (i := 122) (by decide +kernel) (by decide +kernel)⟩
theorem fl_X11_178 : FL RX11 178 4 4 := ⟨RX4, TX4, 8, rfl, by decide, mt (i := 124) (by decide +kernel) (by decide +kernel)⟩
theorem fl_X11_19 : FL RX11 19 11 1 := ⟨RX11, TX11, 12, rfl, by decide, mt (i := 539) (by decide +kernel) (by decide +kernel)⟩
theorem fl_X11_222 : FL RX11 222 2 3 := ⟨RX2, TX2, 5, rfl, by decide, mt (i := 166) (by decide +kernel) (by decide +kernel)⟩
theorem fl_X11_225 : FL RX11 225 2 4 := ⟨RX2, TX2, 5, rfl, by decide, mt (i := 168) (by decide +kernel) (by decide +kernel)⟩
theorem fl_X11_23 : FL RX11 23 11 2 := ⟨RX11, TX11, 12, rfl, by decide, mt (i := 540) (by decide +kernel) (by decide +kernel)⟩
theorem fl_X11_242 : FL RX11 242 6 2 := ⟨RX6, TX6, 7, rfl, by decide, mt (i := 354) (by decide +kernel) (by decide +kernel)⟩
theorem fl_X11_252 : FL RX11 252 1 4 := ⟨RX1, TX1, 10, rfl, by decide, mt (i := 393) (by decide +kernel) (by decide +kernel)⟩
theorem fl_X11_255 : FL RX11 255 6 0 := ⟨RX6, TX6, 7, rfl, by decide, mt (i := 349) (by decide +kernel) (by decide +kernel)⟩
theorem fl_X11_258 : FL RX11 258 1 5 := ⟨RX1, TX1, 10, rfl, by decide, mt (i := 395) (by decide +kernel) (by decide +kernel)⟩
theorem fl_X11_268 : FL RX11 268 1 0 := ⟨RX1, TX1, 10, rfl, by decide, mt (i := 385) (by decide +kernel) (by decide +kernel)⟩
theorem fl_X11_271 : FL RX11 271 1 1 := ⟨RX1, TX1, 10, rfl, by decide, mt (i := 387) (by decide +kernel) (by decide +kernel)⟩
theorem fl_X11_274 : FL RX11 274 1 2 := ⟨RX1, TX1, 10, rfl, by decide, mt (i := 389) (by decide +kernel) (by decide +kernel)⟩
theorem fl_X11_277 : FL RX11 277 6 3 := ⟨RX6, TX6, 7, rfl, by decide, mt (i := 356) (by decide +kernel) (by decide +kernel)⟩
theorem fl_X11_280 : FL RX11 280 6 4 := ⟨RX6, TX6, 7, rfl, by decide, mt (i := 359) (by decide +kernel) (by decide +kernel)⟩
theorem fl_X11_29 : FL RX11 29 11 3 := ⟨RX11, TX11, 12, rfl, by decide, mt (i := 541) (by decide +kernel) (by decide +kernel)⟩
theorem fl_X11_296 : FL RX11 296 0 1 := ⟨RX0, TX0, 6, rfl, by decide, mt (i := 226) (by decide +kernel) (by decide +kernel)⟩
theorem fl_X11_312 : FL RX11 312 1 3 := ⟨RX1, TX1, 10, rfl, by decide, mt (i := 391) (by decide +kernel) (by decide +kernel)⟩
theorem fl_X11_38 : FL RX11 38 11 4 := ⟨RX11, TX11, 12, rfl, by decide, mt (i := 542) (by decide +kernel) (by decide +kernel)⟩
theorem fl_X11_42 : FL RX11 42 11 5 := ⟨RX11, TX11, 12, rfl, by decide, mt (i := 543) (by decide +kernel) (by decide +kernel)⟩
theorem fl_X11_48 : FL RX11 48 11 6 := ⟨RX11, TX11, 12, rfl, by decide, mt (i := 544) (by decide +kernel) (by decide +kernel)⟩
theorem fl_X11_55 : FL RX11 55 11 7 := ⟨RX11, TX11, 12, rfl, by decide, mt (i := 545) (by decide +kernel) (by decide +kernel)⟩
theorem fl_X11_62 : FL RX11 62 11 8 := ⟨RX11, TX11, 12, rfl, by decide, mt (i := 546) (by decide +kernel) (by decide +kernel)⟩
theorem fl_X11_69 : FL RX11 69 11 9 := ⟨RX11, TX11, 12, rfl, by decide, mt (i := 547) (by decide +kernel) (by decide +kernel)⟩
theorem fl_X11_76 : FL RX11 76 11 10 := ⟨RX11, TX11, 12, rfl, by decide, mt (i := 548) (by decide +kernel) (by decide +kernel)⟩
theorem fl_X11_85 : FL RX11 85 11 11 := ⟨RX11, TX11, 12, rfl, by decide, mt (i := 549) (by decide +kernel) (by decide +kernel)⟩
theorem fl_X12_1 : FL RX12 1 12 0 := ⟨RX12, TX12, 30, rfl, by decide, mt (i := 1003) (by decide +kernel) (by decide +kernel)⟩
theorem fl_X12_113 : FL RX12 113 12 14 := ⟨RX12, TX12, 30, rfl, by decide, mt (i := 1017) (by decide +kernel) (by decide +kernel)⟩
theorem fl_X12_116 : FL RX12 116 12 27 := ⟨RX12, TX12, 30, rfl, by decide, mt (i := 1030) (by decide +kernel) (by decide +kernel)⟩
theorem fl_X12_119 : FL RX12 119 12 5 := ⟨RX12, TX12, 30, rfl, by decide, mt (i := 1008) (by decide +kernel) (by decide +kernel)⟩
theorem fl_X12_122 : FL RX12 122 12 7 := ⟨RX12, TX12, 30, rfl, by decide, mt (i := 1010) (by decide +kernel) (by decide +kernel)⟩
theorem fl_X12_128 : FL RX12 128 12 12 := ⟨RX12, TX12, 30, rfl, by decide, mt (i := 1015) (by decide +kernel) (by decide +kernel)⟩
theorem fl_X12_13 : FL RX12 13 12 1 := ⟨RX12, TX12, 30, rfl, by decide, mt (i := 1004) (by decide +kernel) (by decide +kernel)⟩
theorem fl_X12_17 : FL RX12 17 12 2 := ⟨RX12, TX12, 30, rfl, by decide, mt (i := 1005) (by decide +kernel) (by decide +kernel)⟩
theorem fl_X12_178 : FL RX12 178 12 16 := ⟨RX12, TX12, 30, rfl, by decide, mt (i := 1019) (by decide +kernel) (by decide +kernel)⟩
theorem fl_X12_181 : FL RX12 181 12 17 := ⟨RX12, TX12, 30, rfl, by decide, mt (i := 1020) (by decide +kernel) (by decide +kernel)⟩
theorem fl_X12_184 : FL RX12 184 12 18 := ⟨RX12, TX12, 30, rfl, by decide, mt (i := 1021) (by decide +kernel) (by decide +kernel)⟩
theorem fl_X12_20 : FL RX12 20 12 3 := ⟨RX12, TX12, 30, rfl, by decide, mt (i := 1006) (by decide +kernel) (by decide +kernel)⟩
theorem fl_X12_221 : FL RX12 221 12 23 := ⟨RX12, TX12, 30, rfl, by decide, mt (i := 1026) (by decide +kernel) (by decide +kernel)⟩
theorem fl_X12_23 : FL RX12 23 12 4 := ⟨RX12, TX12, 30, rfl, by decide, mt (i := 1007) (by decide +kernel) (by decide +kernel)⟩
theorem fl_X12_26 : FL RX12 26 12 6 := ⟨RX12, TX12, 30, rfl, by decide, mt (i := 1009) (by decide +kernel) (by decide +kernel)⟩
theorem fl_X12_29 : FL RX12 29 12 8 := ⟨RX12, TX12, 30, rfl, by decide, mt (i := 1011) (by decide +kernel) (by decide +kernel)⟩
theorem fl_X12_32 : FL RX12 32 12 11 := ⟨RX12, TX12, 30, rfl, by decide, mt (i := 1014) (by decide +kernel) (by decide +kernel)⟩
theorem fl_X12_35 : FL RX12 35 12 13 := ⟨RX12, TX12, 30, rfl, by decide, mt (i := 1016) (by decide +kernel) (by decide +kernel)⟩
theorem fl_X12_38 : FL RX12 38 12 15 := ⟨RX12, TX12, 30, rfl, by decide, mt (i := 1018) (by decide +kernel) (by decide +kernel)⟩
theorem fl_X12_41 : FL RX12 41 12 19 := ⟨RX12, TX12, 30, rfl, by decide, mt (i := 1022) (by decide +kernel) (by decide +kernel)⟩
theorem fl_X12_44 : FL RX12 44 12 20 := ⟨RX12, TX12, 30, rfl, by decide, mt (i := 1023) (by decide +kernel) (by decide +kernel)⟩
theorem fl_X12_47 : FL RX12 47 12 21 := ⟨RX12, TX12, 30, rfl, by decide, mt (i := 1024) (by decide +kernel) (by decide +kernel)⟩
theorem fl_X12_50 : FL RX12 50 12 22 := ⟨RX12, TX12, 30, rfl, by decide, mt (i := 1025) (by decide +kernel) (by decide +kernel)⟩
theorem fl_X12_53 : FL RX12 53 12 24 := ⟨RX12, TX12, 30, rfl, by decide, mt (i := 1027) (by decide +kernel) (by decide +kernel)⟩
theorem fl_X12_56 : FL RX12 56 12 25 := ⟨RX12, TX12, 30, rfl, by decide, mt (i := 1028) (by decide +kernel) (by decide +kernel)⟩
theorem fl_X12_59 : FL RX12 59 12 26 := ⟨RX12, TX12, 30, rfl, by decide, mt (i := 1029) (by decide +kernel) (by decide +kernel)⟩
theorem fl_X12_62 : FL RX12 62 12 28 := ⟨RX12, TX12, 30, rfl, by decide, mt (i := 1031) (by decide +kernel) (by decide +kernel)⟩
theorem fl_X12_65 : FL RX12 65 12 29 := ⟨RX12, TX12, 30, rfl, by decide, mt (i := 1032) (by decide +kernel) (by decide +kernel)⟩
theorem fl_X12_83 : FL RX12 83 12 9 := ⟨RX12, TX12, 30, rfl, by decide, mt (i := 1012) (by decide +kernel) (by decide +kernel)⟩
theorem fl_X12_86 : FL RX12 86 12 10 := ⟨RX12, TX12, 30, rfl, by decide, mt (i := 1013) (by decide +kernel) (by decide +kernel)⟩
theorem fl_X1_15 : FL RX1 15 1 7 := ⟨RX1, TX1, 10, rfl, by decide, mt (i := 397) (by decide +kernel) (by decide +kernel)⟩
theorem fl_X1_18 : FL RX1 18 1 8 := ⟨RX1, TX1, 10, rfl, by decide, mt (i := 398) (by decide +kernel) (by decide +kernel)⟩
theorem fl_X1_21 : FL RX1 21 1 9 := ⟨RX1, TX1, 10, rfl, by decide, mt (i := 399) (by decide +kernel) (by decide +kernel)⟩
theorem fl_X1_24 : FL RX1 24 1 6 := ⟨RX1, TX1, 10, rfl, by decide, mt (i := 396) (by decide +kernel) (by decide +kernel)⟩
theorem fl_X1_28 : FL RX1 28 6 2 := ⟨RX6, TX6, 7, rfl, by decide, mt (i := 352) (by decide +kernel) (by decide +kernel)⟩
theorem fl_X1_34 : FL RX1 34 6 0 := ⟨RX6, TX6, 7, rfl, by decide, mt (i := 348) (by decide +kernel) (by decide +kernel)⟩
theorem fl_X1_45 : FL RX1 45 6 5 := ⟨RX6, TX6, 7, rfl, by decide, mt (i := 361) (by decide +kernel) (by decide +kernel)⟩
theorem fl_X1_48 : FL RX1 48 6 4 := ⟨RX6, TX6, 7, rfl, by decide, mt (i := 357) (by decide +kernel) (by decide +kernel)⟩
theorem fl_X1_57 : FL RX1 57 1 0 := ⟨RX1, TX1, 10, rfl, by decide, mt (i := 384) (by decide +kernel) (by decide +kernel)⟩
theorem fl_X1_60 : FL RX1 60 6 1 := ⟨RX6, TX6, 7, rfl, by decide, mt (i := 350) (by decide +kernel) (by decide +kernel)⟩
theorem fl_X1_67 : FL RX1 67 1 1 := ⟨RX1, TX1, 10, rfl, by decide, mt (i := 386) (by decide +kernel) (by decide +kernel)⟩
theorem fl_X1_70 : FL RX1 70 1 2 := ⟨RX1, TX1, 10, rfl, by decide, mt (i := 388) (by decide +kernel) (by decide +kernel)⟩
theorem fl_X1_73 : FL RX1 73 1 3 := ⟨RX1, TX1, 10, rfl, by decide, mt (i := 390) (by decide +kernel) (by decide +kernel)⟩
theorem fl_X1_76 : FL RX1 76 1 4 := ⟨RX1, TX1, 10, rfl, by decide, mt (i := 392) (by decide +kernel) (by decide +kernel)⟩
theorem fl_X1_9 : FL RX1 9 1 5 := ⟨RX1, TX1, 10, rfl, by decide, mt (i := 394) (by decide +kernel) (by decide +kernel)⟩
theorem fl_X2_15 : FL RX2 15 2 1 := ⟨RX2, TX2, 5, rfl, by decide, mt (i := 159) (by decide +kernel) (by decide +kernel)⟩
theorem fl_X2_18 : FL RX2 18 2 2 := ⟨RX2, TX2, 5, rfl, by decide, mt (i := 163) (by decide +kernel) (by decide +kernel)⟩
theorem fl_X2_22 : FL RX2 22 2 3 := ⟨RX2, TX2, 5, rfl, by decide, mt (i := 165) (by decide +kernel) (by decide +kernel)⟩
theorem fl_X2_25 : FL RX2 25 2 4 := ⟨RX2, TX2, 5, rfl, by decide, mt (i := 167) (by decide +kernel) (by decide +kernel)⟩
theorem fl_X2_9 : FL RX2 9 2 0 := ⟨RX2, TX2, 5, rfl, by decide, mt (i := 157) (by decide +kernel) (by decide +kernel)⟩
theorem fl_X3_15 : FL RX3 15 3 1 := ⟨RX3, TX3, 2, rfl, by decide, mt (i := 194) (by decide +kernel) (by decide +kernel)⟩
theorem fl_X3_22 : FL RX3 22 3 0 := ⟨RX3, TX3, 2, rfl, by decide, mt (i := 192) (by decide +kernel) (by decide +kernel)⟩
theorem fl_X4_15 : FL RX4 15 4 6 := ⟨RX4, TX4, 8, rfl, by decide, mt (i := 127) (by decide +kernel) (by decide +kernel)⟩
theorem fl_X4_18 : FL RX4 18 4 7 := ⟨RX4, TX4, 8, rfl, by decide, mt (i := 130) (by decide +kernel) (by decide +kernel)⟩
theorem fl_X4_21 : FL RX4 21 4 0 := ⟨RX4, TX4, 8, rfl, by decide, mt (i := 111) (by decide +kernel) (by decide +kernel)⟩
theorem fl_X4_25 : FL RX4 25 4 1 := ⟨RX4, TX4, 8, rfl, by decide, mt (i := 113) (by decide +kernel) (by decide +kernel)⟩
theorem fl_X4_40 : FL RX4 40 4 3 := ⟨RX4, TX4, 8, rfl, by decide, mt (i := 121) (by decide +kernel) (by decide +kernel)⟩
theorem fl_X4_43 : FL RX4 43 4 4 := ⟨RX4, TX4, 8, rfl, by decide, mt (i := 123) (by decide +kernel) (by decide +kernel)⟩
theorem fl_X4_49 : FL RX4 49 4 2 := ⟨RX4, TX4, 8, rfl, by decide, mt (i := 120) (by decide +kernel) (by decide +kernel)⟩
theorem fl_X4_9 : FL RX4 9 4 5 := ⟨RX4, TX4, 8, rfl, by decide, mt (i := 125) (by decide +kernel) (by decide +kernel)⟩
theorem fl_X5_14 : FL RX5 14 5 0 := ⟨RX5, TX5, 9, rfl, by decide, mt (i := 313) (by decide +kernel) (by decide +kernel)⟩
theorem fl_X5_18 : FL RX5 18 5 1 := ⟨RX5, TX5, 9, rfl, by decide, mt (i := 314) (by decide +kernel) (by decide +kernel)⟩
theorem fl_X5_22 : FL RX5 22 5 2 := ⟨RX5, TX5, 9, rfl, by decide, mt (i := 315) (by decide +kernel) (by decide +kernel)⟩
theorem fl_X5_25 : FL RX5 25 5 3 := ⟨RX5, TX5, 9, rfl, by decide, mt (i := 316) (by decide +kernel) (by decide +kernel)⟩
theorem fl_X5_28 : FL RX5 28 5 4 := ⟨RX5, TX5, 9, rfl, by decide, mt (i := 317) (by decide +kernel) (by decide +kernel)⟩
theorem fl_X5_31 : FL RX5 31 5 5 := ⟨RX5, TX5, 9, rfl, by decide, mt (i := 318) (by decide +kernel) (by decide +kernel)⟩
theorem fl_X5_34 : FL RX5 34 5 6 := ⟨RX5, TX5, 9, rfl, by decide, mt (i := 319) (by decide +kernel) (by decide +kernel)⟩
theorem fl_X5_37 : FL RX5 37 5 7 := ⟨RX5, TX5, 9, rfl, by decide, mt (i := 320) (by decide +kernel) (by decide +kernel)⟩
theorem fl_X5_44 : FL RX5 44 5 8 := ⟨RX5, TX5, 9, rfl, by decide, mt (i := 321) (by decide +kernel) (by decide +kernel)⟩
theorem fl_X5_63 : FL RX5 63 7 0 := ⟨RX7, TX7, 12, rfl, by decide, mt (i := 272) (by decide +kernel) (by decide +kernel)⟩
theorem fl_X5_65 : FL RX5 65 7 1 := ⟨RX7, TX7, 12, rfl, by decide, mt (i := 274) (by decide +kernel) (by decide +kernel)⟩
theorem fl_X5_67 : FL RX5 67 7 2 := ⟨RX7, TX7, 12, rfl, by decide, mt (i := 276) (by decide +kernel) (by decide +kernel)⟩
theorem fl_X5_69 : FL RX5 69 7 3 := ⟨RX7, TX7, 12, rfl, by decide, mt (i := 278) (by decide +kernel) (by decide +kernel)⟩
theorem fl_X6_15 : FL RX6 15 6 6 := ⟨RX6, TX6, 7, rfl, by decide, mt (i := 362) (by decide +kernel) (by decide +kernel)⟩
theorem fl_X6_22 : FL RX6 22 6 0 := ⟨RX6, TX6, 7, rfl, by decide, mt (i := 347) (by decide +kernel) (by decide +kernel)⟩
theorem fl_X6_26 : FL RX6 26 2 2 := ⟨RX2, TX2, 5, rfl, by decide, mt (i := 162) (by decide +kernel) (by decide +kernel)⟩
theorem fl_X6_35 : FL RX6 35 6 2 := ⟨RX6, TX6, 7, rfl, by decide, mt (i := 353) (by decide +kernel) (by decide +kernel)⟩
theorem fl_X6_37 : FL RX6 37 2 1 := ⟨RX2, TX2, 5, rfl, by decide, mt (i := 160) (by decide +kernel) (by decide +kernel)⟩
theorem fl_X6_40 : FL RX6 40 4 7 := ⟨RX4, TX4, 8, rfl, by decide, mt (i := 131) (by decide +kernel) (by decide +kernel)⟩
theorem fl_X6_53 : FL RX6 53 6 3 := ⟨RX6, TX6, 7, rfl, by decide, mt (i := 355) (by decide +kernel) (by decide +kernel)⟩
theorem fl_X6_56 : FL RX6 56 4 1 := ⟨RX4, TX4, 8, rfl, by decide, mt (i := 115) (by decide +kernel) (by decide +kernel)⟩
theorem fl_X6_62 : FL RX6 62 6 1 := ⟨RX6, TX6, 7, rfl, by decide, mt (i := 351) (by decide +kernel) (by decide +kernel)⟩
theorem fl_X6_64 : FL RX6 64 4 6 := ⟨RX4, TX4, 8, rfl, by decide, mt (i := 128) (by decide +kernel) (by decide +kernel)⟩
theorem fl_X6_71 : FL RX6 71 4 2 := ⟨RX4, TX4, 8, rfl, by decide, mt (i := 118) (by decide +kernel) (by decide +kernel)⟩
theorem fl_X6_74 : FL RX6 74 6 4 := ⟨RX6, TX6, 7, rfl, by decide, mt (i := 358) (by decide +kernel) (by decide +kernel)⟩
theorem fl_X6_9 : FL RX6 9 6 5 := ⟨RX6, TX6, 7, rfl, by decide, mt (i := 360) (by decide +kernel) (by decide +kernel)⟩
theorem fl_X7_11 : FL RX7 11 7 4 := ⟨RX7, TX7, 12, rfl, by decide, mt (i := 280) (by decide +kernel) (by decide +kernel)⟩
theorem fl_X7_15 : FL RX7 15 7 5 := ⟨RX7, TX7, 12, rfl, by decide, mt (i := 281) (by decide +kernel) (by decide +kernel)⟩
theorem fl_X7_18 : FL RX7 18 7 6 := ⟨RX7, TX7, 12, rfl, by decide, mt (i := 282) (by decide +kernel) (by decide +kernel)⟩
theorem fl_X7_21 : FL RX7 21 7 7 := ⟨RX7, TX7, 12, rfl, by decide, mt (i := 283) (by decide +kernel) (by decide +kernel)⟩
theorem fl_X7_24 : FL RX7 24 7 8 := ⟨RX7, TX7, 12, rfl, by decide, mt (i := 284) (by decide +kernel) (by decide +kernel)⟩
theorem fl_X7_27 : FL RX7 27 7 11 := ⟨RX7, TX7, 12, rfl, by decide, mt (i := 287) (by decide +kernel) (by decide +kernel)⟩
theorem fl_X7_37 : FL RX7 37 7 10 := ⟨RX7, TX7, 12, rfl, by decide, mt (i := 286) (by decide +kernel) (by decide +kernel)⟩
theorem fl_X7_46 : FL RX7 46 7 9 := ⟨RX7, TX7, 12, rfl, by decide, mt (i := 285) (by decide +kernel) (by decide +kernel)⟩
theorem fl_X7_68 : FL RX7 68 7 0 := ⟨RX7, TX7, 12, rfl, by decide, mt (i := 273) (by decide +kernel) (by decide +kernel)⟩
theorem fl_X7_71 : FL RX7 71 7 1 := ⟨RX7, TX7, 12, rfl, by decide, mt (i := 275) (by decide +kernel) (by decide +kernel)⟩
theorem fl_X7_74 : FL RX7 74 7 2 := ⟨RX7, TX7, 12, rfl, by decide, mt (i := 277) (by decide +kernel) (by decide +kernel)⟩
theorem fl_X7_77 : FL RX7 77 7 3 := ⟨RX7, TX7, 12, rfl, by decide, mt (i := 279) (by decide +kernel) (by decide +kernel)⟩
theorem fl_X8_15 : FL RX8 15 8 2 := ⟨RX8, TX8, 5, rfl, by decide, mt (i := 89) (by decide +kernel) (by decide +kernel)⟩
theorem fl_X8_19 : FL RX8 19 8 0 := ⟨RX8, TX8, 5, rfl, by decide, mt (i := 87) (by decide +kernel) (by decide +kernel)⟩
theorem fl_X8_28 : FL RX8 28 8 3 := ⟨RX8, TX8, 5, rfl, by decide, mt (i := 90) (by decide +kernel) (by decide +kernel)⟩
theorem fl_X8_31 : FL RX8 31 8 4 := ⟨RX8, TX8, 5, rfl, by decide, mt (i := 91) (by decide +kernel) (by decide +kernel)⟩
theorem fl_X8_9 : FL RX8 9 8 1 := ⟨RX8, TX8, 5, rfl, by decide, mt (i := 88) (by decide +kernel) (by decide +kernel)⟩
theorem fl_X9_15 : FL RX9 15 9 1 := ⟨RX9, TX9, 3, rfl, by decide, mt (i := 251) (by decide +kernel) (by decide +kernel)⟩
theorem fl_X9_18 : FL RX9 18 9 2 := ⟨RX9, TX9, 3, rfl, by decide, mt (i := 252) (by decide +kernel) (by decide +kernel)⟩
theorem fl_X9_9 : FL RX9 9 9 0 := ⟨RX9, TX9, 3, rfl, by decide, mt (i := 250) (by decide +kernel) (by decide +kernel)⟩
theorem ft_0_0 : FT 0 0 .int false := ⟨RX0, TX0, 6, rfl, tX0_ok 0 (by decide), rfl⟩
theorem ft_0_1 : FT 0 1 .int false := ⟨RX0, TX0, 6, rfl, tX0_ok 1 (by decide), rfl⟩
theorem ft_10_0 : FT 10 0 .int false := ⟨RX10, TX10, 3, rfl, tX10_ok 0 (by decide), rfl⟩
theorem ft_11_1 : FT 11 1 (.object "TakenNumbers$Port") false := ⟨RX11, TX11, 12, rfl, tX11_ok 1 (by decide), rfl⟩
theorem ft_11_2 : FT 11 2 (.object "TakenNumbers$Port") false := ⟨RX11, TX11, 12, rfl, tX11_ok 2 (by decide), rfl⟩
theorem ft_12_0 : FT 12 0 .int false := ⟨RX12, TX12, 30, rfl, tX12_ok 0 (by decide), rfl⟩
theorem ft_12_10 : FT 12 10 .int false := ⟨RX12, TX12, 30, rfl, tX12_ok 10 (by decide), rfl⟩
theorem ft_12_12 : FT 12 12 .int false := ⟨RX12, TX12, 30, rfl, tX12_ok 12 (by decide), rfl⟩
theorem ft_12_14 : FT 12 14 .int false := ⟨RX12, TX12, 30, rfl, tX12_ok 14 (by decide), rfl⟩
theorem ft_12_16 : FT 12 16 .int false := ⟨RX12, TX12, 30, rfl, tX12_ok 16 (by decide), rfl⟩
theorem ft_12_17 : FT 12 17 .int false := ⟨RX12, TX12, 30, rfl, tX12_ok 17 (by decide), rfl⟩
theorem ft_12_18 : FT 12 18 .int false := ⟨RX12, TX12, 30, rfl, tX12_ok 18 (by decide), rfl⟩
theorem ft_12_23 : FT 12 23 .int false := ⟨RX12, TX12, 30, rfl, tX12_ok 23 (by decide), rfl⟩
theorem ft_12_27 : FT 12 27 .int false := ⟨RX12, TX12, 30, rfl, tX12_ok 27 (by decide), rfl⟩
theorem ft_12_5 : FT 12 5 .int false := ⟨RX12, TX12, 30, rfl, tX12_ok 5 (by decide), rfl⟩
theorem ft_12_7 : FT 12 7 .int false := ⟨RX12, TX12, 30, rfl, tX12_ok 7 (by decide), rfl⟩
theorem ft_12_9 : FT 12 9 .int false := ⟨RX12, TX12, 30, rfl, tX12_ok 9 (by decide), rfl⟩
theorem ft_1_0 : FT 1 0 .int false := ⟨RX1, TX1, 10, rfl, tX1_ok 0 (by decide), rfl⟩
theorem ft_1_1 : FT 1 1 .int false := ⟨RX1, TX1, 10, rfl, tX1_ok 1 (by decide), rfl⟩
theorem ft_1_2 : FT 1 2 .int false := ⟨RX1, TX1, 10, rfl, tX1_ok 2 (by decide), rfl⟩
theorem ft_1_3 : FT 1 3 .int false := ⟨RX1, TX1, 10, rfl, tX1_ok 3 (by decide), rfl⟩
theorem ft_1_4 : FT 1 4 .int false := ⟨RX1, TX1, 10, rfl, tX1_ok 4 (by decide), rfl⟩
theorem ft_2_2 : FT 2 2 .int false := ⟨RX2, TX2, 5, rfl, tX2_ok 2 (by decide), rfl⟩
theorem ft_2_3 : FT 2 3 .int false := ⟨RX2, TX2, 5, rfl, tX2_ok 3 (by decide), rfl⟩
theorem ft_2_4 : FT 2 4 .boolean false := ⟨RX2, TX2, 5, rfl, tX2_ok 4 (by decide), rfl⟩
theorem ft_3_0 : FT 3 0 .int false := ⟨RX3, TX3, 2, rfl, tX3_ok 0 (by decide), rfl⟩
theorem ft_4_0 : FT 4 0 .int false := ⟨RX4, TX4, 8, rfl, tX4_ok 0 (by decide), rfl⟩
theorem ft_4_1 : FT 4 1 .int false := ⟨RX4, TX4, 8, rfl, tX4_ok 1 (by decide), rfl⟩
theorem ft_4_2 : FT 4 2 .int false := ⟨RX4, TX4, 8, rfl, tX4_ok 2 (by decide), rfl⟩
theorem ft_4_3 : FT 4 3 .int false := ⟨RX4, TX4, 8, rfl, tX4_ok 3 (by decide), rfl⟩
theorem ft_4_4 : FT 4 4 .int false := ⟨RX4, TX4, 8, rfl, tX4_ok 4 (by decide), rfl⟩
theorem ft_5_8 : FT 5 8 .int false := ⟨RX5, TX5, 9, rfl, tX5_ok 8 (by decide), rfl⟩
theorem ft_6_0 : FT 6 0 .int false := ⟨RX6, TX6, 7, rfl, tX6_ok 0 (by decide), rfl⟩
theorem ft_6_1 : FT 6 1 .int false := ⟨RX6, TX6, 7, rfl, tX6_ok 1 (by decide), rfl⟩
theorem ft_6_2 : FT 6 2 .int false := ⟨RX6, TX6, 7, rfl, tX6_ok 2 (by decide), rfl⟩
theorem ft_6_3 : FT 6 3 .int false := ⟨RX6, TX6, 7, rfl, tX6_ok 3 (by decide), rfl⟩
theorem ft_6_4 : FT 6 4 .int false := ⟨RX6, TX6, 7, rfl, tX6_ok 4 (by decide), rfl⟩
theorem ft_7_0 : FT 7 0 .int false := ⟨RX7, TX7, 12, rfl, tX7_ok 0 (by decide), rfl⟩
theorem ft_7_1 : FT 7 1 .int false := ⟨RX7, TX7, 12, rfl, tX7_ok 1 (by decide), rfl⟩
theorem ft_7_10 : FT 7 10 .int false := ⟨RX7, TX7, 12, rfl, tX7_ok 10 (by decide), rfl⟩
theorem ft_7_11 : FT 7 11 .int false := ⟨RX7, TX7, 12, rfl, tX7_ok 11 (by decide), rfl⟩
theorem ft_7_2 : FT 7 2 .int false := ⟨RX7, TX7, 12, rfl, tX7_ok 2 (by decide), rfl⟩
theorem ft_7_3 : FT 7 3 .int false := ⟨RX7, TX7, 12, rfl, tX7_ok 3 (by decide), rfl⟩
theorem ft_7_9 : FT 7 9 .int false := ⟨RX7, TX7, 12, rfl, tX7_ok 9 (by decide), rfl⟩
theorem ft_8_0 : FT 8 0 .int false := ⟨RX8, TX8, 5, rfl, tX8_ok 0 (by decide), rfl⟩
theorem ft_8_3 : FT 8 3 .int false := ⟨RX8, TX8, 5, rfl, tX8_ok 3 (by decide), rfl⟩
theorem ft_8_4 : FT 8 4 .boolean false := ⟨RX8, TX8, 5, rfl, tX8_ok 4 (by decide), rfl⟩
theorem ft_9_0 : FT 9 0 (.array .int) false := ⟨RX9, TX9, 3, rfl, tX9_ok 0 (by decide), rfl⟩
theorem ft_9_1 : FT 9 1 (.array .int) false := ⟨RX9, TX9, 3, rfl, tX9_ok 1 (by decide), rfl⟩
theorem ft_9_2 : FT 9 2 .int false := ⟨RX9, TX9, 3, rfl, tX9_ok 2 (by decide), rfl⟩
theorem lc_J6_bitCount_0f7a4 : LC yJ6_bitCount_0f7a4 bJ6_bitCount_0f7a4 1 (some .int) 1 := ⟨mt (i := 776) (by first | rfl | decide +kernel) (by decide +kernel), mt (i := 71) (by decide +kernel) (by decide +kernel), ⟨by decide +kernel, by decide +kernel, by decide +kernel⟩, by decide⟩
theorem lc_X0_append : LC yX0_append bX0_append 2 (some .boolean) 1 := ⟨mt (i := 919) (by first | rfl | decide +kernel) (by decide +kernel), mt (i := 59) (by decide +kernel) (by decide +kernel), ⟨by decide +kernel, by decide +kernel, by decide +kernel⟩, by decide⟩
theorem lc_X0_inTwoRows : LC yX0_inTwoRows bX0_inTwoRows 4 (some .int) 0 := ⟨mt (i := 954) (by first | rfl | decide +kernel) (by decide +kernel), mt (i := 59) (by decide +kernel) (by decide +kernel), ⟨by decide +kernel, by decide +kernel, by decide +kernel⟩, by decide⟩
theorem lc_X0_read : LC yX0_read bX0_read 5 none 2 := ⟨mt (i := 931) (by first | rfl | decide +kernel) (by decide +kernel), mt (i := 59) (by decide +kernel) (by decide +kernel), ⟨by decide +kernel, by decide +kernel, by decide +kernel⟩, by decide⟩
theorem lc_X0_readFrom : LC yX0_readFrom bX0_readFrom 4 none 2 := ⟨mt (i := 937) (by first | rfl | decide +kernel) (by decide +kernel), mt (i := 59) (by decide +kernel) (by decide +kernel), ⟨by decide +kernel, by decide +kernel, by decide +kernel⟩, by decide⟩
theorem lc_X0_surePerson : LC yX0_surePerson bX0_surePerson 2 (some .int) 1 := ⟨mt (i := 942) (by first | rfl | decide +kernel) (by decide +kernel), mt (i := 59) (by decide +kernel) (by decide +kernel), ⟨by decide +kernel, by decide +kernel, by decide +kernel⟩, by decide⟩
theorem lc_X10_append : LC yX10_append bX10_append 3 (some .boolean) 2 := ⟨mt (i := 659) (by first | rfl | decide +kernel) (by decide +kernel), mt (i := 58) (by decide +kernel) (by decide +kernel), ⟨by decide +kernel, by decide +kernel, by decide +kernel⟩, by decide⟩
theorem lc_X10_areSaying : LC yX10_areSaying bX10_areSaying 3 (some .boolean) 1 := ⟨mt (i := 683) (by first | rfl | decide +kernel) (by decide +kernel), mt (i := 58) (by decide +kernel) (by decide +kernel), ⟨by decide +kernel, by decide +kernel, by decide +kernel⟩, by decide⟩
theorem lc_X10_price : LC yX10_price bX10_price 4 (some .int) 1 := ⟨mt (i := 678) (by first | rfl | decide +kernel) (by decide +kernel), mt (i := 58) (by decide +kernel) (by decide +kernel), ⟨by decide +kernel, by decide +kernel, by decide +kernel⟩, by decide⟩
theorem lc_X10_set : LC yX10_set bX10_set 3 (some .int) 0 := ⟨mt (i := 652) (by first | rfl | decide +kernel) (by decide +kernel), mt (i := 58) (by decide +kernel) (by decide +kernel), ⟨by decide +kernel, by decide +kernel, by decide +kernel⟩, by decide⟩
theorem lc_X10_sum : LC yX10_sum bX10_sum 3 (some .int) 0 := ⟨mt (i := 671) (by first | rfl | decide +kernel) (by decide +kernel), mt (i := 58) (by decide +kernel) (by decide +kernel), ⟨by decide +kernel, by decide +kernel, by decide +kernel⟩, by decide⟩
theorem lc_X11_canStand : LC yX11_canStand bX11_canStand 2 (some .boolean) 2 := ⟨mt (i := 655) (by first | rfl | decide +kernel) (by decide +kernel), mt (i := 52) (by decide +kernel) (by decide +kernel), ⟨by decide +kernel, by decide +kernel, by decide +kernel⟩, by decide⟩
theorem lc_X11_countsAs : LC yX11_countsAs bX11_countsAs 2 (some .int) 2 := ⟨mt (i := 674) (by first | rfl | decide +kernel) (by decide +kernel), mt (i := 52) (by decide +kernel) (by decide +kernel), ⟨by decide +kernel, by decide +kernel, by decide +kernel⟩, by decide⟩
theorem lc_X11_firstBit : LC yX11_firstBit bX11_firstBit 2 (some .int) 1 := ⟨mt (i := 946) (by first | rfl | decide +kernel) (by decide +kernel), mt (i := 52) (by decide +kernel) (by decide +kernel), ⟨by decide +kernel, by decide +kernel, by decide +kernel⟩, by decide⟩
theorem lc_X11_hasBit : LC yX11_hasBit bX11_hasBit 2 (some .boolean) 2 := ⟨mt (i := 606) (by first | rfl | decide +kernel) (by decide +kernel), mt (i := 52) (by decide +kernel) (by decide +kernel), ⟨by decide +kernel, by decide +kernel, by decide +kernel⟩, by decide⟩
theorem lc_X11_holderOf : LC yX11_holderOf bX11_holderOf 3 (some .int) 2 := ⟨mt (i := 603) (by first | rfl | decide +kernel) (by decide +kernel), mt (i := 52) (by decide +kernel) (by decide +kernel), ⟨by decide +kernel, by decide +kernel, by decide +kernel⟩, by decide⟩
theorem lc_X11_lastUse : LC yX11_lastUse bX11_lastUse 1 (some .int) 1 := ⟨mt (i := 686) (by first | rfl | decide +kernel) (by decide +kernel), mt (i := 52) (by decide +kernel) (by decide +kernel), ⟨by decide +kernel, by decide +kernel, by decide +kernel⟩, by decide⟩
theorem lc_X11_sceneNow : LC yX11_sceneNow bX11_sceneNow 1 (some (.object "TakenNumbers$Scene")) 0 := ⟨mt (i := 615) (by first | rfl | decide +kernel) (by decide +kernel), mt (i := 52) (by decide +kernel) (by decide +kernel), ⟨by decide +kernel, by decide +kernel, by decide +kernel⟩, by decide⟩
theorem lc_X11_together : LC yX11_together bX11_together 6 (some .int) 1 := ⟨mt (i := 630) (by first | rfl | decide +kernel) (by decide +kernel), mt (i := 52) (by decide +kernel) (by decide +kernel), ⟨by decide +kernel, by decide +kernel, by decide +kernel⟩, by decide⟩
theorem lc_X11_usedNow : LC yX11_usedNow bX11_usedNow 3 (some .int) 2 := ⟨mt (i := 717) (by first | rfl | decide +kernel) (by decide +kernel), mt (i := 52) (by decide +kernel) (by decide +kernel), ⟨by decide +kernel, by decide +kernel, by decide +kernel⟩, by decide⟩
theorem lc_X12_areNumbers : LC yX12_areNumbers bX12_areNumbers 5 (some .boolean) 1 := ⟨mt (i := 1122) (by first | rfl | decide +kernel) (by decide +kernel), mt (i := 69) (by decide +kernel) (by decide +kernel), ⟨by decide +kernel, by decide +kernel, by decide +kernel⟩, by decide⟩
theorem lc_X12_begin : LC yX12_begin bX12_begin 2 none 0 := ⟨mt (i := 998) (by first | rfl | decide +kernel) (by decide +kernel), mt (i := 69) (by decide +kernel) (by decide +kernel), ⟨by decide +kernel, by decide +kernel, by decide +kernel⟩, by decide⟩
theorem lc_X12_bestOf : LC yX12_bestOf bX12_bestOf 9 (some .int) 3 := ⟨mt (i := 1221) (by first | rfl | decide +kernel) (by decide +kernel), mt (i := 69) (by decide +kernel) (by decide +kernel), ⟨by decide +kernel, by decide +kernel, by decide +kernel⟩, by decide⟩
theorem lc_X12_bits : LC yX12_bits bX12_bits 3 (some .int) 1 := ⟨mt (i := 1255) (by first | rfl | decide +kernel) (by decide +kernel), mt (i := 69) (by decide +kernel) (by decide +kernel), ⟨by decide +kernel, by decide +kernel, by decide +kernel⟩, by decide⟩
theorem lc_X12_by : LC yX12_by bX12_by 7 (some .int) 4 := ⟨mt (i := 1236) (by first | rfl | decide +kernel) (by decide +kernel), mt (i := 69) (by decide +kernel) (by decide +kernel), ⟨by decide +kernel, by decide +kernel, by decide +kernel⟩, by decide⟩
theorem lc_X12_counts : LC yX12_counts bX12_counts 2 (some .int) 2 := ⟨mt (i := 1186) (by first | rfl | decide +kernel) (by decide +kernel), mt (i := 69) (by decide +kernel) (by decide +kernel), ⟨by decide +kernel, by decide +kernel, by decide +kernel⟩, by decide⟩
theorem lc_X12_dawn : LC yX12_dawn bX12_dawn 3 none 1 := ⟨mt (i := 1002) (by first | rfl | decide +kernel) (by decide +kernel), mt (i := 69) (by decide +kernel) (by decide +kernel), ⟨by decide +kernel, by decide +kernel, by decide +kernel⟩, by decide⟩
theorem lc_X12_has : LC yX12_has bX12_has 2 (some .boolean) 2 := ⟨mt (i := 1205) (by first | rfl | decide +kernel) (by decide +kernel), mt (i := 69) (by decide +kernel) (by decide +kernel), ⟨by decide +kernel, by decide +kernel, by decide +kernel⟩, by decide⟩
theorem lc_X12_hasBest : LC yX12_hasBest bX12_hasBest 4 (some .boolean) 3 := ⟨mt (i := 1281) (by first | rfl | decide +kernel) (by decide +kernel), mt (i := 69) (by decide +kernel) (by decide +kernel), ⟨by decide +kernel, by decide +kernel, by decide +kernel⟩, by decide⟩
theorem lc_X12_in : LC yX12_in bX12_in 6 (some .boolean) 3 := ⟨mt (i := 1102) (by first | rfl | decide +kernel) (by decide +kernel), mt (i := 69) (by decide +kernel) (by decide +kernel), ⟨by decide +kernel, by decide +kernel, by decide +kernel⟩, by decide⟩
theorem lc_X12_isAhead : LC yX12_isAhead bX12_isAhead 5 (some .boolean) 2 := ⟨mt (i := 1299) (by first | rfl | decide +kernel) (by decide +kernel), mt (i := 69) (by decide +kernel) (by decide +kernel), ⟨by decide +kernel, by decide +kernel, by decide +kernel⟩, by decide⟩
theorem lc_X12_isFigure : LC yX12_isFigure bX12_isFigure 1 (some .boolean) 0 := ⟨mt (i := 1126) (by first | rfl | decide +kernel) (by decide +kernel), mt (i := 69) (by decide +kernel) (by decide +kernel), ⟨by decide +kernel, by decide +kernel, by decide +kernel⟩, by decide⟩
theorem lc_X12_isSaying : LC yX12_isSaying bX12_isSaying 5 (some .boolean) 0 := ⟨mt (i := 1198) (by first | rfl | decide +kernel) (by decide +kernel), mt (i := 69) (by decide +kernel) (by decide +kernel), ⟨by decide +kernel, by decide +kernel, by decide +kernel⟩, by decide⟩
theorem lc_X12_keepDay : LC yX12_keepDay bX12_keepDay 2 none 0 := ⟨mt (i := 1209) (by first | rfl | decide +kernel) (by decide +kernel), mt (i := 69) (by decide +kernel) (by decide +kernel), ⟨by decide +kernel, by decide +kernel, by decide +kernel⟩, by decide⟩
theorem lc_X12_laid : LC yX12_laid bX12_laid 3 (some .int) 2 := ⟨mt (i := 1230) (by first | rfl | decide +kernel) (by decide +kernel), mt (i := 69) (by decide +kernel) (by decide +kernel), ⟨by decide +kernel, by decide +kernel, by decide +kernel⟩, by decide⟩
theorem lc_X12_layOrder : LC yX12_layOrder bX12_layOrder 6 none 0 := ⟨mt (i := 1295) (by first | rfl | decide +kernel) (by decide +kernel), mt (i := 69) (by decide +kernel) (by decide +kernel), ⟨by decide +kernel, by decide +kernel, by decide +kernel⟩, by decide⟩
theorem lc_X12_layTable : LC yX12_layTable bX12_layTable 9 none 2 := ⟨mt (i := 1225) (by first | rfl | decide +kernel) (by decide +kernel), mt (i := 69) (by decide +kernel) (by decide +kernel), ⟨by decide +kernel, by decide +kernel, by decide +kernel⟩, by decide⟩
theorem lc_X12_mayOf : LC yX12_mayOf bX12_mayOf 2 (some .int) 1 := ⟨mt (i := 1154) (by first | rfl | decide +kernel) (by decide +kernel), mt (i := 69) (by decide +kernel) (by decide +kernel), ⟨by decide +kernel, by decide +kernel, by decide +kernel⟩, by decide⟩
theorem lc_X12_noNumber : LC yX12_noNumber bX12_noNumber 2 (some .boolean) 1 := ⟨mt (i := 1142) (by first | rfl | decide +kernel) (by decide +kernel), mt (i := 69) (by decide +kernel) (by decide +kernel), ⟨by decide +kernel, by decide +kernel, by decide +kernel⟩, by decide⟩
theorem lc_X12_noOne : LC yX12_noOne bX12_noOne 2 (some .boolean) 1 := ⟨mt (i := 1150) (by first | rfl | decide +kernel) (by decide +kernel), mt (i := 69) (by decide +kernel) (by decide +kernel), ⟨by decide +kernel, by decide +kernel, by decide +kernel⟩, by decide⟩
theorem lc_X12_noSet : LC yX12_noSet bX12_noSet 2 (some .boolean) 1 := ⟨mt (i := 1323) (by first | rfl | decide +kernel) (by decide +kernel), mt (i := 69) (by decide +kernel) (by decide +kernel), ⟨by decide +kernel, by decide +kernel, by decide +kernel⟩, by decide⟩
theorem lc_X12_ofOne : LC yX12_ofOne bX12_ofOne 5 (some .int) 1 := ⟨mt (i := 1158) (by first | rfl | decide +kernel) (by decide +kernel), mt (i := 69) (by decide +kernel) (by decide +kernel), ⟨by decide +kernel, by decide +kernel, by decide +kernel⟩, by decide⟩
theorem lc_X12_priceOf : LC yX12_priceOf bX12_priceOf 3 (some .int) 2 := ⟨mt (i := 1194) (by first | rfl | decide +kernel) (by decide +kernel), mt (i := 69) (by decide +kernel) (by decide +kernel), ⟨by decide +kernel, by decide +kernel, by decide +kernel⟩, by decide⟩
theorem lc_X12_priceOfWords : LC yX12_priceOfWords bX12_priceOfWords 3 (some .int) 0 := ⟨mt (i := 1190) (by first | rfl | decide +kernel) (by decide +kernel), mt (i := 69) (by decide +kernel) (by decide +kernel), ⟨by decide +kernel, by decide +kernel, by decide +kernel⟩, by decide⟩
theorem lc_X12_readAll : LC yX12_readAll bX12_readAll 4 (some .int) 0 := ⟨mt (i := 1114) (by first | rfl | decide +kernel) (by decide +kernel), mt (i := 69) (by decide +kernel) (by decide +kernel), ⟨by decide +kernel, by decide +kernel, by decide +kernel⟩, by decide⟩
theorem lc_X12_readItem : LC yX12_readItem bX12_readItem 4 (some .boolean) 2 := ⟨mt (i := 1118) (by first | rfl | decide +kernel) (by decide +kernel), mt (i := 69) (by decide +kernel) (by decide +kernel), ⟨by decide +kernel, by decide +kernel, by decide +kernel⟩, by decide⟩
theorem lc_X12_readingsBy : LC yX12_readingsBy bX12_readingsBy 8 (some .int) 2 := ⟨mt (i := 1348) (by first | rfl | decide +kernel) (by decide +kernel), mt (i := 69) (by decide +kernel) (by decide +kernel), ⟨by decide +kernel, by decide +kernel, by decide +kernel⟩, by decide⟩
theorem lc_X12_silent : LC yX12_silent bX12_silent 1 (some .int) 0 := ⟨mt (i := 1273) (by first | rfl | decide +kernel) (by decide +kernel), mt (i := 69) (by decide +kernel) (by decide +kernel), ⟨by decide +kernel, by decide +kernel, by decide +kernel⟩, by decide⟩
theorem lc_X12_stuckOf : LC yX12_stuckOf bX12_stuckOf 8 (some .int) 3 := ⟨mt (i := 1277) (by first | rfl | decide +kernel) (by decide +kernel), mt (i := 69) (by decide +kernel) (by decide +kernel), ⟨by decide +kernel, by decide +kernel, by decide +kernel⟩, by decide⟩
theorem lc_X12_sumOfWords : LC yX12_sumOfWords bX12_sumOfWords 3 (some .int) 0 := ⟨mt (i := 1183) (by first | rfl | decide +kernel) (by decide +kernel), mt (i := 69) (by decide +kernel) (by decide +kernel), ⟨by decide +kernel, by decide +kernel, by decide +kernel⟩, by decide⟩
theorem lc_X12_take : LC yX12_take bX12_take 4 none 2 := ⟨mt (i := 1213) (by first | rfl | decide +kernel) (by decide +kernel), mt (i := 69) (by decide +kernel) (by decide +kernel), ⟨by decide +kernel, by decide +kernel, by decide +kernel⟩, by decide⟩
theorem lc_X12_taken : LC yX12_taken bX12_taken 3 (some .int) 0 := ⟨mt (i := 1162) (by first | rfl | decide +kernel) (by decide +kernel), mt (i := 69) (by decide +kernel) (by decide +kernel), ⟨by decide +kernel, by decide +kernel, by decide +kernel⟩, by decide⟩
theorem lc_X12_usedSet : LC yX12_usedSet bX12_usedSet 1 (some .int) 0 := ⟨mt (i := 1240) (by first | rfl | decide +kernel) (by decide +kernel), mt (i := 69) (by decide +kernel) (by decide +kernel), ⟨by decide +kernel, by decide +kernel, by decide +kernel⟩, by decide⟩
theorem lc_X12_waysOf : LC yX12_waysOf bX12_waysOf 7 (some .int) 3 := ⟨mt (i := 1327) (by first | rfl | decide +kernel) (by decide +kernel), mt (i := 69) (by decide +kernel) (by decide +kernel), ⟨by decide +kernel, by decide +kernel, by decide +kernel⟩, by decide⟩
theorem lc_X1_ableAt : LC yX1_ableAt bX1_ableAt 8 (some .int) 4 := ⟨mt (i := 846) (by first | rfl | decide +kernel) (by decide +kernel), mt (i := 64) (by decide +kernel) (by decide +kernel), ⟨by decide +kernel, by decide +kernel, by decide +kernel⟩, by decide⟩
theorem lc_X1_cornerBy : LC yX1_cornerBy bX1_cornerBy 6 (some .boolean) 2 := ⟨mt (i := 963) (by first | rfl | decide +kernel) (by decide +kernel), mt (i := 64) (by decide +kernel) (by decide +kernel), ⟨by decide +kernel, by decide +kernel, by decide +kernel⟩, by decide⟩
theorem lc_X1_denyOne : LC yX1_denyOne bX1_denyOne 5 (some .boolean) 1 := ⟨mt (i := 859) (by first | rfl | decide +kernel) (by decide +kernel), mt (i := 64) (by decide +kernel) (by decide +kernel), ⟨by decide +kernel, by decide +kernel, by decide +kernel⟩, by decide⟩
theorem lc_X1_denyTwo : LC yX1_denyTwo bX1_denyTwo 6 (some .boolean) 1 := ⟨mt (i := 868) (by first | rfl | decide +kernel) (by decide +kernel), mt (i := 64) (by decide +kernel) (by decide +kernel), ⟨by decide +kernel, by decide +kernel, by decide +kernel⟩, by decide⟩
theorem lc_X1_findOrder : LC yX1_findOrder bX1_findOrder 2 none 1 := ⟨mt (i := 838) (by first | rfl | decide +kernel) (by decide +kernel), mt (i := 64) (by decide +kernel) (by decide +kernel), ⟨by decide +kernel, by decide +kernel, by decide +kernel⟩, by decide⟩
theorem lc_X1_getsWorse : LC yX1_getsWorse bX1_getsWorse 4 (some .boolean) 2 := ⟨mt (i := 863) (by first | rfl | decide +kernel) (by decide +kernel), mt (i := 64) (by decide +kernel) (by decide +kernel), ⟨by decide +kernel, by decide +kernel, by decide +kernel⟩, by decide⟩
theorem lc_X1_record : LC yX1_record bX1_record 6 none 3 := ⟨mt (i := 851) (by first | rfl | decide +kernel) (by decide +kernel), mt (i := 64) (by decide +kernel) (by decide +kernel), ⟨by decide +kernel, by decide +kernel, by decide +kernel⟩, by decide⟩
theorem lc_X1_search : LC yX1_search bX1_search 9 none 5 := ⟨mt (i := 842) (by first | rfl | decide +kernel) (by decide +kernel), mt (i := 64) (by decide +kernel) (by decide +kernel), ⟨by decide +kernel, by decide +kernel, by decide +kernel⟩, by decide⟩
theorem lc_X1_stuckIn : LC yX1_stuckIn bX1_stuckIn 6 (some .int) 1 := ⟨mt (i := 823) (by first | rfl | decide +kernel) (by decide +kernel), mt (i := 64) (by decide +kernel) (by decide +kernel), ⟨by decide +kernel, by decide +kernel, by decide +kernel⟩, by decide⟩
theorem lc_X2_begin : LC yX2_begin bX2_begin 3 none 1 := ⟨mt (i := 595) (by first | rfl | decide +kernel) (by decide +kernel), mt (i := 55) (by decide +kernel) (by decide +kernel), ⟨by decide +kernel, by decide +kernel, by decide +kernel⟩, by decide⟩
theorem lc_X2_copy : LC yX2_copy bX2_copy 2 none 1 := ⟨mt (i := 702) (by first | rfl | decide +kernel) (by decide +kernel), mt (i := 55) (by decide +kernel) (by decide +kernel), ⟨by decide +kernel, by decide +kernel, by decide +kernel⟩, by decide⟩
theorem lc_X2_lent : LC yX2_lent bX2_lent 1 (some .int) 0 := ⟨mt (i := 787) (by first | rfl | decide +kernel) (by decide +kernel), mt (i := 55) (by decide +kernel) (by decide +kernel), ⟨by decide +kernel, by decide +kernel, by decide +kernel⟩, by decide⟩
theorem lc_X2_take : LC yX2_take bX2_take 3 none 2 := ⟨mt (i := 709) (by first | rfl | decide +kernel) (by decide +kernel), mt (i := 55) (by decide +kernel) (by decide +kernel), ⟨by decide +kernel, by decide +kernel, by decide +kernel⟩, by decide⟩
theorem lc_X2_taken : LC yX2_taken bX2_taken 1 (some .int) 0 := ⟨mt (i := 634) (by first | rfl | decide +kernel) (by decide +kernel), mt (i := 55) (by decide +kernel) (by decide +kernel), ⟨by decide +kernel, by decide +kernel, by decide +kernel⟩, by decide⟩
theorem lc_X3_dropOldest : LC yX3_dropOldest bX3_dropOldest 3 none 0 := ⟨mt (i := 698) (by first | rfl | decide +kernel) (by decide +kernel), mt (i := 56) (by decide +kernel) (by decide +kernel), ⟨by decide +kernel, by decide +kernel, by decide +kernel⟩, by decide⟩
theorem lc_X3_pop : LC yX3_pop bX3_pop 2 (some .boolean) 1 := ⟨mt (i := 803) (by first | rfl | decide +kernel) (by decide +kernel), mt (i := 56) (by decide +kernel) (by decide +kernel), ⟨by decide +kernel, by decide +kernel, by decide +kernel⟩, by decide⟩
theorem lc_X3_push : LC yX3_push bX3_push 2 none 1 := ⟨mt (i := 694) (by first | rfl | decide +kernel) (by decide +kernel), mt (i := 56) (by decide +kernel) (by decide +kernel), ⟨by decide +kernel, by decide +kernel, by decide +kernel⟩, by decide⟩
theorem lc_X4_addPerson : LC yX4_addPerson bX4_addPerson 2 (some .boolean) 1 := ⟨mt (i := 508) (by first | rfl | decide +kernel) (by decide +kernel), mt (i := 54) (by decide +kernel) (by decide +kernel), ⟨by decide +kernel, by decide +kernel, by decide +kernel⟩, by decide⟩
theorem lc_X4_all : LC yX4_all bX4_all 1 (some .int) 0 := ⟨mt (i := 627) (by first | rfl | decide +kernel) (by decide +kernel), mt (i := 54) (by decide +kernel) (by decide +kernel), ⟨by decide +kernel, by decide +kernel, by decide +kernel⟩, by decide⟩
theorem lc_X4_clear : LC yX4_clear bX4_clear 2 none 0 := ⟨mt (i := 481) (by first | rfl | decide +kernel) (by decide +kernel), mt (i := 54) (by decide +kernel) (by decide +kernel), ⟨by decide +kernel, by decide +kernel, by decide +kernel⟩, by decide⟩
theorem lc_X4_isNumber : LC yX4_isNumber bX4_isNumber 2 (some .boolean) 1 := ⟨mt (i := 516) (by first | rfl | decide +kernel) (by decide +kernel), mt (i := 54) (by decide +kernel) (by decide +kernel), ⟨by decide +kernel, by decide +kernel, by decide +kernel⟩, by decide⟩
theorem lc_X4_isPerson : LC yX4_isPerson bX4_isPerson 2 (some .boolean) 1 := ⟨mt (i := 524) (by first | rfl | decide +kernel) (by decide +kernel), mt (i := 54) (by decide +kernel) (by decide +kernel), ⟨by decide +kernel, by decide +kernel, by decide +kernel⟩, by decide⟩
theorem lc_X4_isSet : LC yX4_isSet bX4_isSet 2 (some .boolean) 1 := ⟨mt (i := 888) (by first | rfl | decide +kernel) (by decide +kernel), mt (i := 54) (by decide +kernel) (by decide +kernel), ⟨by decide +kernel, by decide +kernel, by decide +kernel⟩, by decide⟩
theorem lc_X4_price : LC yX4_price bX4_price 3 (some .int) 2 := ⟨mt (i := 537) (by first | rfl | decide +kernel) (by decide +kernel), mt (i := 54) (by decide +kernel) (by decide +kernel), ⟨by decide +kernel, by decide +kernel, by decide +kernel⟩, by decide⟩
theorem lc_X4_setCost : LC yX4_setCost bX4_setCost 3 (some .boolean) 2 := ⟨mt (i := 512) (by first | rfl | decide +kernel) (by decide +kernel), mt (i := 54) (by decide +kernel) (by decide +kernel), ⟨by decide +kernel, by decide +kernel, by decide +kernel⟩, by decide⟩
theorem lc_X4_setLaw : LC yX4_setLaw bX4_setLaw 4 (some .boolean) 3 := ⟨mt (i := 485) (by first | rfl | decide +kernel) (by decide +kernel), mt (i := 54) (by decide +kernel) (by decide +kernel), ⟨by decide +kernel, by decide +kernel, by decide +kernel⟩, by decide⟩
theorem lc_X4_setNumbers : LC yX4_setNumbers bX4_setNumbers 2 (some .boolean) 1 := ⟨mt (i := 504) (by first | rfl | decide +kernel) (by decide +kernel), mt (i := 54) (by decide +kernel) (by decide +kernel), ⟨by decide +kernel, by decide +kernel, by decide +kernel⟩, by decide⟩
theorem lc_X4_setOwner : LC yX4_setOwner bX4_setOwner 5 (some .boolean) 2 := ⟨mt (i := 520) (by first | rfl | decide +kernel) (by decide +kernel), mt (i := 54) (by decide +kernel) (by decide +kernel), ⟨by decide +kernel, by decide +kernel, by decide +kernel⟩, by decide⟩
theorem lc_X5_find : LC yX5_find bX5_find 6 (some .int) 3 := ⟨mt (i := 721) (by first | rfl | decide +kernel) (by decide +kernel), mt (i := 61) (by decide +kernel) (by decide +kernel), ⟨by decide +kernel, by decide +kernel, by decide +kernel⟩, by decide⟩
theorem lc_X5_forget : LC yX5_forget bX5_forget 3 none 1 := ⟨mt (i := 529) (by first | rfl | decide +kernel) (by decide +kernel), mt (i := 61) (by decide +kernel) (by decide +kernel), ⟨by decide +kernel, by decide +kernel, by decide +kernel⟩, by decide⟩
theorem lc_X5_inUse : LC yX5_inUse bX5_inUse 2 (some .int) 1 := ⟨mt (i := 815) (by first | rfl | decide +kernel) (by decide +kernel), mt (i := 61) (by decide +kernel) (by decide +kernel), ⟨by decide +kernel, by decide +kernel, by decide +kernel⟩, by decide⟩
theorem lc_X5_oneOf : LC yX5_oneOf bX5_oneOf 1 (some .int) 1 := ⟨mt (i := 728) (by first | rfl | decide +kernel) (by decide +kernel), mt (i := 61) (by decide +kernel) (by decide +kernel), ⟨by decide +kernel, by decide +kernel, by decide +kernel⟩, by decide⟩
theorem lc_X5_price : LC yX5_price bX5_price 1 (some .int) 0 := ⟨mt (i := 811) (by first | rfl | decide +kernel) (by decide +kernel), mt (i := 61) (by decide +kernel) (by decide +kernel), ⟨by decide +kernel, by decide +kernel, by decide +kernel⟩, by decide⟩
theorem lc_X5_used : LC yX5_used bX5_used 2 (some .int) 1 := ⟨mt (i := 725) (by first | rfl | decide +kernel) (by decide +kernel), mt (i := 61) (by decide +kernel) (by decide +kernel), ⟨by decide +kernel, by decide +kernel, by decide +kernel⟩, by decide⟩
theorem lc_X6_mayUse : LC yX6_mayUse bX6_mayUse 3 (some .int) 2 := ⟨mt (i := 640) (by first | rfl | decide +kernel) (by decide +kernel), mt (i := 63) (by decide +kernel) (by decide +kernel), ⟨by decide +kernel, by decide +kernel, by decide +kernel⟩, by decide⟩
theorem lc_X6_setDrawn : LC yX6_setDrawn bX6_setDrawn 7 none 3 := ⟨mt (i := 971) (by first | rfl | decide +kernel) (by decide +kernel), mt (i := 63) (by decide +kernel) (by decide +kernel), ⟨by decide +kernel, by decide +kernel, by decide +kernel⟩, by decide⟩
theorem lc_X6_setFree : LC yX6_setFree bX6_setFree 3 none 1 := ⟨mt (i := 623) (by first | rfl | decide +kernel) (by decide +kernel), mt (i := 63) (by decide +kernel) (by decide +kernel), ⟨by decide +kernel, by decide +kernel, by decide +kernel⟩, by decide⟩
theorem lc_X6_setNow : LC yX6_setNow bX6_setNow 4 none 2 := ⟨mt (i := 619) (by first | rfl | decide +kernel) (by decide +kernel), mt (i := 63) (by decide +kernel) (by decide +kernel), ⟨by decide +kernel, by decide +kernel, by decide +kernel⟩, by decide⟩
theorem lc_X7_add : LC yX7_add bX7_add 4 none 2 := ⟨mt (i := 773) (by first | rfl | decide +kernel) (by decide +kernel), mt (i := 62) (by decide +kernel) (by decide +kernel), ⟨by decide +kernel, by decide +kernel, by decide +kernel⟩, by decide⟩
theorem lc_X7_at : LC yX7_at bX7_at 3 (some .int) 2 := ⟨mt (i := 765) (by first | rfl | decide +kernel) (by decide +kernel), mt (i := 62) (by decide +kernel) (by decide +kernel), ⟨by decide +kernel, by decide +kernel, by decide +kernel⟩, by decide⟩
theorem lc_X7_build : LC yX7_build bX7_build 6 none 2 := ⟨mt (i := 732) (by first | rfl | decide +kernel) (by decide +kernel), mt (i := 62) (by decide +kernel) (by decide +kernel), ⟨by decide +kernel, by decide +kernel, by decide +kernel⟩, by decide⟩
theorem lc_X7_firstUse : LC yX7_firstUse bX7_firstUse 6 (some .int) 3 := ⟨mt (i := 769) (by first | rfl | decide +kernel) (by decide +kernel), mt (i := 62) (by decide +kernel) (by decide +kernel), ⟨by decide +kernel, by decide +kernel, by decide +kernel⟩, by decide⟩
theorem lc_X7_listNumbers : LC yX7_listNumbers bX7_listNumbers 2 none 0 := ⟨mt (i := 736) (by first | rfl | decide +kernel) (by decide +kernel), mt (i := 62) (by decide +kernel) (by decide +kernel), ⟨by decide +kernel, by decide +kernel, by decide +kernel⟩, by decide⟩
theorem lc_X7_pick : LC yX7_pick bX7_pick 6 none 1 := ⟨mt (i := 761) (by first | rfl | decide +kernel) (by decide +kernel), mt (i := 62) (by decide +kernel) (by decide +kernel), ⟨by decide +kernel, by decide +kernel, by decide +kernel⟩, by decide⟩
theorem lc_X7_setBounds : LC yX7_setBounds bX7_setBounds 5 none 0 := ⟨mt (i := 741) (by first | rfl | decide +kernel) (by decide +kernel), mt (i := 62) (by decide +kernel) (by decide +kernel), ⟨by decide +kernel, by decide +kernel, by decide +kernel⟩, by decide⟩
theorem lc_X7_setPort : LC yX7_setPort bX7_setPort 4 none 1 := ⟨mt (i := 533) (by first | rfl | decide +kernel) (by decide +kernel), mt (i := 62) (by decide +kernel) (by decide +kernel), ⟨by decide +kernel, by decide +kernel, by decide +kernel⟩, by decide⟩
theorem lc_X7_spread : LC yX7_spread bX7_spread 9 none 3 := ⟨mt (i := 750) (by first | rfl | decide +kernel) (by decide +kernel), mt (i := 62) (by decide +kernel) (by decide +kernel), ⟨by decide +kernel, by decide +kernel, by decide +kernel⟩, by decide⟩
theorem lc_X7_weight : LC yX7_weight bX7_weight 3 (some .int) 2 := ⟨mt (i := 757) (by first | rfl | decide +kernel) (by decide +kernel), mt (i := 62) (by decide +kernel) (by decide +kernel), ⟨by decide +kernel, by decide +kernel, by decide +kernel⟩, by decide⟩
theorem lc_X8_accept : LC yX8_accept bX8_accept 3 (some .boolean) 2 := ⟨mt (i := 500) (by first | rfl | decide +kernel) (by decide +kernel), mt (i := 53) (by decide +kernel) (by decide +kernel), ⟨by decide +kernel, by decide +kernel, by decide +kernel⟩, by decide⟩
theorem lc_X8_append : LC yX8_append bX8_append 2 (some .boolean) 1 := ⟨mt (i := 473) (by first | rfl | decide +kernel) (by decide +kernel), mt (i := 53) (by decide +kernel) (by decide +kernel), ⟨by decide +kernel, by decide +kernel, by decide +kernel⟩, by decide⟩
theorem lc_X8_numbersBehind : LC yX8_numbersBehind bX8_numbersBehind 1 (some .int) 1 := ⟨mt (i := 488) (by first | rfl | decide +kernel) (by decide +kernel), mt (i := 53) (by decide +kernel) (by decide +kernel), ⟨by decide +kernel, by decide +kernel, by decide +kernel⟩, by decide⟩
theorem lc_X8_readInto : LC yX8_readInto bX8_readInto 5 (some .int) 1 := ⟨mt (i := 477) (by first | rfl | decide +kernel) (by decide +kernel), mt (i := 53) (by decide +kernel) (by decide +kernel), ⟨by decide +kernel, by decide +kernel, by decide +kernel⟩, by decide⟩
theorem lc_X8_readItem : LC yX8_readItem bX8_readItem 3 (some .boolean) 1 := ⟨mt (i := 492) (by first | rfl | decide +kernel) (by decide +kernel), mt (i := 53) (by decide +kernel) (by decide +kernel), ⟨by decide +kernel, by decide +kernel, by decide +kernel⟩, by decide⟩
theorem lc_X8_readNumber : LC yX8_readNumber bX8_readNumber 4 (some .boolean) 1 := ⟨mt (i := 496) (by first | rfl | decide +kernel) (by decide +kernel), mt (i := 53) (by decide +kernel) (by decide +kernel), ⟨by decide +kernel, by decide +kernel, by decide +kernel⟩, by decide⟩
theorem lc_X9_comingTo : LC yX9_comingTo bX9_comingTo 2 (some .int) 1 := ⟨mt (i := 907) (by first | rfl | decide +kernel) (by decide +kernel), mt (i := 60) (by decide +kernel) (by decide +kernel), ⟨by decide +kernel, by decide +kernel, by decide +kernel⟩, by decide⟩
theorem lc_X9_join : LC yX9_join bX9_join 7 none 2 := ⟨mt (i := 900) (by first | rfl | decide +kernel) (by decide +kernel), mt (i := 60) (by decide +kernel) (by decide +kernel), ⟨by decide +kernel, by decide +kernel, by decide +kernel⟩, by decide⟩
theorem lc_X9_reckon : LC yX9_reckon bX9_reckon 4 none 2 := ⟨mt (i := 893) (by first | rfl | decide +kernel) (by decide +kernel), mt (i := 60) (by decide +kernel) (by decide +kernel), ⟨by decide +kernel, by decide +kernel, by decide +kernel⟩, by decide⟩
theorem lm_X2_29 : Cond.methodLink RX2 29 arraycopyName ∈ TT := mt (i := 703) (by decide +kernel) (by decide +kernel)
theorem lm_X7_93 : Cond.methodLink RX7 93 Lib.Math.max.name ∈ TT := mt (i := 742) (by decide +kernel) (by decide +kernel)
theorem lm_X7_98 : Cond.methodLink RX7 98 Lib.Math.min.name ∈ TT := mt (i := 743) (by decide +kernel) (by decide +kernel)
theorem lm_X9_39 : Cond.methodLink RX9 39 Lib.Math.min.name ∈ TT := mt (i := 901) (by decide +kernel) (by decide +kernel)
theorem ls_X0_55 : LSt RX0 55 yJ6_bitCount_0f7a4 := ⟨mt (i := 943) (by decide +kernel) (by decide +kernel), mt (i := 775) (by decide +kernel) (by decide +kernel)⟩
theorem ls_X0_60 : LSN RX0 60 yX11_firstBit := ⟨List.mem_of_getElem? (i := 944) (by decide +kernel), mt (i := 945) (by decide +kernel) (by decide +kernel)⟩
theorem ls_X0_63 : LSN RX0 63 yX11_hasBit := ⟨List.mem_of_getElem? (i := 938) (by decide +kernel), mt (i := 605) (by decide +kernel) (by decide +kernel)⟩
theorem ls_X10_22 : LSN RX10 22 yX11_countsAs := ⟨List.mem_of_getElem? (i := 672) (by decide +kernel), mt (i := 673) (by decide +kernel) (by decide +kernel)⟩
theorem ls_X10_31 : LSN RX10 31 yX11_lastUse := ⟨List.mem_of_getElem? (i := 684) (by decide +kernel), mt (i := 685) (by decide +kernel) (by decide +kernel)⟩
theorem ls_X11_142 : LSt RX11 142 yX11_holderOf := ⟨mt (i := 601) (by decide +kernel) (by decide +kernel), mt (i := 602) (by decide +kernel) (by decide +kernel)⟩
theorem ls_X11_184 : LSt RX11 184 yX11_hasBit := ⟨mt (i := 604) (by decide +kernel) (by decide +kernel), mt (i := 605) (by decide +kernel) (by decide +kernel)⟩
theorem ls_X11_188 : LSt RX11 188 yX11_canStand := ⟨mt (i := 653) (by decide +kernel) (by decide +kernel), mt (i := 654) (by decide +kernel) (by decide +kernel)⟩
theorem ls_X11_213 : LSt RX11 213 yJ6_bitCount_0f7a4 := ⟨mt (i := 774) (by decide +kernel) (by decide +kernel), mt (i := 775) (by decide +kernel) (by decide +kernel)⟩
theorem ls_X11_305 : LSt RX11 305 yX11_firstBit := ⟨mt (i := 955) (by decide +kernel) (by decide +kernel), mt (i := 945) (by decide +kernel) (by decide +kernel)⟩
theorem ls_X12_146 : LSt RX12 146 yX12_counts := ⟨mt (i := 1184) (by decide +kernel) (by decide +kernel), mt (i := 1185) (by decide +kernel) (by decide +kernel)⟩
theorem ls_X12_170 : LSt RX12 170 yX12_has := ⟨mt (i := 1203) (by decide +kernel) (by decide +kernel), mt (i := 1204) (by decide +kernel) (by decide +kernel)⟩
theorem ls_X12_204 : LSt RX12 204 yX12_bits := ⟨mt (i := 1253) (by decide +kernel) (by decide +kernel), mt (i := 1254) (by decide +kernel) (by decide +kernel)⟩
theorem ls_X12_75 : LSt RX12 75 yX12_in := ⟨mt (i := 1100) (by decide +kernel) (by decide +kernel), mt (i := 1101) (by decide +kernel) (by decide +kernel)⟩
theorem ls_X1_37 : LSN RX1 37 yX11_hasBit := ⟨List.mem_of_getElem? (i := 824) (by decide +kernel), mt (i := 605) (by decide +kernel) (by decide +kernel)⟩
theorem ls_X1_83 : LSt RX1 83 yJ6_bitCount_0f7a4 := ⟨mt (i := 847) (by decide +kernel) (by decide +kernel), mt (i := 775) (by decide +kernel) (by decide +kernel)⟩
theorem ls_X2_35 : LSN RX2 35 yX11_together := ⟨List.mem_of_getElem? (i := 635) (by decide +kernel), mt (i := 629) (by decide +kernel) (by decide +kernel)⟩
theorem ls_X5_52 : LSt RX5 52 yX5_oneOf := ⟨mt (i := 726) (by decide +kernel) (by decide +kernel), mt (i := 727) (by decide +kernel) (by decide +kernel)⟩
theorem ls_X6_67 : LSN RX6 67 yX11_together := ⟨List.mem_of_getElem? (i := 628) (by decide +kernel), mt (i := 629) (by decide +kernel) (by decide +kernel)⟩
theorem ls_X7_54 : LSN RX7 54 yX11_lastUse := ⟨List.mem_of_getElem? (i := 751) (by decide +kernel), mt (i := 685) (by decide +kernel) (by decide +kernel)⟩
theorem ls_X7_58 : LSN RX7 58 yX11_canStand := ⟨List.mem_of_getElem? (i := 752) (by decide +kernel), mt (i := 654) (by decide +kernel) (by decide +kernel)⟩
theorem ls_X7_62 : LSN RX7 62 yX11_countsAs := ⟨List.mem_of_getElem? (i := 753) (by decide +kernel), mt (i := 673) (by decide +kernel) (by decide +kernel)⟩
theorem ls_X7_90 : LSN RX7 90 yX11_hasBit := ⟨List.mem_of_getElem? (i := 737) (by decide +kernel), mt (i := 605) (by decide +kernel) (by decide +kernel)⟩
theorem ls_X8_35 : LSt RX8 35 yX8_numbersBehind := ⟨mt (i := 486) (by decide +kernel) (by decide +kernel), mt (i := 487) (by decide +kernel) (by decide +kernel)⟩
theorem ls_X9_22 : LSt RX9 22 yJ6_bitCount_0f7a4 := ⟨mt (i := 894) (by decide +kernel) (by decide +kernel), mt (i := 775) (by decide +kernel) (by decide +kernel)⟩
theorem ls_X9_28 : LSN RX9 28 yX11_hasBit := ⟨List.mem_of_getElem? (i := 895) (by decide +kernel), mt (i := 605) (by decide +kernel) (by decide +kernel)⟩
theorem ls_X9_32 : LSN RX9 32 yX11_lastUse := ⟨List.mem_of_getElem? (i := 896) (by decide +kernel), mt (i := 685) (by decide +kernel) (by decide +kernel)⟩
theorem ls_X9_45 : LSN RX9 45 yX11_countsAs := ⟨List.mem_of_getElem? (i := 902) (by decide +kernel), mt (i := 673) (by decide +kernel) (by decide +kernel)⟩
theorem ls_X9_48 : LSN RX9 48 yX11_canStand := ⟨List.mem_of_getElem? (i := 903) (by decide +kernel), mt (i := 654) (by decide +kernel) (by decide +kernel)⟩
theorem lv_X0_33 : LV RX0 33 yX9_reckon := ⟨mt (i := 932) (by decide +kernel) (by decide +kernel), mt (i := 891) (by decide +kernel) (by decide +kernel), mt (i := 892) (by decide +kernel) (by decide +kernel)⟩
theorem lv_X0_45 : LV RX0 45 yX9_comingTo := ⟨mt (i := 933) (by decide +kernel) (by decide +kernel), mt (i := 905) (by decide +kernel) (by decide +kernel), mt (i := 906) (by decide +kernel) (by decide +kernel)⟩
theorem lv_X0_52 : LV RX0 52 yX0_readFrom := ⟨mt (i := 934) (by decide +kernel) (by decide +kernel), mt (i := 936) (by decide +kernel) (by decide +kernel), mt (i := 20) (by decide +kernel) (by decide +kernel)⟩
theorem lv_X10_26 : LV RX10 26 yX4_price := ⟨mt (i := 679) (by decide +kernel) (by decide +kernel), mt (i := 535) (by decide +kernel) (by decide +kernel), mt (i := 536) (by decide +kernel) (by decide +kernel)⟩
theorem lv_X11_101 : LV RX11 101 yX8_append := ⟨mt (i := 470) (by decide +kernel) (by decide +kernel), mt (i := 471) (by decide +kernel) (by decide +kernel), mt (i := 472) (by decide +kernel) (by decide +kernel)⟩
theorem lv_X11_105 : LV RX11 105 yX8_readInto := ⟨mt (i := 474) (by decide +kernel) (by decide +kernel), mt (i := 475) (by decide +kernel) (by decide +kernel), mt (i := 476) (by decide +kernel) (by decide +kernel)⟩
theorem lv_X11_112 : LV RX11 112 yX5_forget := ⟨mt (i := 526) (by decide +kernel) (by decide +kernel), mt (i := 527) (by decide +kernel) (by decide +kernel), mt (i := 528) (by decide +kernel) (by decide +kernel)⟩
theorem lv_X11_119 : LV RX11 119 yX2_begin := ⟨mt (i := 592) (by decide +kernel) (by decide +kernel), mt (i := 593) (by decide +kernel) (by decide +kernel), mt (i := 594) (by decide +kernel) (by decide +kernel)⟩
theorem lv_X11_131 : LV RX11 131 yX4_isNumber := ⟨mt (i := 600) (by decide +kernel) (by decide +kernel), mt (i := 514) (by decide +kernel) (by decide +kernel), mt (i := 515) (by decide +kernel) (by decide +kernel)⟩
theorem lv_X11_152 : LV RX11 152 yX4_isPerson := ⟨mt (i := 611) (by decide +kernel) (by decide +kernel), mt (i := 522) (by decide +kernel) (by decide +kernel), mt (i := 523) (by decide +kernel) (by decide +kernel)⟩
theorem lv_X11_161 : LV RX11 161 yX11_sceneNow := ⟨mt (i := 612) (by decide +kernel) (by decide +kernel), mt (i := 614) (by decide +kernel) (by decide +kernel), mt (i := 3) (by decide +kernel) (by decide +kernel)⟩
theorem lv_X11_165 : LV RX11 165 yX2_taken := ⟨mt (i := 636) (by decide +kernel) (by decide +kernel), mt (i := 632) (by decide +kernel) (by decide +kernel), mt (i := 633) (by decide +kernel) (by decide +kernel)⟩
theorem lv_X11_168 : LV RX11 168 yX6_mayUse := ⟨mt (i := 637) (by decide +kernel) (by decide +kernel), mt (i := 638) (by decide +kernel) (by decide +kernel), mt (i := 639) (by decide +kernel) (by decide +kernel)⟩
theorem lv_X11_181 : LV RX11 181 yX10_set := ⟨mt (i := 649) (by decide +kernel) (by decide +kernel), mt (i := 650) (by decide +kernel) (by decide +kernel), mt (i := 651) (by decide +kernel) (by decide +kernel)⟩
theorem lv_X11_191 : LV RX11 191 yX10_append := ⟨mt (i := 656) (by decide +kernel) (by decide +kernel), mt (i := 657) (by decide +kernel) (by decide +kernel), mt (i := 658) (by decide +kernel) (by decide +kernel)⟩
theorem lv_X11_193 : LV RX11 193 yX10_sum := ⟨mt (i := 668) (by decide +kernel) (by decide +kernel), mt (i := 669) (by decide +kernel) (by decide +kernel), mt (i := 670) (by decide +kernel) (by decide +kernel)⟩
theorem lv_X11_196 : LV RX11 196 yX10_price := ⟨mt (i := 675) (by decide +kernel) (by decide +kernel), mt (i := 676) (by decide +kernel) (by decide +kernel), mt (i := 677) (by decide +kernel) (by decide +kernel)⟩
theorem lv_X11_199 : LV RX11 199 yX10_areSaying := ⟨mt (i := 680) (by decide +kernel) (by decide +kernel), mt (i := 681) (by decide +kernel) (by decide +kernel), mt (i := 682) (by decide +kernel) (by decide +kernel)⟩
theorem lv_X11_202 : LV RX11 202 yX3_push := ⟨mt (i := 691) (by decide +kernel) (by decide +kernel), mt (i := 692) (by decide +kernel) (by decide +kernel), mt (i := 693) (by decide +kernel) (by decide +kernel)⟩
theorem lv_X11_206 : LV RX11 206 yX2_take := ⟨mt (i := 706) (by decide +kernel) (by decide +kernel), mt (i := 707) (by decide +kernel) (by decide +kernel), mt (i := 708) (by decide +kernel) (by decide +kernel)⟩
theorem lv_X11_210 : LV RX11 210 yX11_usedNow := ⟨mt (i := 714) (by decide +kernel) (by decide +kernel), mt (i := 716) (by decide +kernel) (by decide +kernel), mt (i := 6) (by decide +kernel) (by decide +kernel)⟩
theorem lv_X11_219 : LV RX11 219 yX2_lent := ⟨mt (i := 784) (by decide +kernel) (by decide +kernel), mt (i := 785) (by decide +kernel) (by decide +kernel), mt (i := 786) (by decide +kernel) (by decide +kernel)⟩
theorem lv_X11_229 : LV RX11 229 yX3_pop := ⟨mt (i := 800) (by decide +kernel) (by decide +kernel), mt (i := 801) (by decide +kernel) (by decide +kernel), mt (i := 802) (by decide +kernel) (by decide +kernel)⟩
theorem lv_X11_233 : LV RX11 233 yX5_price := ⟨mt (i := 808) (by decide +kernel) (by decide +kernel), mt (i := 809) (by decide +kernel) (by decide +kernel), mt (i := 810) (by decide +kernel) (by decide +kernel)⟩
theorem lv_X11_235 : LV RX11 235 yX5_inUse := ⟨mt (i := 812) (by decide +kernel) (by decide +kernel), mt (i := 813) (by decide +kernel) (by decide +kernel), mt (i := 814) (by decide +kernel) (by decide +kernel)⟩
theorem lv_X11_238 : LV RX11 238 yX1_stuckIn := ⟨mt (i := 820) (by decide +kernel) (by decide +kernel), mt (i := 821) (by decide +kernel) (by decide +kernel), mt (i := 822) (by decide +kernel) (by decide +kernel)⟩
theorem lv_X11_244 : LV RX11 244 yX5_find := ⟨mt (i := 718) (by decide +kernel) (by decide +kernel), mt (i := 719) (by decide +kernel) (by decide +kernel), mt (i := 720) (by decide +kernel) (by decide +kernel)⟩
theorem lv_X11_248 : LV RX11 248 yX1_findOrder := ⟨mt (i := 835) (by decide +kernel) (by decide +kernel), mt (i := 836) (by decide +kernel) (by decide +kernel), mt (i := 837) (by decide +kernel) (by decide +kernel)⟩
theorem lv_X11_261 : LV RX11 261 yX1_denyOne := ⟨mt (i := 856) (by decide +kernel) (by decide +kernel), mt (i := 857) (by decide +kernel) (by decide +kernel), mt (i := 858) (by decide +kernel) (by decide +kernel)⟩
theorem lv_X11_265 : LV RX11 265 yX1_denyTwo := ⟨mt (i := 865) (by decide +kernel) (by decide +kernel), mt (i := 866) (by decide +kernel) (by decide +kernel), mt (i := 867) (by decide +kernel) (by decide +kernel)⟩
theorem lv_X11_281 : LV RX11 281 yX4_isSet := ⟨mt (i := 885) (by decide +kernel) (by decide +kernel), mt (i := 886) (by decide +kernel) (by decide +kernel), mt (i := 887) (by decide +kernel) (by decide +kernel)⟩
theorem lv_X11_284 : LV RX11 284 yX9_reckon := ⟨mt (i := 890) (by decide +kernel) (by decide +kernel), mt (i := 891) (by decide +kernel) (by decide +kernel), mt (i := 892) (by decide +kernel) (by decide +kernel)⟩
theorem lv_X11_287 : LV RX11 287 yX9_comingTo := ⟨mt (i := 904) (by decide +kernel) (by decide +kernel), mt (i := 905) (by decide +kernel) (by decide +kernel), mt (i := 906) (by decide +kernel) (by decide +kernel)⟩
theorem lv_X11_290 : LV RX11 290 yX0_append := ⟨mt (i := 916) (by decide +kernel) (by decide +kernel), mt (i := 917) (by decide +kernel) (by decide +kernel), mt (i := 918) (by decide +kernel) (by decide +kernel)⟩
theorem lv_X11_292 : LV RX11 292 yX0_read := ⟨mt (i := 928) (by decide +kernel) (by decide +kernel), mt (i := 929) (by decide +kernel) (by decide +kernel), mt (i := 930) (by decide +kernel) (by decide +kernel)⟩
theorem lv_X11_299 : LV RX11 299 yX0_surePerson := ⟨mt (i := 939) (by decide +kernel) (by decide +kernel), mt (i := 940) (by decide +kernel) (by decide +kernel), mt (i := 941) (by decide +kernel) (by decide +kernel)⟩
theorem lv_X11_302 : LV RX11 302 yX0_inTwoRows := ⟨mt (i := 951) (by decide +kernel) (by decide +kernel), mt (i := 952) (by decide +kernel) (by decide +kernel), mt (i := 953) (by decide +kernel) (by decide +kernel)⟩
theorem lv_X11_308 : LV RX11 308 yX1_cornerBy := ⟨mt (i := 960) (by decide +kernel) (by decide +kernel), mt (i := 961) (by decide +kernel) (by decide +kernel), mt (i := 962) (by decide +kernel) (by decide +kernel)⟩
theorem lv_X11_315 : LV RX11 315 yX6_setDrawn := ⟨mt (i := 968) (by decide +kernel) (by decide +kernel), mt (i := 969) (by decide +kernel) (by decide +kernel), mt (i := 970) (by decide +kernel) (by decide +kernel)⟩
theorem lv_X11_319 : LV RX11 319 yX6_setNow := ⟨mt (i := 616) (by decide +kernel) (by decide +kernel), mt (i := 617) (by decide +kernel) (by decide +kernel), mt (i := 618) (by decide +kernel) (by decide +kernel)⟩
theorem lv_X12_105 : LV RX12 105 yX12_readItem := ⟨mt (i := 1115) (by decide +kernel) (by decide +kernel), mt (i := 1117) (by decide +kernel) (by decide +kernel), mt (i := 24) (by decide +kernel) (by decide +kernel)⟩
theorem lv_X12_109 : LV RX12 109 yX12_readAll := ⟨mt (i := 1111) (by decide +kernel) (by decide +kernel), mt (i := 1113) (by decide +kernel) (by decide +kernel), mt (i := 23) (by decide +kernel) (by decide +kernel)⟩
theorem lv_X12_125 : LV RX12 125 yX12_noNumber := ⟨mt (i := 1139) (by decide +kernel) (by decide +kernel), mt (i := 1141) (by decide +kernel) (by decide +kernel), mt (i := 27) (by decide +kernel) (by decide +kernel)⟩
theorem lv_X12_131 : LV RX12 131 yX12_ofOne := ⟨mt (i := 1155) (by decide +kernel) (by decide +kernel), mt (i := 1157) (by decide +kernel) (by decide +kernel), mt (i := 30) (by decide +kernel) (by decide +kernel)⟩
theorem lv_X12_135 : LV RX12 135 yX12_taken := ⟨mt (i := 1159) (by decide +kernel) (by decide +kernel), mt (i := 1161) (by decide +kernel) (by decide +kernel), mt (i := 31) (by decide +kernel) (by decide +kernel)⟩
theorem lv_X12_138 : LV RX12 138 yX12_noOne := ⟨mt (i := 1147) (by decide +kernel) (by decide +kernel), mt (i := 1149) (by decide +kernel) (by decide +kernel), mt (i := 28) (by decide +kernel) (by decide +kernel)⟩
theorem lv_X12_141 : LV RX12 141 yX12_mayOf := ⟨mt (i := 1151) (by decide +kernel) (by decide +kernel), mt (i := 1153) (by decide +kernel) (by decide +kernel), mt (i := 29) (by decide +kernel) (by decide +kernel)⟩
theorem lv_X12_150 : LV RX12 150 yX12_priceOf := ⟨mt (i := 1191) (by decide +kernel) (by decide +kernel), mt (i := 1193) (by decide +kernel) (by decide +kernel), mt (i := 34) (by decide +kernel) (by decide +kernel)⟩
theorem lv_X12_153 : LV RX12 153 yX12_sumOfWords := ⟨mt (i := 1180) (by decide +kernel) (by decide +kernel), mt (i := 1182) (by decide +kernel) (by decide +kernel), mt (i := 32) (by decide +kernel) (by decide +kernel)⟩
theorem lv_X12_156 : LV RX12 156 yX12_priceOfWords := ⟨mt (i := 1187) (by decide +kernel) (by decide +kernel), mt (i := 1189) (by decide +kernel) (by decide +kernel), mt (i := 33) (by decide +kernel) (by decide +kernel)⟩
theorem lv_X12_159 : LV RX12 159 yX12_isSaying := ⟨mt (i := 1195) (by decide +kernel) (by decide +kernel), mt (i := 1197) (by decide +kernel) (by decide +kernel), mt (i := 35) (by decide +kernel) (by decide +kernel)⟩
theorem lv_X12_167 : LV RX12 167 yX12_laid := ⟨mt (i := 1227) (by decide +kernel) (by decide +kernel), mt (i := 1229) (by decide +kernel) (by decide +kernel), mt (i := 40) (by decide +kernel) (by decide +kernel)⟩
theorem lv_X12_174 : LV RX12 174 yX12_by := ⟨mt (i := 1233) (by decide +kernel) (by decide +kernel), mt (i := 1235) (by decide +kernel) (by decide +kernel), mt (i := 41) (by decide +kernel) (by decide +kernel)⟩
theorem lv_X12_187 : LV RX12 187 yX12_layTable := ⟨mt (i := 1222) (by decide +kernel) (by decide +kernel), mt (i := 1224) (by decide +kernel) (by decide +kernel), mt (i := 39) (by decide +kernel) (by decide +kernel)⟩
theorem lv_X12_191 : LV RX12 191 yX12_bestOf := ⟨mt (i := 1218) (by decide +kernel) (by decide +kernel), mt (i := 1220) (by decide +kernel) (by decide +kernel), mt (i := 38) (by decide +kernel) (by decide +kernel)⟩
theorem lv_X12_195 : LV RX12 195 yX12_keepDay := ⟨mt (i := 1206) (by decide +kernel) (by decide +kernel), mt (i := 1208) (by decide +kernel) (by decide +kernel), mt (i := 36) (by decide +kernel) (by decide +kernel)⟩
theorem lv_X12_198 : LV RX12 198 yX12_take := ⟨mt (i := 1210) (by decide +kernel) (by decide +kernel), mt (i := 1212) (by decide +kernel) (by decide +kernel), mt (i := 37) (by decide +kernel) (by decide +kernel)⟩
theorem lv_X12_201 : LV RX12 201 yX12_usedSet := ⟨mt (i := 1237) (by decide +kernel) (by decide +kernel), mt (i := 1239) (by decide +kernel) (by decide +kernel), mt (i := 42) (by decide +kernel) (by decide +kernel)⟩
theorem lv_X12_211 : LV RX12 211 yX12_hasBest := ⟨mt (i := 1278) (by decide +kernel) (by decide +kernel), mt (i := 1280) (by decide +kernel) (by decide +kernel), mt (i := 45) (by decide +kernel) (by decide +kernel)⟩
theorem lv_X12_215 : LV RX12 215 yX12_silent := ⟨mt (i := 1270) (by decide +kernel) (by decide +kernel), mt (i := 1272) (by decide +kernel) (by decide +kernel), mt (i := 43) (by decide +kernel) (by decide +kernel)⟩
theorem lv_X12_218 : LV RX12 218 yX12_stuckOf := ⟨mt (i := 1274) (by decide +kernel) (by decide +kernel), mt (i := 1276) (by decide +kernel) (by decide +kernel), mt (i := 44) (by decide +kernel) (by decide +kernel)⟩
theorem lv_X12_224 : LV RX12 224 yX12_isAhead := ⟨mt (i := 1296) (by decide +kernel) (by decide +kernel), mt (i := 1298) (by decide +kernel) (by decide +kernel), mt (i := 47) (by decide +kernel) (by decide +kernel)⟩
theorem lv_X12_231 : LV RX12 231 yX12_layOrder := ⟨mt (i := 1292) (by decide +kernel) (by decide +kernel), mt (i := 1294) (by decide +kernel) (by decide +kernel), mt (i := 46) (by decide +kernel) (by decide +kernel)⟩
theorem lv_X12_236 : LV RX12 236 yX12_noSet := ⟨mt (i := 1320) (by decide +kernel) (by decide +kernel), mt (i := 1322) (by decide +kernel) (by decide +kernel), mt (i := 48) (by decide +kernel) (by decide +kernel)⟩
theorem lv_X12_239 : LV RX12 239 yX12_waysOf := ⟨mt (i := 1324) (by decide +kernel) (by decide +kernel), mt (i := 1326) (by decide +kernel) (by decide +kernel), mt (i := 49) (by decide +kernel) (by decide +kernel)⟩
theorem lv_X12_242 : LV RX12 242 yX12_readingsBy := ⟨mt (i := 1345) (by decide +kernel) (by decide +kernel), mt (i := 1347) (by decide +kernel) (by decide +kernel), mt (i := 50) (by decide +kernel) (by decide +kernel)⟩
theorem lv_X12_68 : LV RX12 68 yX12_begin := ⟨mt (i := 995) (by decide +kernel) (by decide +kernel), mt (i := 997) (by decide +kernel) (by decide +kernel), mt (i := 21) (by decide +kernel) (by decide +kernel)⟩
theorem lv_X12_71 : LV RX12 71 yX12_dawn := ⟨mt (i := 999) (by decide +kernel) (by decide +kernel), mt (i := 1001) (by decide +kernel) (by decide +kernel), mt (i := 22) (by decide +kernel) (by decide +kernel)⟩
theorem lv_X12_93 : LV RX12 93 yX12_isFigure := ⟨mt (i := 1123) (by decide +kernel) (by decide +kernel), mt (i := 1125) (by decide +kernel) (by decide +kernel), mt (i := 26) (by decide +kernel) (by decide +kernel)⟩
theorem lv_X12_99 : LV RX12 99 yX12_areNumbers := ⟨mt (i := 1119) (by decide +kernel) (by decide +kernel), mt (i := 1121) (by decide +kernel) (by decide +kernel), mt (i := 25) (by decide +kernel) (by decide +kernel)⟩
theorem lv_X1_41 : LV RX1 41 yX6_mayUse := ⟨mt (i := 825) (by decide +kernel) (by decide +kernel), mt (i := 638) (by decide +kernel) (by decide +kernel), mt (i := 639) (by decide +kernel) (by decide +kernel)⟩
theorem lv_X1_51 : LV RX1 51 yX5_find := ⟨mt (i := 826) (by decide +kernel) (by decide +kernel), mt (i := 719) (by decide +kernel) (by decide +kernel), mt (i := 720) (by decide +kernel) (by decide +kernel)⟩
theorem lv_X1_63 : LV RX1 63 yX1_getsWorse := ⟨mt (i := 860) (by decide +kernel) (by decide +kernel), mt (i := 862) (by decide +kernel) (by decide +kernel), mt (i := 18) (by decide +kernel) (by decide +kernel)⟩
theorem lv_X1_79 : LV RX1 79 yX1_search := ⟨mt (i := 839) (by decide +kernel) (by decide +kernel), mt (i := 841) (by decide +kernel) (by decide +kernel), mt (i := 15) (by decide +kernel) (by decide +kernel)⟩
theorem lv_X1_89 : LV RX1 89 yX1_stuckIn := ⟨mt (i := 864) (by decide +kernel) (by decide +kernel), mt (i := 821) (by decide +kernel) (by decide +kernel), mt (i := 822) (by decide +kernel) (by decide +kernel)⟩
theorem lv_X1_93 : LV RX1 93 yX1_ableAt := ⟨mt (i := 843) (by decide +kernel) (by decide +kernel), mt (i := 845) (by decide +kernel) (by decide +kernel), mt (i := 16) (by decide +kernel) (by decide +kernel)⟩
theorem lv_X1_97 : LV RX1 97 yX1_record := ⟨mt (i := 848) (by decide +kernel) (by decide +kernel), mt (i := 850) (by decide +kernel) (by decide +kernel), mt (i := 17) (by decide +kernel) (by decide +kernel)⟩
theorem lv_X3_26 : LV RX3 26 yX3_dropOldest := ⟨mt (i := 695) (by decide +kernel) (by decide +kernel), mt (i := 697) (by decide +kernel) (by decide +kernel), mt (i := 5) (by decide +kernel) (by decide +kernel)⟩
theorem lv_X3_29 : LV RX3 29 yX2_copy := ⟨mt (i := 699) (by decide +kernel) (by decide +kernel), mt (i := 700) (by decide +kernel) (by decide +kernel), mt (i := 701) (by decide +kernel) (by decide +kernel)⟩
theorem lv_X4_28 : LV RX4 28 yX4_setLaw := ⟨mt (i := 482) (by decide +kernel) (by decide +kernel), mt (i := 483) (by decide +kernel) (by decide +kernel), mt (i := 484) (by decide +kernel) (by decide +kernel)⟩
theorem lv_X4_32 : LV RX4 32 yX4_all := ⟨mt (i := 889) (by decide +kernel) (by decide +kernel), mt (i := 625) (by decide +kernel) (by decide +kernel), mt (i := 626) (by decide +kernel) (by decide +kernel)⟩
theorem lv_X4_36 : LV RX4 36 yX4_isNumber := ⟨mt (i := 513) (by decide +kernel) (by decide +kernel), mt (i := 514) (by decide +kernel) (by decide +kernel), mt (i := 515) (by decide +kernel) (by decide +kernel)⟩
theorem lv_X4_46 : LV RX4 46 yX4_isPerson := ⟨mt (i := 521) (by decide +kernel) (by decide +kernel), mt (i := 522) (by decide +kernel) (by decide +kernel), mt (i := 523) (by decide +kernel) (by decide +kernel)⟩
theorem lv_X5_40 : LV RX5 40 yX7_setPort := ⟨mt (i := 530) (by decide +kernel) (by decide +kernel), mt (i := 531) (by decide +kernel) (by decide +kernel), mt (i := 532) (by decide +kernel) (by decide +kernel)⟩
theorem lv_X5_48 : LV RX5 48 yX5_used := ⟨mt (i := 722) (by decide +kernel) (by decide +kernel), mt (i := 724) (by decide +kernel) (by decide +kernel), mt (i := 7) (by decide +kernel) (by decide +kernel)⟩
theorem lv_X5_55 : LV RX5 55 yX7_build := ⟨mt (i := 729) (by decide +kernel) (by decide +kernel), mt (i := 730) (by decide +kernel) (by decide +kernel), mt (i := 731) (by decide +kernel) (by decide +kernel)⟩
theorem lv_X5_59 : LV RX5 59 yX7_pick := ⟨mt (i := 758) (by decide +kernel) (by decide +kernel), mt (i := 759) (by decide +kernel) (by decide +kernel), mt (i := 760) (by decide +kernel) (by decide +kernel)⟩
theorem lv_X6_18 : LV RX6 18 yX6_setFree := ⟨mt (i := 620) (by decide +kernel) (by decide +kernel), mt (i := 622) (by decide +kernel) (by decide +kernel), mt (i := 4) (by decide +kernel) (by decide +kernel)⟩
theorem lv_X6_31 : LV RX6 31 yX2_taken := ⟨mt (i := 631) (by decide +kernel) (by decide +kernel), mt (i := 632) (by decide +kernel) (by decide +kernel), mt (i := 633) (by decide +kernel) (by decide +kernel)⟩
theorem lv_X6_59 : LV RX6 59 yX4_all := ⟨mt (i := 624) (by decide +kernel) (by decide +kernel), mt (i := 625) (by decide +kernel) (by decide +kernel), mt (i := 626) (by decide +kernel) (by decide +kernel)⟩
theorem lv_X7_31 : LV RX7 31 yX4_price := ⟨mt (i := 534) (by decide +kernel) (by decide +kernel), mt (i := 535) (by decide +kernel) (by decide +kernel), mt (i := 536) (by decide +kernel) (by decide +kernel)⟩
theorem lv_X7_40 : LV RX7 40 yX7_listNumbers := ⟨mt (i := 733) (by decide +kernel) (by decide +kernel), mt (i := 735) (by decide +kernel) (by decide +kernel), mt (i := 8) (by decide +kernel) (by decide +kernel)⟩
theorem lv_X7_43 : LV RX7 43 yX7_setBounds := ⟨mt (i := 738) (by decide +kernel) (by decide +kernel), mt (i := 740) (by decide +kernel) (by decide +kernel), mt (i := 9) (by decide +kernel) (by decide +kernel)⟩
theorem lv_X7_50 : LV RX7 50 yX7_spread := ⟨mt (i := 747) (by decide +kernel) (by decide +kernel), mt (i := 749) (by decide +kernel) (by decide +kernel), mt (i := 10) (by decide +kernel) (by decide +kernel)⟩
theorem lv_X7_65 : LV RX7 65 yX7_weight := ⟨mt (i := 754) (by decide +kernel) (by decide +kernel), mt (i := 756) (by decide +kernel) (by decide +kernel), mt (i := 11) (by decide +kernel) (by decide +kernel)⟩
theorem lv_X7_79 : LV RX7 79 yX7_at := ⟨mt (i := 762) (by decide +kernel) (by decide +kernel), mt (i := 764) (by decide +kernel) (by decide +kernel), mt (i := 12) (by decide +kernel) (by decide +kernel)⟩
theorem lv_X7_82 : LV RX7 82 yX7_firstUse := ⟨mt (i := 766) (by decide +kernel) (by decide +kernel), mt (i := 768) (by decide +kernel) (by decide +kernel), mt (i := 13) (by decide +kernel) (by decide +kernel)⟩
theorem lv_X7_86 : LV RX7 86 yX7_add := ⟨mt (i := 770) (by decide +kernel) (by decide +kernel), mt (i := 772) (by decide +kernel) (by decide +kernel), mt (i := 14) (by decide +kernel) (by decide +kernel)⟩
theorem lv_X8_23 : LV RX8 23 yX4_clear := ⟨mt (i := 478) (by decide +kernel) (by decide +kernel), mt (i := 479) (by decide +kernel) (by decide +kernel), mt (i := 480) (by decide +kernel) (by decide +kernel)⟩
theorem lv_X8_39 : LV RX8 39 yX8_readItem := ⟨mt (i := 489) (by decide +kernel) (by decide +kernel), mt (i := 491) (by decide +kernel) (by decide +kernel), mt (i := 0) (by decide +kernel) (by decide +kernel)⟩
theorem lv_X8_43 : LV RX8 43 yX8_accept := ⟨mt (i := 497) (by decide +kernel) (by decide +kernel), mt (i := 499) (by decide +kernel) (by decide +kernel), mt (i := 2) (by decide +kernel) (by decide +kernel)⟩
theorem lv_X8_47 : LV RX8 47 yX8_readNumber := ⟨mt (i := 493) (by decide +kernel) (by decide +kernel), mt (i := 495) (by decide +kernel) (by decide +kernel), mt (i := 1) (by decide +kernel) (by decide +kernel)⟩
theorem lv_X8_50 : LV RX8 50 yX4_setNumbers := ⟨mt (i := 501) (by decide +kernel) (by decide +kernel), mt (i := 502) (by decide +kernel) (by decide +kernel), mt (i := 503) (by decide +kernel) (by decide +kernel)⟩
theorem lv_X8_53 : LV RX8 53 yX4_addPerson := ⟨mt (i := 505) (by decide +kernel) (by decide +kernel), mt (i := 506) (by decide +kernel) (by decide +kernel), mt (i := 507) (by decide +kernel) (by decide +kernel)⟩
theorem lv_X8_56 : LV RX8 56 yX4_setCost := ⟨mt (i := 509) (by decide +kernel) (by decide +kernel), mt (i := 510) (by decide +kernel) (by decide +kernel), mt (i := 511) (by decide +kernel) (by decide +kernel)⟩
theorem lv_X8_60 : LV RX8 60 yX4_setOwner := ⟨mt (i := 517) (by decide +kernel) (by decide +kernel), mt (i := 518) (by decide +kernel) (by decide +kernel), mt (i := 519) (by decide +kernel) (by decide +kernel)⟩
theorem lv_X8_63 : LV RX8 63 yX4_setLaw := ⟨mt (i := 525) (by decide +kernel) (by decide +kernel), mt (i := 483) (by decide +kernel) (by decide +kernel), mt (i := 484) (by decide +kernel) (by decide +kernel)⟩
theorem lv_X9_35 : LV RX9 35 yX9_join := ⟨mt (i := 897) (by decide +kernel) (by decide +kernel), mt (i := 899) (by decide +kernel) (by decide +kernel), mt (i := 19) (by decide +kernel) (by decide +kernel)⟩
end
section
def f_X0_append (h : Hp) (x0 : Nat) (x1 : Int32) : Option (Int32 × Hp) :=
  gd (kd x0 = 0) <|
  if (h.1 x0 0) < (6 : Int32) then
    gd (kd (h.2 x0 2) = 13) <|
    gd (inr (h.1 x0 0) (ln (h.2 x0 2)) = true) <|
    lt ((si h (h.2 x0 2) (h.1 x0 0).toNatClampNeg x1)) <| fun h3 =>
    lt ((si h3 x0 0 ((h3.1 x0 0) + (1 : Int32)))) <| fun h5 =>
    some ((1 : Int32), h5)
  else
    some ((0 : Int32), h)
def f_X0_inTwoRows_6 : Nat → Hp → Nat → Int32 → Int32 → Int32 → Option (Int32 × Hp)
  | 0 => fun _ _ _ _ _ => none
  | fu + 1 => fun h x0 x1 x2 x3 =>
    if (h.1 x0 0) ≤ x3 then
      some (x2, h)
    else
      gd (kd (h.2 x0 2) = 13) <|
      gd (inr x3 (ln (h.2 x0 2)) = true) <|
      gd (kd (h.2 x0 2) = 13) <|
      gd (inr x3 (ln (h.2 x0 2)) = true) <|
      f_X0_inTwoRows_6 fu h x0 (x1 ||| (h.1 (h.2 x0 2) x3.toNatClampNeg)) (x2 ||| (x1 &&& (h.1 (h.2 x0 2) x3.toNatClampNeg))) (x3 + (1 : Int32))
def f_X0_inTwoRows (h : Hp) (x0 : Nat) : Option (Int32 × Hp) :=
  gd (kd x0 = 0) <|
  f_X0_inTwoRows_6 FU h x0 (0 : Int32) (0 : Int32) (0 : Int32)
def f_X11_hasBit (h : Hp) (x0 : Int32) (x1 : Int32) : Option (Int32 × Hp) :=
  if ((x0 >>> (x1 &&& 31)) &&& (1 : Int32)) = 0 then
    some ((0 : Int32), h)
  else
    some ((1 : Int32), h)
def f_X0_readFrom_58 (rec : Hp → Nat → Int32 → Int32 → Option (Unit × Hp)) : Nat → Hp → Nat → Int32 → Int32 → Int32 → Option (Unit × Hp)
  | 0 => fun _ _ _ _ _ => none
  | fu + 1 => fun h x0 x1 x2 x3 =>
    if (6 : Int32) ≤ x3 then
      some ((), h)
    else
      gd (kd (h.2 x0 3) = 13) <|
      gd (inr x1 (ln (h.2 x0 3)) = true) <|
      bd (f_X11_hasBit h ((h.1 (h.2 x0 3) x1.toNatClampNeg) &&& (x2 ^^^ (-1 : Int32))) x3) <| fun r3 h4 =>
      if r3 = 0 then
        f_X0_readFrom_58 rec fu h4 x0 x1 x2 (x3 + (1 : Int32))
      else
        gd (kd (h4.2 x0 5) = 13) <|
        gd (inr x1 (ln (h4.2 x0 5)) = true) <|
        lt ((si h4 (h4.2 x0 5) x1.toNatClampNeg ((1 : Int32) <<< (x3 &&& 31)))) <| fun h8 =>
        bd (rec h8 x0 (x1 + (1 : Int32)) (x2 ||| ((1 : Int32) <<< (x3 &&& 31)))) <| fun r10 h11 =>
        f_X0_readFrom_58 rec fu h11 x0 x1 x2 (x3 + (1 : Int32))
def f_X0_readFrom_26 (rec : Hp → Nat → Int32 → Int32 → Option (Unit × Hp)) : Nat → Hp → Nat → Int32 → Option (Unit × Hp)
  | 0 => fun _ _ _ => none
  | fu + 1 => fun h x0 x3 =>
    if (h.1 x0 0) ≤ x3 then
      some ((), h)
    else
      gd (kd (h.2 x0 4) = 13) <|
      gd (inr x3 (ln (h.2 x0 4)) = true) <|
      gd (kd (h.2 x0 5) = 13) <|
      gd (inr x3 (ln (h.2 x0 5)) = true) <|
      gd (inr x3 (ln (h.2 x0 4)) = true) <|
      lt ((si h (h.2 x0 4) x3.toNatClampNeg ((h.1 (h.2 x0 4) x3.toNatClampNeg) ||| (h.1 (h.2 x0 5) x3.toNatClampNeg)))) <| fun h6 =>
      f_X0_readFrom_26 rec fu h6 x0 (x3 + (1 : Int32))
def f_X0_readFrom_14 (rec : Hp → Nat → Int32 → Int32 → Option (Unit × Hp)) (h : Hp) (x0 : Nat) : Option (Unit × Hp) :=
  lt ((si h x0 1 ((h.1 x0 1) + (1 : Int32)))) <| fun h1 =>
  f_X0_readFrom_26 rec FU h1 x0 (0 : Int32)
def f_X0_readFrom_body (rec : Hp → Nat → Int32 → Int32 → Option (Unit × Hp)) (h : Hp) (x0 : Nat) (x1 : Int32) (x2 : Int32) : Option (Unit × Hp) :=
  gd (kd x0 = 0) <|
  if (h.1 x0 0) ≤ x1 then
    f_X0_readFrom_14 rec h x0
  else
    if x1 < (6 : Int32) then
      f_X0_readFrom_58 rec FU h x0 x1 x2 (0 : Int32)
    else
      f_X0_readFrom_14 rec h x0
def f_X0_readFrom : Nat → Hp → Nat → Int32 → Int32 → Option (Unit × Hp)
  | 0 => fun _ _ _ _ => none
  | dd + 1 => f_X0_readFrom_body (f_X0_readFrom dd)
def f_X9_comingTo (h : Hp) (x0 : Nat) (x1 : Int32) : Option (Int32 × Hp) :=
  gd (kd x0 = 9) <|
  if x1 < 0 then
    some ((0 : Int32), h)
  else
    if x1 ≤ (h.1 x0 2) then
      gd (kd (h.2 x0 0) = 13) <|
      gd (inr ((300 : Int32) + x1) (ln (h.2 x0 0)) = true) <|
      some ((h.1 (h.2 x0 0) ((300 : Int32) + x1).toNatClampNeg), h)
    else
      some ((0 : Int32), h)
def f_J6_bitCount_0f7a4 (h : Hp) (x0 : Int32) : Option (Int32 × Hp) :=
  some (((((((((x0 - ((x0.toUInt32 >>> ((1 : Int32).toUInt32 &&& Int32.toUInt32 31)).toInt32 &&& (1431655765 : Int32))) &&& (858993459 : Int32)) + (((x0 - ((x0.toUInt32 >>> ((1 : Int32).toUInt32 &&& Int32.toUInt32 31)).toInt32 &&& (1431655765 : Int32))).toUInt32 >>> ((2 : Int32).toUInt32 &&& Int32.toUInt32 31)).toInt32 &&& (858993459 : Int32))) + ((((x0 - ((x0.toUInt32 >>> ((1 : Int32).toUInt32 &&& Int32.toUInt32 31)).toInt32 &&& (1431655765 : Int32))) &&& (858993459 : Int32)) + (((x0 - ((x0.toUInt32 >>> ((1 : Int32).toUInt32 &&& Int32.toUInt32 31)).toInt32 &&& (1431655765 : Int32))).toUInt32 >>> ((2 : Int32).toUInt32 &&& Int32.toUInt32 31)).toInt32 &&& (858993459 : Int32))).toUInt32 >>> ((4 : Int32).toUInt32 &&& Int32.toUInt32 31)).toInt32) &&& (252645135 : Int32)) + ((((((x0 - ((x0.toUInt32 >>> ((1 : Int32).toUInt32 &&& Int32.toUInt32 31)).toInt32 &&& (1431655765 : Int32))) &&& (858993459 : Int32)) + (((x0 - ((x0.toUInt32 >>> ((1 : Int32).toUInt32 &&& Int32.toUInt32 31)).toInt32 &&& (1431655765 : Int32))).toUInt32 >>> ((2 : Int32).toUInt32 &&& Int32.toUInt32 31)).toInt32 &&& (858993459 : Int32))) + ((((x0 - ((x0.toUInt32 >>> ((1 : Int32).toUInt32 &&& Int32.toUInt32 31)).toInt32 &&& (1431655765 : Int32))) &&& (858993459 : Int32)) + (((x0 - ((x0.toUInt32 >>> ((1 : Int32).toUInt32 &&& Int32.toUInt32 31)).toInt32 &&& (1431655765 : Int32))).toUInt32 >>> ((2 : Int32).toUInt32 &&& Int32.toUInt32 31)).toInt32 &&& (858993459 : Int32))).toUInt32 >>> ((4 : Int32).toUInt32 &&& Int32.toUInt32 31)).toInt32) &&& (252645135 : Int32)).toUInt32 >>> ((8 : Int32).toUInt32 &&& Int32.toUInt32 31)).toInt32) + (((((((x0 - ((x0.toUInt32 >>> ((1 : Int32).toUInt32 &&& Int32.toUInt32 31)).toInt32 &&& (1431655765 : Int32))) &&& (858993459 : Int32)) + (((x0 - ((x0.toUInt32 >>> ((1 : Int32).toUInt32 &&& Int32.toUInt32 31)).toInt32 &&& (1431655765 : Int32))).toUInt32 >>> ((2 : Int32).toUInt32 &&& Int32.toUInt32 31)).toInt32 &&& (858993459 : Int32))) + ((((x0 - ((x0.toUInt32 >>> ((1 : Int32).toUInt32 &&& Int32.toUInt32 31)).toInt32 &&& (1431655765 : Int32))) &&& (858993459 : Int32)) + (((x0 - ((x0.toUInt32 >>> ((1 : Int32).toUInt32 &&& Int32.toUInt32 31)).toInt32 &&& (1431655765 : Int32))).toUInt32 >>> ((2 : Int32).toUInt32 &&& Int32.toUInt32 31)).toInt32 &&& (858993459 : Int32))).toUInt32 >>> ((4 : Int32).toUInt32 &&& Int32.toUInt32 31)).toInt32) &&& (252645135 : Int32)) + ((((((x0 - ((x0.toUInt32 >>> ((1 : Int32).toUInt32 &&& Int32.toUInt32 31)).toInt32 &&& (1431655765 : Int32))) &&& (858993459 : Int32)) + (((x0 - ((x0.toUInt32 >>> ((1 : Int32).toUInt32 &&& Int32.toUInt32 31)).toInt32 &&& (1431655765 : Int32))).toUInt32 >>> ((2 : Int32).toUInt32 &&& Int32.toUInt32 31)).toInt32 &&& (858993459 : Int32))) + ((((x0 - ((x0.toUInt32 >>> ((1 : Int32).toUInt32 &&& Int32.toUInt32 31)).toInt32 &&& (1431655765 : Int32))) &&& (858993459 : Int32)) + (((x0 - ((x0.toUInt32 >>> ((1 : Int32).toUInt32 &&& Int32.toUInt32 31)).toInt32 &&& (1431655765 : Int32))).toUInt32 >>> ((2 : Int32).toUInt32 &&& Int32.toUInt32 31)).toInt32 &&& (858993459 : Int32))).toUInt32 >>> ((4 : Int32).toUInt32 &&& Int32.toUInt32 31)).toInt32) &&& (252645135 : Int32)).toUInt32 >>> ((8 : Int32).toUInt32 &&& Int32.toUInt32 31)).toInt32).toUInt32 >>> ((16 : Int32).toUInt32 &&& Int32.toUInt32 31)).toInt32) &&& (63 : Int32)), h)
def f_X11_lastUse (h : Hp) (x0 : Int32) : Option (Int32 × Hp) :=
  if x0 = (3 : Int32) then
    some ((3 : Int32), h)
  else
    if x0 = (2 : Int32) then
      some ((2 : Int32), h)
    else
      some ((1 : Int32), h)
def f_X11_canStand (h : Hp) (x0 : Int32) (x1 : Int32) : Option (Int32 × Hp) :=
  if x1 = (3 : Int32) then
    if (x0 - x0 / (2 : Int32) * (2 : Int32)) = 0 then
      some ((1 : Int32), h)
    else
      some ((0 : Int32), h)
  else
    some ((1 : Int32), h)
def f_X11_countsAs (h : Hp) (x0 : Int32) (x1 : Int32) : Option (Int32 × Hp) :=
  if x1 = (1 : Int32) then
    some (x0, h)
  else
    if x1 = (2 : Int32) then
      some ((-x0), h)
    else
      some ((x0 / (2 : Int32)), h)
def f_X9_join_65 (k44 : Hp → Nat → Int32 → Int32 → Int32 → Int32 → Option (Unit × Hp)) : Nat → Hp → Nat → Int32 → Int32 → Int32 → Int32 → Int32 → Int32 → Option (Unit × Hp)
  | 0 => fun _ _ _ _ _ _ _ _ => none
  | fu + 1 => fun h x0 x1 x2 x3 x4 x5 x6 =>
    if (h.1 x0 2) < x6 then
      k44 h x0 x1 x2 x3 (x4 + (1 : Int32))
    else
      bd (f_X11_canStand h x1 x4) <| fun r1 h2 =>
      if r1 = 0 then
        k44 h2 x0 x1 x2 x3 (x4 + (1 : Int32))
      else
        gd (kd (h2.2 x0 1) = 13) <|
        gd (inr (((300 : Int32) + x6) + x5) (ln (h2.2 x0 1)) = true) <|
        gd (kd (h2.2 x0 0) = 13) <|
        gd (inr ((300 : Int32) + x6) (ln (h2.2 x0 0)) = true) <|
        gd (inr (((300 : Int32) + x6) + x5) (ln (h2.2 x0 1)) = true) <|
        lt ((si h2 (h2.2 x0 1) (((300 : Int32) + x6) + x5).toNatClampNeg ((h2.1 (h2.2 x0 1) (((300 : Int32) + x6) + x5).toNatClampNeg) + (h2.1 (h2.2 x0 0) ((300 : Int32) + x6).toNatClampNeg)))) <| fun h9 =>
        f_X9_join_65 k44 fu h9 x0 x1 x2 x3 x4 x5 (x6 + (1 : Int32))
def f_X9_join_44 : Nat → Hp → Nat → Int32 → Int32 → Int32 → Int32 → Option (Unit × Hp)
  | 0 => fun _ _ _ _ _ _ => none
  | fu + 1 => fun h x0 x1 x2 x3 x4 =>
    if x2 < x4 then
      gd (kd (h.2 x0 0) = 13) <|
      gd (kd (h.2 x0 1) = 13) <|
      lt ((sr h x0 0 (h.2 x0 1))) <| fun h3 =>
      lt ((sr h3 x0 1 (h.2 x0 0))) <| fun h5 =>
      lt ((si h5 x0 2 x3)) <| fun h7 =>
      some ((), h7)
    else
      bd (f_X11_countsAs h x1 x4) <| fun r9 h10 =>
      f_X9_join_65 (f_X9_join_44 fu) FU h10 x0 x1 x2 x3 x4 r9 (-(h10.1 x0 2))
def f_X9_join_17 : Nat → Hp → Nat → Int32 → Int32 → Int32 → Int32 → Option (Unit × Hp)
  | 0 => fun _ _ _ _ _ _ => none
  | fu + 1 => fun h x0 x1 x2 x3 x4 =>
    if x3 < x4 then
      f_X9_join_44 FU h x0 x1 x2 x3 (1 : Int32)
    else
      gd (kd (h.2 x0 1) = 13) <|
      gd (inr ((300 : Int32) + x4) (ln (h.2 x0 1)) = true) <|
      lt ((si h (h.2 x0 1) ((300 : Int32) + x4).toNatClampNeg (0 : Int32))) <| fun h3 =>
      f_X9_join_17 fu h3 x0 x1 x2 x3 (x4 + (1 : Int32))
def f_X9_join (h : Hp) (x0 : Nat) (x1 : Int32) (x2 : Int32) : Option (Unit × Hp) :=
  gd (kd x0 = 9) <|
  f_X9_join_17 FU h x0 x1 x2 (if (300 : Int32) < ((h.1 x0 2) + x1) then (300 : Int32) else ((h.1 x0 2) + x1)) (-(if (300 : Int32) < ((h.1 x0 2) + x1) then (300 : Int32) else ((h.1 x0 2) + x1)))
def f_X9_reckon_32 : Nat → Hp → Nat → Int32 → Int32 → Int32 → Option (Unit × Hp)
  | 0 => fun _ _ _ _ _ => none
  | fu + 1 => fun h x0 x1 x2 x3 =>
    if (24 : Int32) < x3 then
      some ((), h)
    else
      bd (f_X11_hasBit h x1 (x3 - (1 : Int32))) <| fun r1 h2 =>
      if r1 = 0 then
        f_X9_reckon_32 fu h2 x0 x1 x2 (x3 + (1 : Int32))
      else
        bd (f_X11_lastUse h2 x2) <| fun r4 h5 =>
        bd (f_X9_join h5 x0 x3 r4) <| fun r7 h8 =>
        f_X9_reckon_32 fu h8 x0 x1 x2 (x3 + (1 : Int32))
def f_X9_reckon_29 (h : Hp) (x0 : Nat) (x1 : Int32) (x2 : Int32) (t0 : Nat) (t1 : Int32) (t2 : Int32) : Option (Unit × Hp) :=
  gd (inr t1 (ln t0) = true) <|
  lt ((si h t0 t1.toNatClampNeg t2)) <| fun h2 =>
  f_X9_reckon_32 FU h2 x0 x1 x2 (1 : Int32)
def f_X9_reckon_28 (h : Hp) (x0 : Nat) (x1 : Int32) (x2 : Int32) (t0 : Nat) (t1 : Int32) : Option (Unit × Hp) :=
  f_X9_reckon_29 h x0 x1 x2 t0 t1 (1 : Int32)
def f_X9_reckon (h : Hp) (x0 : Nat) (x1 : Int32) (x2 : Int32) : Option (Unit × Hp) :=
  gd (kd x0 = 9) <|
  lt ((si h x0 2 (0 : Int32))) <| fun h1 =>
  gd (kd (h1.2 x0 0) = 13) <|
  if x2 = 0 then
    bd (f_J6_bitCount_0f7a4 h1 x1) <| fun r4 h5 =>
    if r4 = (1 : Int32) then
      f_X9_reckon_28 h5 x0 x1 x2 (h1.2 x0 0) (300 : Int32)
    else
      f_X9_reckon_29 h5 x0 x1 x2 (h1.2 x0 0) (300 : Int32) (0 : Int32)
  else
    f_X9_reckon_28 h1 x0 x1 x2 (h1.2 x0 0) (300 : Int32)
def f_X0_read_79 (k2 : Hp → Nat → Nat → Nat → Int32 → Option (Unit × Hp)) (k41 : Hp → Nat → Nat → Nat → Int32 → Int32 → Option (Unit × Hp)) (h : Hp) (x0 : Nat) (x1 : Nat) (x2 : Nat) (x3 : Int32) (x4 : Int32) (t0 : Nat) (t1 : Int32) (t2 : Int32) (t3 : Int32) : Option (Unit × Hp) :=
  gd (inr t1 (ln t0) = true) <|
  lt ((si h t0 t1.toNatClampNeg (t2 ||| t3))) <| fun h2 =>
  k41 h2 x0 x1 x2 x3 (x4 + (1 : Int32))
def f_X0_read_41 (k2 : Hp → Nat → Nat → Nat → Int32 → Option (Unit × Hp)) : Nat → Hp → Nat → Nat → Nat → Int32 → Int32 → Option (Unit × Hp)
  | 0 => fun _ _ _ _ _ _ => none
  | fu + 1 => fun h x0 x1 x2 x3 x4 =>
    if (h.1 x1 1) ≤ x4 then
      k2 h x0 x1 x2 (x3 + (1 : Int32))
    else
      gd (kd (h.2 x0 3) = 13) <|
      gd (inr x3 (ln (h.2 x0 3)) = true) <|
      gd (kd (h.2 x1 7) = 13) <|
      gd (inr x4 (ln (h.2 x1 7)) = true) <|
      bd (f_X9_comingTo h x2 (h.1 (h.2 x1 7) x4.toNatClampNeg)) <| fun r5 h6 =>
      if r5 ≤ 0 then
        f_X0_read_79 k2 (f_X0_read_41 k2 fu) h6 x0 x1 x2 x3 x4 (h.2 x0 3) x3 (h.1 (h.2 x0 3) x3.toNatClampNeg) (0 : Int32)
      else
        f_X0_read_79 k2 (f_X0_read_41 k2 fu) h6 x0 x1 x2 x3 x4 (h.2 x0 3) x3 (h.1 (h.2 x0 3) x3.toNatClampNeg) ((1 : Int32) <<< (x4 &&& 31))
def f_X0_read_2 : Nat → Hp → Nat → Nat → Nat → Int32 → Option (Unit × Hp)
  | 0 => fun _ _ _ _ _ => none
  | fu + 1 => fun h x0 x1 x2 x3 =>
    if (h.1 x0 0) ≤ x3 then
      lt ((si h x0 1 (0 : Int32))) <| fun h1 =>
      bd (f_X0_readFrom 8 h1 x0 (0 : Int32) (0 : Int32)) <| fun r3 h4 =>
      some ((), h4)
    else
      gd (kd (h.2 x0 2) = 13) <|
      gd (inr x3 (ln (h.2 x0 2)) = true) <|
      bd (f_X9_reckon h x2 (h.1 (h.2 x0 2) x3.toNatClampNeg) (h.1 x1 2)) <| fun r8 h9 =>
      gd (kd (h9.2 x0 3) = 13) <|
      gd (inr x3 (ln (h9.2 x0 3)) = true) <|
      lt ((si h9 (h9.2 x0 3) x3.toNatClampNeg (0 : Int32))) <| fun h13 =>
      gd (kd (h13.2 x0 4) = 13) <|
      gd (inr x3 (ln (h13.2 x0 4)) = true) <|
      lt ((si h13 (h13.2 x0 4) x3.toNatClampNeg (0 : Int32))) <| fun h17 =>
      f_X0_read_41 (f_X0_read_2 fu) FU h17 x0 x1 x2 x3 (0 : Int32)
def f_X0_read (h : Hp) (x0 : Nat) (x1 : Nat) (x2 : Nat) : Option (Unit × Hp) :=
  gd (kd x0 = 0) <|
  gd (kd x1 = 4) <|
  gd (kd x2 = 9) <|
  f_X0_read_2 FU h x0 x1 x2 (0 : Int32)
def f_X11_firstBit_2 : Nat → Hp → Int32 → Int32 → Option (Int32 × Hp)
  | 0 => fun _ _ _ => none
  | fu + 1 => fun h x0 x1 =>
    if (24 : Int32) ≤ x1 then
      some (x1, h)
    else
      bd (f_X11_hasBit h x0 x1) <| fun r1 h2 =>
      if r1 = 0 then
        f_X11_firstBit_2 fu h2 x0 (x1 + (1 : Int32))
      else
        some (x1, h2)
def f_X11_firstBit (h : Hp) (x0 : Int32) : Option (Int32 × Hp) :=
  f_X11_firstBit_2 FU h x0 (0 : Int32)
def f_X0_surePerson (h : Hp) (x0 : Nat) (x1 : Int32) : Option (Int32 × Hp) :=
  gd (kd x0 = 0) <|
  if x1 < 0 then
    some ((-4 : Int32), h)
  else
    if (h.1 x0 0) ≤ x1 then
      some ((-4 : Int32), h)
    else
      gd (kd (h.2 x0 4) = 13) <|
      gd (inr x1 (ln (h.2 x0 4)) = true) <|
      bd (f_J6_bitCount_0f7a4 h (h.1 (h.2 x0 4) x1.toNatClampNeg)) <| fun r3 h4 =>
      if r3 = (1 : Int32) then
        gd (kd (h4.2 x0 4) = 13) <|
        gd (inr x1 (ln (h4.2 x0 4)) = true) <|
        bd (f_X11_firstBit h4 (h4.1 (h4.2 x0 4) x1.toNatClampNeg)) <| fun r8 h9 =>
        some (r8, h9)
      else
        some ((-4 : Int32), h4)
def f_X5_oneOf (h : Hp) (x0 : Int32) : Option (Int32 × Hp) :=
  if x0 ≤ (24 : Int32) then
    some (((1 : Int32) <<< ((x0 - (1 : Int32)) &&& 31)), h)
  else
    some ((0 : Int32), h)
def f_X5_used (h : Hp) (x0 : Nat) (x1 : Int32) : Option (Int32 × Hp) :=
  gd (kd x0 = 5) <|
  gd (kd (h.2 x0 3) = 13) <|
  gd (inr x1 (ln (h.2 x0 3)) = true) <|
  gd (kd (h.2 x0 4) = 13) <|
  gd (inr x1 (ln (h.2 x0 4)) = true) <|
  gd (kd (h.2 x0 5) = 13) <|
  gd (inr x1 (ln (h.2 x0 5)) = true) <|
  some ((((h.1 (h.2 x0 3) x1.toNatClampNeg) ||| (h.1 (h.2 x0 4) x1.toNatClampNeg)) ||| (h.1 (h.2 x0 5) x1.toNatClampNeg)), h)
def f_X7_listNumbers_7 : Nat → Hp → Nat → Int32 → Option (Unit × Hp)
  | 0 => fun _ _ _ => none
  | fu + 1 => fun h x0 x1 =>
    if (24 : Int32) < x1 then
      some ((), h)
    else
      bd (f_X11_hasBit h (h.1 x0 10) (x1 - (1 : Int32))) <| fun r1 h2 =>
      if r1 = 0 then
        f_X7_listNumbers_7 fu h2 x0 (x1 + (1 : Int32))
      else
        gd (kd (h2.2 x0 7) = 13) <|
        gd (inr (h2.1 x0 9) (ln (h2.2 x0 7)) = true) <|
        lt ((si h2 (h2.2 x0 7) (h2.1 x0 9).toNatClampNeg x1)) <| fun h6 =>
        lt ((si h6 x0 9 ((h6.1 x0 9) + (1 : Int32)))) <| fun h8 =>
        f_X7_listNumbers_7 fu h8 x0 (x1 + (1 : Int32))
def f_X7_listNumbers (h : Hp) (x0 : Nat) : Option (Unit × Hp) :=
  gd (kd x0 = 7) <|
  lt ((si h x0 9 (0 : Int32))) <| fun h1 =>
  f_X7_listNumbers_7 FU h1 x0 (1 : Int32)
def f_X7_setBounds_101 (k49 : Hp → Nat → Int32 → Int32 → Int32 → Int32 → Option (Unit × Hp)) (h : Hp) (x0 : Nat) (x1 : Int32) (x2 : Int32) (x3 : Int32) (x4 : Int32) (t0 : Nat) (t1 : Int32) (t2 : Int32) (t3 : Int32) : Option (Unit × Hp) :=
  gd (inr t1 (ln t0) = true) <|
  lt ((si h t0 t1.toNatClampNeg (if t3 < t2 then t3 else t2))) <| fun h2 =>
  if (h2.1 x0 9) ≤ x4 then
    k49 h2 x0 x1 x2 x3 (x4 + (1 : Int32))
  else
    gd (kd (h2.2 x0 7) = 13) <|
    gd (inr x4 (ln (h2.2 x0 7)) = true) <|
    gd (kd (h2.2 x0 7) = 13) <|
    gd (inr x4 (ln (h2.2 x0 7)) = true) <|
    k49 h2 x0 x1 (x2 - (h2.1 (h2.2 x0 7) x4.toNatClampNeg)) (x3 + (h2.1 (h2.2 x0 7) x4.toNatClampNeg)) (x4 + (1 : Int32))
def f_X7_setBounds_80 (k49 : Hp → Nat → Int32 → Int32 → Int32 → Int32 → Option (Unit × Hp)) (h : Hp) (x0 : Nat) (x1 : Int32) (x2 : Int32) (x3 : Int32) (x4 : Int32) (t0 : Nat) (t1 : Int32) (t2 : Int32) : Option (Unit × Hp) :=
  gd (inr t1 (ln t0) = true) <|
  lt ((si h t0 t1.toNatClampNeg t2)) <| fun h2 =>
  gd (kd (h2.2 x0 6) = 13) <|
  if x1 = 0 then
    f_X7_setBounds_101 k49 h2 x0 x1 x2 x3 x4 (h2.2 x0 6) x4 x2 (99 : Int32)
  else
    f_X7_setBounds_101 k49 h2 x0 x1 x2 x3 x4 (h2.2 x0 6) x4 x2 ((99 : Int32) + x3)
def f_X7_setBounds_49 : Nat → Hp → Nat → Int32 → Int32 → Int32 → Int32 → Option (Unit × Hp)
  | 0 => fun _ _ _ _ _ _ => none
  | fu + 1 => fun h x0 x1 x2 x3 x4 =>
    if (h.1 x0 9) < x4 then
      some ((), h)
    else
      gd (kd (h.2 x0 5) = 13) <|
      if x1 = 0 then
        f_X7_setBounds_80 (f_X7_setBounds_49 fu) h x0 x1 x2 x3 x4 (h.2 x0 5) x4 (0 : Int32)
      else
        f_X7_setBounds_80 (f_X7_setBounds_49 fu) h x0 x1 x2 x3 x4 (h.2 x0 5) x4 (if (-x2) < ((1 : Int32) - x3) then ((1 : Int32) - x3) else (-x2))
def f_X7_setBounds_21 : Nat → Hp → Nat → Int32 → Int32 → Int32 → Int32 → Option (Unit × Hp)
  | 0 => fun _ _ _ _ _ _ => none
  | fu + 1 => fun h x0 x1 x2 x3 x4 =>
    if (h.1 x0 9) ≤ x4 then
      f_X7_setBounds_49 FU h x0 x1 x2 x3 (0 : Int32)
    else
      gd (kd (h.2 x0 7) = 13) <|
      gd (inr x4 (ln (h.2 x0 7)) = true) <|
      f_X7_setBounds_21 fu h x0 x1 (x2 + (h.1 (h.2 x0 7) x4.toNatClampNeg)) x3 (x4 + (1 : Int32))
def f_X7_setBounds_13 (h : Hp) (x0 : Nat) (t0 : Int32) : Option (Unit × Hp) :=
  f_X7_setBounds_21 FU h x0 t0 (0 : Int32) (0 : Int32) (0 : Int32)
def f_X7_setBounds (h : Hp) (x0 : Nat) : Option (Unit × Hp) :=
  gd (kd x0 = 7) <|
  if (h.1 x0 11) < (2 : Int32) then
    f_X7_setBounds_13 h x0 (0 : Int32)
  else
    f_X7_setBounds_13 h x0 (1 : Int32)
def f_X7_spread_63 : Nat → Hp → Nat → Int32 → Int32 → Int32 → Int32 → Int32 → Option (Unit × Hp)
  | 0 => fun _ _ _ _ _ _ _ => none
  | fu + 1 => fun h x0 x3 x4 x5 x6 x7 =>
    if x4 < x7 then
      some ((), h)
    else
      gd (kd (h.2 x0 4) = 13) <|
      gd (inr (x6 + x7) (ln (h.2 x0 4)) = true) <|
      gd (kd (h.2 x0 4) = 13) <|
      gd (inr (x5 + x7) (ln (h.2 x0 4)) = true) <|
      if (h.1 (h.2 x0 4) (x5 + x7).toNatClampNeg) ≤ ((h.1 (h.2 x0 4) (x6 + x7).toNatClampNeg) + x3) then
        f_X7_spread_63 fu h x0 x3 x4 x5 x6 (x7 + (1 : Int32))
      else
        gd (kd (h.2 x0 4) = 13) <|
        gd (inr (x5 + x7) (ln (h.2 x0 4)) = true) <|
        lt ((si h (h.2 x0 4) (x5 + x7).toNatClampNeg ((h.1 (h.2 x0 4) (x6 + x7).toNatClampNeg) + x3))) <| fun h7 =>
        f_X7_spread_63 fu h7 x0 x3 x4 x5 x6 (x7 + (1 : Int32))
def f_X7_spread (h : Hp) (x0 : Nat) (x1 : Int32) (x2 : Int32) (x3 : Int32) : Option (Unit × Hp) :=
  gd (kd x0 = 7) <|
  gd (kd (h.2 x0 6) = 13) <|
  gd (inr x1 (ln (h.2 x0 6)) = true) <|
  gd (kd (h.2 x0 6) = 13) <|
  gd (inr (x1 + (1 : Int32)) (ln (h.2 x0 6)) = true) <|
  gd (kd (h.2 x0 5) = 13) <|
  gd (inr x1 (ln (h.2 x0 5)) = true) <|
  gd (kd (h.2 x0 5) = 13) <|
  gd (inr (x1 + (1 : Int32)) (ln (h.2 x0 5)) = true) <|
  f_X7_spread_63 FU h x0 x3 (if ((h.1 (h.2 x0 6) (x1 + (1 : Int32)).toNatClampNeg) + x2) < (h.1 (h.2 x0 6) x1.toNatClampNeg) then ((h.1 (h.2 x0 6) (x1 + (1 : Int32)).toNatClampNeg) + x2) else (h.1 (h.2 x0 6) x1.toNatClampNeg)) ((x1 * (601 : Int32)) + (300 : Int32)) ((((x1 * (601 : Int32)) + (300 : Int32)) + (601 : Int32)) - x2) (if (h.1 (h.2 x0 5) x1.toNatClampNeg) < ((h.1 (h.2 x0 5) (x1 + (1 : Int32)).toNatClampNeg) + x2) then ((h.1 (h.2 x0 5) (x1 + (1 : Int32)).toNatClampNeg) + x2) else (h.1 (h.2 x0 5) x1.toNatClampNeg))
def f_X7_weight (h : Hp) (x0 : Nat) (x1 : Int32) (x2 : Int32) : Option (Int32 × Hp) :=
  gd (kd x0 = 7) <|
  gd (kd (h.2 x0 8) = 13) <|
  gd (inr ((x2 * (25 : Int32)) + x1) (ln (h.2 x0 8)) = true) <|
  some (((1000 : Int32) + (h.1 (h.2 x0 8) ((x2 * (25 : Int32)) + x1).toNatClampNeg)), h)
def f_X7_build_126 (k60 : Hp → Nat → Int32 → Int32 → Option (Unit × Hp)) : Nat → Hp → Nat → Int32 → Int32 → Int32 → Int32 → Option (Unit × Hp)
  | 0 => fun _ _ _ _ _ _ => none
  | fu + 1 => fun h x0 x2 x3 x4 x5 =>
    bd (f_X11_lastUse h x2) <| fun r1 h2 =>
    if r1 < x5 then
      k60 h2 x0 x2 (x3 + (-1 : Int32))
    else
      bd (f_X11_canStand h2 x4 x5) <| fun r4 h5 =>
      if r4 = 0 then
        f_X7_build_126 k60 fu h5 x0 x2 x3 x4 (x5 + (1 : Int32))
      else
        bd (f_X11_countsAs h5 x4 x5) <| fun r7 h8 =>
        bd (f_X7_weight h8 x0 x4 x5) <| fun r10 h11 =>
        bd (f_X7_spread h11 x0 x3 r7 r10) <| fun r13 h14 =>
        f_X7_build_126 k60 fu h14 x0 x2 x3 x4 (x5 + (1 : Int32))
def f_X7_build_72 (k60 : Hp → Nat → Int32 → Int32 → Option (Unit × Hp)) : Nat → Hp → Nat → Int32 → Int32 → Int32 → Option (Unit × Hp)
  | 0 => fun _ _ _ _ _ => none
  | fu + 1 => fun h x0 x2 x3 x4 =>
    gd (kd (h.2 x0 6) = 13) <|
    gd (inr x3 (ln (h.2 x0 6)) = true) <|
    if (h.1 (h.2 x0 6) x3.toNatClampNeg) < x4 then
      bd (f_X7_spread h x0 x3 (0 : Int32) (0 : Int32)) <| fun r3 h4 =>
      gd (kd (h4.2 x0 7) = 13) <|
      gd (inr x3 (ln (h4.2 x0 7)) = true) <|
      f_X7_build_126 k60 FU h4 x0 x2 x3 (h4.1 (h4.2 x0 7) x3.toNatClampNeg) (1 : Int32)
    else
      gd (kd (h.2 x0 4) = 13) <|
      gd (inr (((x3 * (601 : Int32)) + (300 : Int32)) + x4) (ln (h.2 x0 4)) = true) <|
      lt ((si h (h.2 x0 4) (((x3 * (601 : Int32)) + (300 : Int32)) + x4).toNatClampNeg (1000000 : Int32))) <| fun h10 =>
      f_X7_build_72 k60 fu h10 x0 x2 x3 (x4 + (1 : Int32))
def f_X7_build_60 : Nat → Hp → Nat → Int32 → Int32 → Option (Unit × Hp)
  | 0 => fun _ _ _ _ => none
  | fu + 1 => fun h x0 x2 x3 =>
    if x3 < 0 then
      some ((), h)
    else
      gd (kd (h.2 x0 5) = 13) <|
      gd (inr x3 (ln (h.2 x0 5)) = true) <|
      f_X7_build_72 (f_X7_build_60 fu) FU h x0 x2 x3 (h.1 (h.2 x0 5) x3.toNatClampNeg)
def f_X7_build_17 (h : Hp) (x0 : Nat) (x1 : Int32) (x2 : Int32) : Option (Unit × Hp) :=
  lt ((si h x0 11 x2)) <| fun h1 =>
  lt ((si h1 x0 10 x1)) <| fun h3 =>
  bd (f_X7_listNumbers h3 x0) <| fun r5 h6 =>
  bd (f_X7_setBounds h6 x0) <| fun r8 h9 =>
  gd (kd (h9.2 x0 4) = 13) <|
  gd (inr (((h9.1 x0 9) * (601 : Int32)) + (300 : Int32)) (ln (h9.2 x0 4)) = true) <|
  lt ((si h9 (h9.2 x0 4) (((h9.1 x0 9) * (601 : Int32)) + (300 : Int32)).toNatClampNeg (0 : Int32))) <| fun h13 =>
  f_X7_build_60 FU h13 x0 x2 ((h13.1 x0 9) - (1 : Int32))
def f_X7_build (h : Hp) (x0 : Nat) (x1 : Int32) (x2 : Int32) : Option (Unit × Hp) :=
  gd (kd x0 = 7) <|
  if x2 = (h.1 x0 11) then
    if x1 = (h.1 x0 10) then
      some ((), h)
    else
      f_X7_build_17 h x0 x1 x2
  else
    f_X7_build_17 h x0 x1 x2
def f_X7_add_59 (h : Hp) (x0 : Nat) (x1 : Int32) (x2 : Int32) (t0 : Nat) (t1 : Int32) (t2 : Int32) : Option (Unit × Hp) :=
  lt ((si h t0 2 (t1 ||| t2))) <| fun h1 =>
  bd (f_X7_weight h1 x0 x1 x2) <| fun r3 h4 =>
  lt ((si h4 x0 3 ((h1.1 x0 3) + (r3 - (1000 : Int32))))) <| fun h6 =>
  some ((), h6)
def f_X7_add_40 (h : Hp) (x0 : Nat) (x1 : Int32) (x2 : Int32) (x3 : Int32) (t0 : Nat) (t1 : Int32) (t2 : Int32) : Option (Unit × Hp) :=
  lt ((si h t0 1 (t1 ||| t2))) <| fun h1 =>
  if x2 = (3 : Int32) then
    f_X7_add_59 h1 x0 x1 x2 x0 (h1.1 x0 2) x3
  else
    f_X7_add_59 h1 x0 x1 x2 x0 (h1.1 x0 2) (0 : Int32)
def f_X7_add_21 (h : Hp) (x0 : Nat) (x1 : Int32) (x2 : Int32) (x3 : Int32) (t0 : Nat) (t1 : Int32) (t2 : Int32) : Option (Unit × Hp) :=
  lt ((si h t0 0 (t1 ||| t2))) <| fun h1 =>
  if x2 = (2 : Int32) then
    f_X7_add_40 h1 x0 x1 x2 x3 x0 (h1.1 x0 1) x3
  else
    f_X7_add_40 h1 x0 x1 x2 x3 x0 (h1.1 x0 1) (0 : Int32)
def f_X7_add (h : Hp) (x0 : Nat) (x1 : Int32) (x2 : Int32) : Option (Unit × Hp) :=
  gd (kd x0 = 7) <|
  if x2 = (1 : Int32) then
    f_X7_add_21 h x0 x1 x2 ((1 : Int32) <<< ((x1 - (1 : Int32)) &&& 31)) x0 (h.1 x0 0) ((1 : Int32) <<< ((x1 - (1 : Int32)) &&& 31))
  else
    f_X7_add_21 h x0 x1 x2 ((1 : Int32) <<< ((x1 - (1 : Int32)) &&& 31)) x0 (h.1 x0 0) (0 : Int32)
def f_X7_at (h : Hp) (x0 : Nat) (x1 : Int32) (x2 : Int32) : Option (Int32 × Hp) :=
  gd (kd x0 = 7) <|
  gd (kd (h.2 x0 5) = 13) <|
  gd (inr x1 (ln (h.2 x0 5)) = true) <|
  if x2 < (h.1 (h.2 x0 5) x1.toNatClampNeg) then
    some ((1000000 : Int32), h)
  else
    gd (kd (h.2 x0 6) = 13) <|
    gd (inr x1 (ln (h.2 x0 6)) = true) <|
    if x2 ≤ (h.1 (h.2 x0 6) x1.toNatClampNeg) then
      gd (kd (h.2 x0 4) = 13) <|
      gd (inr (((x1 * (601 : Int32)) + (300 : Int32)) + x2) (ln (h.2 x0 4)) = true) <|
      some ((h.1 (h.2 x0 4) (((x1 * (601 : Int32)) + (300 : Int32)) + x2).toNatClampNeg), h)
    else
      some ((1000000 : Int32), h)
def f_X7_firstUse_11 : Nat → Hp → Nat → Int32 → Int32 → Int32 → Int32 → Int32 → Option (Int32 × Hp)
  | 0 => fun _ _ _ _ _ _ _ => none
  | fu + 1 => fun h x0 x1 x2 x3 x4 x5 =>
    bd (f_X11_lastUse h (h.1 x0 11)) <| fun r1 h2 =>
    if r1 < x5 then
      some ((0 : Int32), h2)
    else
      bd (f_X11_canStand h2 x4 x5) <| fun r4 h5 =>
      if r4 = 0 then
        f_X7_firstUse_11 fu h5 x0 x1 x2 x3 x4 (x5 + (1 : Int32))
      else
        bd (f_X11_countsAs h5 x4 x5) <| fun r7 h8 =>
        bd (f_X7_at h8 x0 (x1 + (1 : Int32)) (x2 - r7)) <| fun r10 h11 =>
        bd (f_X7_weight h11 x0 x4 x5) <| fun r13 h14 =>
        if (r10 + r13) = x3 then
          some (x5, h14)
        else
          f_X7_firstUse_11 fu h14 x0 x1 x2 x3 x4 (x5 + (1 : Int32))
def f_X7_firstUse (h : Hp) (x0 : Nat) (x1 : Int32) (x2 : Int32) (x3 : Int32) : Option (Int32 × Hp) :=
  gd (kd x0 = 7) <|
  gd (kd (h.2 x0 7) = 13) <|
  gd (inr x1 (ln (h.2 x0 7)) = true) <|
  f_X7_firstUse_11 FU h x0 x1 x2 x3 (h.1 (h.2 x0 7) x1.toNatClampNeg) (1 : Int32)
def f_X7_pick_90 (k32 : Hp → Nat → Int32 → Int32 → Int32 → Option (Unit × Hp)) (h : Hp) (x0 : Nat) (x2 : Int32) (x4 : Int32) : Option (Unit × Hp) :=
  bd (f_X7_at h x0 (x4 + (1 : Int32)) x2) <| fun r1 h2 =>
  k32 h2 x0 x2 r1 (x4 + (1 : Int32))
def f_X7_pick_32 : Nat → Hp → Nat → Int32 → Int32 → Int32 → Option (Unit × Hp)
  | 0 => fun _ _ _ _ _ => none
  | fu + 1 => fun h x0 x2 x3 x4 =>
    if (h.1 x0 9) ≤ x4 then
      some ((), h)
    else
      if (1000000 : Int32) ≤ x3 then
        some ((), h)
      else
        bd (f_X7_firstUse h x0 x4 x2 x3) <| fun r1 h2 =>
        if r1 = 0 then
          f_X7_pick_90 (f_X7_pick_32 fu) h2 x0 x2 x4
        else
          gd (kd (h2.2 x0 7) = 13) <|
          gd (inr x4 (ln (h2.2 x0 7)) = true) <|
          bd (f_X7_add h2 x0 (h2.1 (h2.2 x0 7) x4.toNatClampNeg) r1) <| fun r6 h7 =>
          gd (kd (h7.2 x0 7) = 13) <|
          gd (inr x4 (ln (h7.2 x0 7)) = true) <|
          bd (f_X11_countsAs h7 (h7.1 (h7.2 x0 7) x4.toNatClampNeg) r1) <| fun r11 h12 =>
          f_X7_pick_90 (f_X7_pick_32 fu) h12 x0 (x2 - r11) x4
def f_X7_pick (h : Hp) (x0 : Nat) (x1 : Int32) : Option (Unit × Hp) :=
  gd (kd x0 = 7) <|
  lt ((si h x0 0 (0 : Int32))) <| fun h1 =>
  lt ((si h1 x0 1 (0 : Int32))) <| fun h3 =>
  lt ((si h3 x0 2 (0 : Int32))) <| fun h5 =>
  lt ((si h5 x0 3 (0 : Int32))) <| fun h7 =>
  bd (f_X7_at h7 x0 (0 : Int32) x1) <| fun r9 h10 =>
  f_X7_pick_32 FU h10 x0 x1 r9 (0 : Int32)
def f_X5_find_143 (h : Hp) (x0 : Nat) (x1 : Int32) (x2 : Int32) (x3 : Int32) (t0 : Nat) (t1 : Int32) : Option (Int32 × Hp) :=
  bd (f_X7_build h t0 t1 x3) <| fun r1 h2 =>
  gd (kd (h2.2 x0 0) = 7) <|
  bd (f_X7_pick h2 (h2.2 x0 0) x2) <| fun r5 h6 =>
  gd (kd (h6.2 x0 1) = 13) <|
  gd (inr (h6.1 x0 8) (ln (h6.2 x0 1)) = true) <|
  lt ((si h6 (h6.2 x0 1) (h6.1 x0 8).toNatClampNeg x1)) <| fun h10 =>
  gd (kd (h10.2 x0 2) = 13) <|
  gd (inr (h10.1 x0 8) (ln (h10.2 x0 2)) = true) <|
  lt ((si h10 (h10.2 x0 2) (h10.1 x0 8).toNatClampNeg x3)) <| fun h14 =>
  gd (kd (h14.2 x0 3) = 13) <|
  gd (kd (h14.2 x0 0) = 7) <|
  gd (inr (h14.1 x0 8) (ln (h14.2 x0 3)) = true) <|
  lt ((si h14 (h14.2 x0 3) (h14.1 x0 8).toNatClampNeg (h14.1 (h14.2 x0 0) 0))) <| fun h19 =>
  gd (kd (h19.2 x0 4) = 13) <|
  gd (kd (h19.2 x0 0) = 7) <|
  gd (inr (h19.1 x0 8) (ln (h19.2 x0 4)) = true) <|
  lt ((si h19 (h19.2 x0 4) (h19.1 x0 8).toNatClampNeg (h19.1 (h19.2 x0 0) 1))) <| fun h24 =>
  gd (kd (h24.2 x0 5) = 13) <|
  gd (kd (h24.2 x0 0) = 7) <|
  gd (inr (h24.1 x0 8) (ln (h24.2 x0 5)) = true) <|
  lt ((si h24 (h24.2 x0 5) (h24.1 x0 8).toNatClampNeg (h24.1 (h24.2 x0 0) 2))) <| fun h29 =>
  gd (kd (h29.2 x0 6) = 13) <|
  gd (kd (h29.2 x0 0) = 7) <|
  gd (inr (h29.1 x0 8) (ln (h29.2 x0 6)) = true) <|
  lt ((si h29 (h29.2 x0 6) (h29.1 x0 8).toNatClampNeg (h29.1 (h29.2 x0 0) 3))) <| fun h34 =>
  bd (f_X5_used h34 x0 (h34.1 x0 8)) <| fun r36 h37 =>
  some (r36, h37)
def f_X5_find_28 : Nat → Hp → Nat → Int32 → Int32 → Int32 → Int32 → Int32 → Option (Int32 × Hp)
  | 0 => fun _ _ _ _ _ _ _ => none
  | fu + 1 => fun h x0 x1 x2 x3 x4 x5 =>
    if (x4 + (8 : Int32)) ≤ x5 then
      gd (kd (h.2 x0 7) = 13) <|
      gd (inr x2 (ln (h.2 x0 7)) = true) <|
      lt ((si h x0 8 (x4 + (h.1 (h.2 x0 7) x2.toNatClampNeg)))) <| fun h3 =>
      gd (kd (h3.2 x0 7) = 13) <|
      gd (kd (h3.2 x0 7) = 13) <|
      gd (inr x2 (ln (h3.2 x0 7)) = true) <|
      gd (inr x2 (ln (h3.2 x0 7)) = true) <|
      lt ((si h3 (h3.2 x0 7) x2.toNatClampNeg (((h3.1 (h3.2 x0 7) x2.toNatClampNeg) + (1 : Int32)) - ((h3.1 (h3.2 x0 7) x2.toNatClampNeg) + (1 : Int32)) / (8 : Int32) * (8 : Int32)))) <| fun h9 =>
      gd (kd (h9.2 x0 0) = 7) <|
      if x3 = 0 then
        bd (f_X5_oneOf h9 x2) <| fun r12 h13 =>
        f_X5_find_143 h13 x0 x1 x2 x3 (h9.2 x0 0) (x1 &&& r12)
      else
        f_X5_find_143 h9 x0 x1 x2 x3 (h9.2 x0 0) x1
    else
      gd (kd (h.2 x0 2) = 13) <|
      gd (inr x5 (ln (h.2 x0 2)) = true) <|
      if (h.1 (h.2 x0 2) x5.toNatClampNeg) = x3 then
        gd (kd (h.2 x0 1) = 13) <|
        gd (inr x5 (ln (h.2 x0 1)) = true) <|
        if (x1 &&& ((h.1 (h.2 x0 1) x5.toNatClampNeg) ^^^ (-1 : Int32))) = 0 then
          bd (f_X5_used h x0 x5) <| fun r19 h20 =>
          if (r19 &&& (x1 ^^^ (-1 : Int32))) = 0 then
            lt ((si h20 x0 8 x5)) <| fun h22 =>
            bd (f_X5_used h22 x0 x5) <| fun r24 h25 =>
            some (r24, h25)
          else
            f_X5_find_28 fu h20 x0 x1 x2 x3 x4 (x5 + (1 : Int32))
        else
          f_X5_find_28 fu h x0 x1 x2 x3 x4 (x5 + (1 : Int32))
      else
        f_X5_find_28 fu h x0 x1 x2 x3 x4 (x5 + (1 : Int32))
def f_X5_find (h : Hp) (x0 : Nat) (x1 : Int32) (x2 : Int32) (x3 : Int32) : Option (Int32 × Hp) :=
  gd (kd x0 = 5) <|
  lt ((si h x0 8 (0 : Int32))) <| fun h1 =>
  if x2 < (1 : Int32) then
    some ((0 : Int32), h1)
  else
    if x2 ≤ (99 : Int32) then
      f_X5_find_28 FU h1 x0 x1 x2 x3 (x2 * (8 : Int32)) (x2 * (8 : Int32))
    else
      some ((0 : Int32), h1)
def f_X6_mayUse (h : Hp) (x0 : Nat) (x1 : Int32) (x2 : Int32) : Option (Int32 × Hp) :=
  gd (kd x0 = 6) <|
  if x1 < 0 then
    some ((0 : Int32), h)
  else
    if x1 < (6 : Int32) then
      gd (kd (h.2 x0 6) = 13) <|
      gd (inr x1 (ln (h.2 x0 6)) = true) <|
      some ((((h.1 x0 3) ||| (h.1 (h.2 x0 6) x1.toNatClampNeg)) &&& (x2 ^^^ (-1 : Int32))), h)
    else
      some ((0 : Int32), h)
def f_X1_stuckIn_10 : Nat → Hp → Nat → Nat → Int32 → Int32 → Int32 → Option (Int32 × Hp)
  | 0 => fun _ _ _ _ _ _ => none
  | fu + 1 => fun h x0 x1 x2 x3 x4 =>
    if (6 : Int32) ≤ x4 then
      some (x3, h)
    else
      bd (f_X11_hasBit h (h.1 x1 0) x4) <| fun r1 h2 =>
      if r1 = 0 then
        f_X1_stuckIn_10 fu h2 x0 x1 x2 x3 (x4 + (1 : Int32))
      else
        gd (kd (h2.2 x0 6) = 5) <|
        bd (f_X6_mayUse h2 x1 x4 x2) <| fun r5 h6 =>
        gd (kd (h6.2 x1 5) = 13) <|
        gd (inr x4 (ln (h6.2 x1 5)) = true) <|
        bd (f_X5_find h6 (h2.2 x0 6) r5 (h6.1 (h6.2 x1 5) x4.toNatClampNeg) (h6.1 x1 4)) <| fun r10 h11 =>
        if r10 = 0 then
          f_X1_stuckIn_10 fu h11 x0 x1 (x2 ||| r10) (x3 ||| ((1 : Int32) <<< (x4 &&& 31))) (x4 + (1 : Int32))
        else
          f_X1_stuckIn_10 fu h11 x0 x1 (x2 ||| r10) (x3 ||| (0 : Int32)) (x4 + (1 : Int32))
def f_X1_stuckIn (h : Hp) (x0 : Nat) (x1 : Nat) : Option (Int32 × Hp) :=
  gd (kd x0 = 1) <|
  gd (kd x1 = 6) <|
  f_X1_stuckIn_10 FU h x0 x1 (h.1 x1 2) (0 : Int32) (0 : Int32)
def f_X1_getsWorse (h : Hp) (x0 : Nat) (x1 : Nat) (x2 : Int32) : Option (Int32 × Hp) :=
  gd (kd x0 = 1) <|
  gd (kd x1 = 6) <|
  bd (f_J6_bitCount_0f7a4 h (h.1 x1 0)) <| fun r1 h2 =>
  if (h.1 x0 0) < r1 then
    lt ((si h2 x1 2 x2)) <| fun h4 =>
    bd (f_X1_stuckIn h4 x0 x1) <| fun r6 h7 =>
    bd (f_J6_bitCount_0f7a4 h7 r6) <| fun r9 h10 =>
    if (h10.1 x0 0) < r9 then
      lt ((si h10 x0 0 r9)) <| fun h12 =>
      some ((1 : Int32), h12)
    else
      some ((0 : Int32), h10)
  else
    some ((0 : Int32), h2)
def f_X1_denyOne_13 : Nat → Hp → Nat → Nat → Int32 → Int32 → Option (Int32 × Hp)
  | 0 => fun _ _ _ _ _ => none
  | fu + 1 => fun h x0 x1 x2 x3 =>
    if (24 : Int32) < x3 then
      if (h.1 x0 0) = (-4 : Int32) then
        some ((0 : Int32), h)
      else
        some ((1 : Int32), h)
    else
      if (((1 : Int32) <<< ((x3 - (1 : Int32)) &&& 31)) &&& ((h.1 x1 1) ^^^ (-1 : Int32))) = 0 then
        if (((1 : Int32) <<< ((x3 - (1 : Int32)) &&& 31)) &&& x2) = 0 then
          bd (f_X1_getsWorse h x0 x1 (x2 ||| ((1 : Int32) <<< ((x3 - (1 : Int32)) &&& 31)))) <| fun r1 h2 =>
          if r1 = 0 then
            f_X1_denyOne_13 fu h2 x0 x1 x2 (x3 + (1 : Int32))
          else
            lt ((si h2 x0 1 x3)) <| fun h4 =>
            lt ((si h4 x0 2 x3)) <| fun h6 =>
            f_X1_denyOne_13 fu h6 x0 x1 x2 (x3 + (1 : Int32))
        else
          f_X1_denyOne_13 fu h x0 x1 x2 (x3 + (1 : Int32))
      else
        f_X1_denyOne_13 fu h x0 x1 x2 (x3 + (1 : Int32))
def f_X1_denyOne (h : Hp) (x0 : Nat) (x1 : Nat) : Option (Int32 × Hp) :=
  gd (kd x0 = 1) <|
  gd (kd x1 = 6) <|
  lt ((si h x0 0 (-4 : Int32))) <| fun h1 =>
  f_X1_denyOne_13 FU h1 x0 x1 (h.1 x1 2) (1 : Int32)
def f_X1_denyTwo_24 (k13 : Hp → Nat → Nat → Int32 → Int32 → Option (Int32 × Hp)) : Nat → Hp → Nat → Nat → Int32 → Int32 → Int32 → Option (Int32 × Hp)
  | 0 => fun _ _ _ _ _ _ => none
  | fu + 1 => fun h x0 x1 x2 x3 x4 =>
    if (24 : Int32) < x4 then
      k13 h x0 x1 x2 (x3 + (1 : Int32))
    else
      if ((((1 : Int32) <<< ((x3 - (1 : Int32)) &&& 31)) ||| ((1 : Int32) <<< ((x4 - (1 : Int32)) &&& 31))) &&& ((h.1 x1 1) ^^^ (-1 : Int32))) = 0 then
        if ((((1 : Int32) <<< ((x3 - (1 : Int32)) &&& 31)) ||| ((1 : Int32) <<< ((x4 - (1 : Int32)) &&& 31))) &&& x2) = 0 then
          bd (f_X1_getsWorse h x0 x1 (x2 ||| (((1 : Int32) <<< ((x3 - (1 : Int32)) &&& 31)) ||| ((1 : Int32) <<< ((x4 - (1 : Int32)) &&& 31))))) <| fun r1 h2 =>
          if r1 = 0 then
            f_X1_denyTwo_24 k13 fu h2 x0 x1 x2 x3 (x4 + (1 : Int32))
          else
            lt ((si h2 x0 1 x3)) <| fun h4 =>
            lt ((si h4 x0 2 x4)) <| fun h6 =>
            f_X1_denyTwo_24 k13 fu h6 x0 x1 x2 x3 (x4 + (1 : Int32))
        else
          f_X1_denyTwo_24 k13 fu h x0 x1 x2 x3 (x4 + (1 : Int32))
      else
        f_X1_denyTwo_24 k13 fu h x0 x1 x2 x3 (x4 + (1 : Int32))
def f_X1_denyTwo_13 : Nat → Hp → Nat → Nat → Int32 → Int32 → Option (Int32 × Hp)
  | 0 => fun _ _ _ _ _ => none
  | fu + 1 => fun h x0 x1 x2 x3 =>
    if (24 : Int32) ≤ x3 then
      if (h.1 x0 0) = (-4 : Int32) then
        some ((0 : Int32), h)
      else
        some ((1 : Int32), h)
    else
      f_X1_denyTwo_24 (f_X1_denyTwo_13 fu) FU h x0 x1 x2 x3 (x3 + (1 : Int32))
def f_X1_denyTwo (h : Hp) (x0 : Nat) (x1 : Nat) : Option (Int32 × Hp) :=
  gd (kd x0 = 1) <|
  gd (kd x1 = 6) <|
  lt ((si h x0 0 (-4 : Int32))) <| fun h1 =>
  f_X1_denyTwo_13 FU h1 x0 x1 (h.1 x1 2) (1 : Int32)
def f_X1_cornerBy_74 : Nat → Hp → Nat → Nat → Int32 → Int32 → Option (Int32 × Hp)
  | 0 => fun _ _ _ _ _ => none
  | fu + 1 => fun h x0 x1 x3 x5 =>
    if (99 : Int32) < x5 then
      if (h.1 x0 0) = (-4 : Int32) then
        some ((0 : Int32), h)
      else
        some ((1 : Int32), h)
    else
      gd (kd (h.2 x0 7) = 13) <|
      gd (inr x5 (ln (h.2 x0 7)) = true) <|
      if (h.1 (h.2 x0 7) x5.toNatClampNeg) = 0 then
        f_X1_cornerBy_74 fu h x0 x1 x3 (x5 + (1 : Int32))
      else
        gd (kd (h.2 x0 7) = 13) <|
        gd (inr x5 (ln (h.2 x0 7)) = true) <|
        bd (f_X1_getsWorse h x0 x1 (x3 ||| (h.1 (h.2 x0 7) x5.toNatClampNeg))) <| fun r5 h6 =>
        if r5 = 0 then
          f_X1_cornerBy_74 fu h6 x0 x1 x3 (x5 + (1 : Int32))
        else
          lt ((si h6 x0 3 x5)) <| fun h8 =>
          f_X1_cornerBy_74 fu h8 x0 x1 x3 (x5 + (1 : Int32))
def f_X1_cornerBy_16 : Nat → Hp → Nat → Nat → Int32 → Int32 → Int32 → Int32 → Option (Int32 × Hp)
  | 0 => fun _ _ _ _ _ _ _ => none
  | fu + 1 => fun h x0 x1 x2 x3 x4 x5 =>
    if (99 : Int32) < x5 then
      lt ((si h x1 0 ((h.1 x1 0) &&& (((1 : Int32) <<< (x2 &&& 31)) ^^^ (-1 : Int32))))) <| fun h1 =>
      lt ((si h1 x0 0 (-4 : Int32))) <| fun h3 =>
      f_X1_cornerBy_74 FU h3 x0 x1 x3 (1 : Int32)
    else
      gd (kd (h.2 x0 7) = 13) <|
      gd (kd (h.2 x0 6) = 5) <|
      bd (f_X5_find h (h.2 x0 6) x4 x5 (h.1 x1 4)) <| fun r7 h8 =>
      gd (inr x5 (ln (h.2 x0 7)) = true) <|
      lt ((si h8 (h.2 x0 7) x5.toNatClampNeg r7)) <| fun h11 =>
      f_X1_cornerBy_16 fu h11 x0 x1 x2 x3 x4 (x5 + (1 : Int32))
def f_X1_cornerBy (h : Hp) (x0 : Nat) (x1 : Nat) (x2 : Int32) : Option (Int32 × Hp) :=
  gd (kd x0 = 1) <|
  gd (kd x1 = 6) <|
  bd (f_X6_mayUse h x1 x2 (h.1 x1 2)) <| fun r1 h2 =>
  f_X1_cornerBy_16 FU h2 x0 x1 x2 (h.1 x1 2) r1 (1 : Int32)
def f_X1_ableAt_6 : Nat → Hp → Nat → Nat → Int32 → Int32 → Int32 → Int32 → Int32 → Option (Int32 × Hp)
  | 0 => fun _ _ _ _ _ _ _ _ => none
  | fu + 1 => fun h x0 x1 x2 x3 x4 x5 x6 =>
    if (6 : Int32) ≤ x6 then
      some (x5, h)
    else
      bd (f_X11_hasBit h x4 x6) <| fun r1 h2 =>
      if r1 = 0 then
        f_X1_ableAt_6 fu h2 x0 x1 x2 x3 x4 x5 (x6 + (1 : Int32))
      else
        gd (kd (h2.2 x0 6) = 5) <|
        bd (f_X6_mayUse h2 x1 x6 x3) <| fun r5 h6 =>
        gd (kd (h6.2 x1 5) = 13) <|
        gd (inr x6 (ln (h6.2 x1 5)) = true) <|
        bd (f_X5_find h6 (h2.2 x0 6) r5 (h6.1 (h6.2 x1 5) x6.toNatClampNeg) (h6.1 x1 4)) <| fun r10 h11 =>
        gd (kd (h11.2 x0 9) = 13) <|
        gd (inr ((x2 * (6 : Int32)) + x6) (ln (h11.2 x0 9)) = true) <|
        lt ((si h11 (h11.2 x0 9) ((x2 * (6 : Int32)) + x6).toNatClampNeg r10)) <| fun h15 =>
        if r10 = 0 then
          f_X1_ableAt_6 fu h15 x0 x1 x2 x3 x4 (x5 ||| (0 : Int32)) (x6 + (1 : Int32))
        else
          f_X1_ableAt_6 fu h15 x0 x1 x2 x3 x4 (x5 ||| ((1 : Int32) <<< (x6 &&& 31))) (x6 + (1 : Int32))
def f_X1_ableAt (h : Hp) (x0 : Nat) (x1 : Nat) (x2 : Int32) (x3 : Int32) (x4 : Int32) : Option (Int32 × Hp) :=
  gd (kd x0 = 1) <|
  gd (kd x1 = 6) <|
  f_X1_ableAt_6 FU h x0 x1 x2 x3 x4 (0 : Int32) (0 : Int32)
def f_X1_record_47 : Nat → Hp → Nat → Int32 → Int32 → Int32 → Option (Unit × Hp)
  | 0 => fun _ _ _ _ _ => none
  | fu + 1 => fun h x0 x2 x4 x5 =>
    if (6 : Int32) ≤ x5 then
      some ((), h)
    else
      bd (f_X11_hasBit h x2 x5) <| fun r1 h2 =>
      if r1 = 0 then
        f_X1_record_47 fu h2 x0 x2 x4 (x5 + (1 : Int32))
      else
        if (6 : Int32) ≤ x4 then
          f_X1_record_47 fu h2 x0 x2 x4 (x5 + (1 : Int32))
        else
          gd (kd (h2.2 x0 5) = 13) <|
          gd (inr x4 (ln (h2.2 x0 5)) = true) <|
          lt ((si h2 (h2.2 x0 5) x4.toNatClampNeg x5)) <| fun h6 =>
          f_X1_record_47 fu h6 x0 x2 (x4 + (1 : Int32)) (x5 + (1 : Int32))
def f_X1_record_8 : Nat → Hp → Nat → Int32 → Int32 → Int32 → Option (Unit × Hp)
  | 0 => fun _ _ _ _ _ => none
  | fu + 1 => fun h x0 x1 x2 x4 =>
    if x1 ≤ x4 then
      f_X1_record_47 FU h x0 x2 x1 (0 : Int32)
    else
      if (6 : Int32) ≤ x4 then
        f_X1_record_47 FU h x0 x2 x1 (0 : Int32)
      else
        gd (kd (h.2 x0 5) = 13) <|
        gd (kd (h.2 x0 8) = 13) <|
        gd (inr x4 (ln (h.2 x0 8)) = true) <|
        gd (inr x4 (ln (h.2 x0 5)) = true) <|
        lt ((si h (h.2 x0 5) x4.toNatClampNeg (h.1 (h.2 x0 8) x4.toNatClampNeg))) <| fun h5 =>
        f_X1_record_8 fu h5 x0 x1 x2 (x4 + (1 : Int32))
def f_X1_record (h : Hp) (x0 : Nat) (x1 : Int32) (x2 : Int32) (x3 : Int32) : Option (Unit × Hp) :=
  gd (kd x0 = 1) <|
  lt ((si h x0 4 x3)) <| fun h1 =>
  f_X1_record_8 FU h1 x0 x1 x2 (0 : Int32)
def f_X1_search_55 (rec : Hp → Nat → Nat → Int32 → Int32 → Int32 → Int32 → Option (Unit × Hp)) : Nat → Hp → Nat → Nat → Int32 → Int32 → Int32 → Int32 → Int32 → Int32 → Option (Unit × Hp)
  | 0 => fun _ _ _ _ _ _ _ _ _ => none
  | fu + 1 => fun h x0 x1 x2 x3 x4 x5 x6 x7 =>
    if (6 : Int32) ≤ x7 then
      some ((), h)
    else
      bd (f_X11_hasBit h x4 x7) <| fun r1 h2 =>
      if r1 = 0 then
        f_X1_search_55 rec fu h2 x0 x1 x2 x3 x4 x5 x6 (x7 + (1 : Int32))
      else
        gd (kd (h2.2 x0 8) = 13) <|
        gd (inr x2 (ln (h2.2 x0 8)) = true) <|
        lt ((si h2 (h2.2 x0 8) x2.toNatClampNeg x7)) <| fun h6 =>
        gd (kd (h6.2 x0 9) = 13) <|
        gd (inr ((x2 * (6 : Int32)) + x7) (ln (h6.2 x0 9)) = true) <|
        bd (rec h6 x0 x1 (x2 + (1 : Int32)) (x3 ||| (h6.1 (h6.2 x0 9) ((x2 * (6 : Int32)) + x7).toNatClampNeg)) (x4 &&& (((1 : Int32) <<< (x7 &&& 31)) ^^^ (-1 : Int32))) (x5 + ((x6 >>> (x7 &&& 31)) &&& (1 : Int32)))) <| fun r10 h11 =>
        f_X1_search_55 rec fu h11 x0 x1 x2 x3 x4 x5 x6 (x7 + (1 : Int32))
def f_X1_search_19 (rec : Hp → Nat → Nat → Int32 → Int32 → Int32 → Int32 → Option (Unit × Hp)) (h : Hp) (x0 : Nat) (x1 : Nat) (x2 : Int32) (x3 : Int32) (x4 : Int32) (x5 : Int32) (t0 : Int32) : Option (Unit × Hp) :=
  bd (f_J6_bitCount_0f7a4 h t0) <| fun r1 h2 =>
  if (h2.1 x0 4) < (x5 + r1) then
    if t0 = 0 then
      bd (f_X1_record h2 x0 x2 x4 x5) <| fun r4 h5 =>
      some ((), h5)
    else
      f_X1_search_55 rec FU h2 x0 x1 x2 x3 x4 x5 t0 (0 : Int32)
  else
    some ((), h2)
def f_X1_search_body (rec : Hp → Nat → Nat → Int32 → Int32 → Int32 → Int32 → Option (Unit × Hp)) (h : Hp) (x0 : Nat) (x1 : Nat) (x2 : Int32) (x3 : Int32) (x4 : Int32) (x5 : Int32) : Option (Unit × Hp) :=
  gd (kd x0 = 1) <|
  gd (kd x1 = 6) <|
  if (6 : Int32) ≤ x2 then
    f_X1_search_19 rec h x0 x1 x2 x3 x4 x5 (0 : Int32)
  else
    bd (f_X1_ableAt h x0 x1 x2 x3 x4) <| fun r1 h2 =>
    f_X1_search_19 rec h2 x0 x1 x2 x3 x4 x5 r1
def f_X1_search : Nat → Hp → Nat → Nat → Int32 → Int32 → Int32 → Int32 → Option (Unit × Hp)
  | 0 => fun _ _ _ _ _ _ _ => none
  | dd + 1 => f_X1_search_body (f_X1_search dd)
def f_X1_findOrder (h : Hp) (x0 : Nat) (x1 : Nat) : Option (Unit × Hp) :=
  gd (kd x0 = 1) <|
  gd (kd x1 = 6) <|
  lt ((si h x0 4 (-1 : Int32))) <| fun h1 =>
  bd (f_X1_search 8 h1 x0 x1 (0 : Int32) (h1.1 x1 2) (h1.1 x1 0) (0 : Int32)) <| fun r3 h4 =>
  some ((), h4)
def f_X2_begin_26 : Nat → Hp → Nat → Int32 → Int32 → Option (Unit × Hp)
  | 0 => fun _ _ _ _ => none
  | fu + 1 => fun h x0 x1 x2 =>
    gd (kd (h.2 x0 1) = 13) <|
    if (nI (ln (h.2 x0 1))) ≤ x2 then
      lt ((si h x0 2 (0 : Int32))) <| fun h2 =>
      lt ((si h2 x0 3 (0 : Int32))) <| fun h4 =>
      gd (x1 = 0 ∨ x1 = 1) <|
      lt ((si h4 x0 4 x1)) <| fun h7 =>
      some ((), h7)
    else
      gd (kd (h.2 x0 1) = 13) <|
      gd (inr x2 (ln (h.2 x0 1)) = true) <|
      lt ((si h (h.2 x0 1) x2.toNatClampNeg (0 : Int32))) <| fun h11 =>
      f_X2_begin_26 fu h11 x0 x1 (x2 + (1 : Int32))
def f_X2_begin_2 : Nat → Hp → Nat → Int32 → Int32 → Option (Unit × Hp)
  | 0 => fun _ _ _ _ => none
  | fu + 1 => fun h x0 x1 x2 =>
    gd (kd (h.2 x0 0) = 13) <|
    if (nI (ln (h.2 x0 0))) ≤ x2 then
      f_X2_begin_26 FU h x0 x1 (0 : Int32)
    else
      gd (kd (h.2 x0 0) = 13) <|
      gd (inr x2 (ln (h.2 x0 0)) = true) <|
      lt ((si h (h.2 x0 0) x2.toNatClampNeg (0 : Int32))) <| fun h4 =>
      f_X2_begin_2 fu h4 x0 x1 (x2 + (1 : Int32))
def f_X2_begin (h : Hp) (x0 : Nat) (x1 : Int32) : Option (Unit × Hp) :=
  gd (kd x0 = 2) <|
  f_X2_begin_2 FU h x0 x1 (0 : Int32)
def f_X2_copy (h : Hp) (x0 : Nat) (x1 : Nat) : Option (Unit × Hp) :=
  gd (kd x0 = 2) <|
  gd (kd x1 = 2) <|
  gd (kd (h.2 x1 0) = 13) <|
  gd (kd (h.2 x0 0) = 13) <|
  gd ((8 : Int32).toNatClampNeg ≤ ln (h.2 x1 0)) <|
  gd ((8 : Int32).toNatClampNeg ≤ ln (h.2 x0 0)) <|
  lt ((sc h (h.2 x0 0) (va_cpy (h.1 (h.2 x1 0)) (h.1 (h.2 x0 0)) 0 0 (8 : Int32).toNatClampNeg))) <| fun h5 =>
  gd (kd (h5.2 x1 1) = 13) <|
  gd (kd (h5.2 x0 1) = 13) <|
  gd ((6 : Int32).toNatClampNeg ≤ ln (h5.2 x1 1)) <|
  gd ((6 : Int32).toNatClampNeg ≤ ln (h5.2 x0 1)) <|
  lt ((sc h5 (h5.2 x0 1) (va_cpy (h5.1 (h5.2 x1 1)) (h5.1 (h5.2 x0 1)) 0 0 (6 : Int32).toNatClampNeg))) <| fun h11 =>
  lt ((si h11 x0 2 (h11.1 x1 2))) <| fun h13 =>
  lt ((si h13 x0 3 (h13.1 x1 3))) <| fun h15 =>
  gd ((h15.1 x1 4) = 0 ∨ (h15.1 x1 4) = 1) <|
  lt ((si h15 x0 4 (h15.1 x1 4))) <| fun h18 =>
  some ((), h18)
def f_X2_take (h : Hp) (x0 : Nat) (x1 : Int32) (x2 : Int32) : Option (Unit × Hp) :=
  gd (kd x0 = 2) <|
  if x1 < 0 then
    some ((), h)
  else
    if (6 : Int32) ≤ x1 then
      some ((), h)
    else
      gd (kd (h.2 x0 0) = 13) <|
      gd (inr x1 (ln (h.2 x0 0)) = true) <|
      gd (inr x1 (ln (h.2 x0 0)) = true) <|
      lt ((si h (h.2 x0 0) x1.toNatClampNeg ((h.1 (h.2 x0 0) x1.toNatClampNeg) ||| x2))) <| fun h4 =>
      lt ((si h4 x0 2 ((h4.1 x0 2) ||| ((1 : Int32) <<< (x1 &&& 31))))) <| fun h6 =>
      some ((), h6)
def f_X11_together_10 : Nat → Hp → Int32 → Nat → Int32 → Int32 → Option (Int32 × Hp)
  | 0 => fun _ _ _ _ _ => none
  | fu + 1 => fun h x1 x2 x3 x4 =>
    if x3 ≤ x4 then
      some (x1, h)
    else
      gd (inr x4 (ln x2) = true) <|
      f_X11_together_10 fu h (x1 ||| (h.1 x2 x4.toNatClampNeg)) x2 x3 (x4 + (1 : Int32))
def f_X11_together (h : Hp) (x0 : Nat) : Option (Int32 × Hp) :=
  gd (kd x0 = 13) <|
  f_X11_together_10 FU h (0 : Int32) x0 (nI (ln x0)) (0 : Int32)
def f_X2_taken (h : Hp) (x0 : Nat) : Option (Int32 × Hp) :=
  gd (kd x0 = 2) <|
  gd (kd (h.2 x0 0) = 13) <|
  bd (f_X11_together h (h.2 x0 0)) <| fun r2 h3 =>
  some (r2, h3)
def f_X2_lent (h : Hp) (x0 : Nat) : Option (Int32 × Hp) :=
  gd (kd x0 = 2) <|
  gd (kd (h.2 x0 1) = 13) <|
  bd (f_X11_together h (h.2 x0 1)) <| fun r2 h3 =>
  some (r2, h3)
def f_X3_dropOldest_9 : Nat → Hp → Nat → Nat → Int32 → Option (Unit × Hp)
  | 0 => fun _ _ _ _ => none
  | fu + 1 => fun h x0 x1 x2 =>
    gd (kd (h.2 x0 1) = 15) <|
    if (nI (ln (h.2 x0 1))) ≤ x2 then
      gd (kd (h.2 x0 1) = 15) <|
      gd (kd (h.2 x0 1) = 15) <|
      gd (inr ((nI (ln (h.2 x0 1))) - (1 : Int32)) (ln (h.2 x0 1)) = true) <|
      lt ((sr h (h.2 x0 1) ((nI (ln (h.2 x0 1))) - (1 : Int32)).toNatClampNeg x1)) <| fun h5 =>
      gd (kd (h5.2 x0 1) = 15) <|
      lt ((si h5 x0 0 ((nI (ln (h5.2 x0 1))) - (1 : Int32)))) <| fun h8 =>
      some ((), h8)
    else
      gd (kd (h.2 x0 1) = 15) <|
      gd (kd (h.2 x0 1) = 15) <|
      gd (inr x2 (ln (h.2 x0 1)) = true) <|
      gd (kd (h.2 (h.2 x0 1) x2.toNatClampNeg) = 2) <|
      gd (inr (x2 - (1 : Int32)) (ln (h.2 x0 1)) = true) <|
      lt ((sr h (h.2 x0 1) (x2 - (1 : Int32)).toNatClampNeg (h.2 (h.2 x0 1) x2.toNatClampNeg))) <| fun h15 =>
      f_X3_dropOldest_9 fu h15 x0 x1 (x2 + (1 : Int32))
def f_X3_dropOldest (h : Hp) (x0 : Nat) : Option (Unit × Hp) :=
  gd (kd x0 = 3) <|
  gd (kd (h.2 x0 1) = 15) <|
  gd (inr (0 : Int32) (ln (h.2 x0 1)) = true) <|
  gd (kd (h.2 (h.2 x0 1) (0 : Int32).toNatClampNeg) = 2) <|
  f_X3_dropOldest_9 FU h x0 (h.2 (h.2 x0 1) (0 : Int32).toNatClampNeg) (1 : Int32)
def f_X3_push_16 (h : Hp) (x0 : Nat) (x1 : Nat) : Option (Unit × Hp) :=
  gd (kd (h.2 x0 1) = 15) <|
  gd (inr (h.1 x0 0) (ln (h.2 x0 1)) = true) <|
  gd (kd (h.2 (h.2 x0 1) (h.1 x0 0).toNatClampNeg) = 2) <|
  bd (f_X2_copy h (h.2 (h.2 x0 1) (h.1 x0 0).toNatClampNeg) x1) <| fun r4 h5 =>
  lt ((si h5 x0 0 ((h5.1 x0 0) + (1 : Int32)))) <| fun h7 =>
  some ((), h7)
def f_X3_push (h : Hp) (x0 : Nat) (x1 : Nat) : Option (Unit × Hp) :=
  gd (kd x0 = 3) <|
  gd (kd x1 = 2) <|
  gd (kd (h.2 x0 1) = 15) <|
  if (h.1 x0 0) < (nI (ln (h.2 x0 1))) then
    f_X3_push_16 h x0 x1
  else
    bd (f_X3_dropOldest h x0) <| fun r2 h3 =>
    f_X3_push_16 h3 x0 x1
def f_X3_pop (h : Hp) (x0 : Nat) (x1 : Nat) : Option (Int32 × Hp) :=
  gd (kd x0 = 3) <|
  gd (kd x1 = 2) <|
  if 0 < (h.1 x0 0) then
    lt ((si h x0 0 ((h.1 x0 0) - (1 : Int32)))) <| fun h1 =>
    gd (kd (h1.2 x0 1) = 15) <|
    gd (inr (h1.1 x0 0) (ln (h1.2 x0 1)) = true) <|
    gd (kd (h1.2 (h1.2 x0 1) (h1.1 x0 0).toNatClampNeg) = 2) <|
    bd (f_X2_copy h1 x1 (h1.2 (h1.2 x0 1) (h1.1 x0 0).toNatClampNeg)) <| fun r6 h7 =>
    some ((1 : Int32), h7)
  else
    some ((0 : Int32), h)
def f_X4_setLaw (h : Hp) (x0 : Nat) (x1 : Int32) (x2 : Int32) (x3 : Int32) : Option (Int32 × Hp) :=
  gd (kd x0 = 4) <|
  if (3 : Int32) < x1 then
    some ((0 : Int32), h)
  else
    if (9 : Int32) < x2 then
      some ((0 : Int32), h)
    else
      if x3 ≤ (9 : Int32) then
        lt ((si h x0 2 x1)) <| fun h1 =>
        lt ((si h1 x0 3 x2)) <| fun h3 =>
        lt ((si h3 x0 4 x3)) <| fun h5 =>
        some ((1 : Int32), h5)
      else
        some ((0 : Int32), h)
def f_X4_clear_42 : Nat → Hp → Nat → Int32 → Option (Unit × Hp)
  | 0 => fun _ _ _ => none
  | fu + 1 => fun h x0 x1 =>
    if (6 : Int32) ≤ x1 then
      some ((), h)
    else
      gd (kd (h.2 x0 6) = 13) <|
      gd (inr x1 (ln (h.2 x0 6)) = true) <|
      lt ((si h (h.2 x0 6) x1.toNatClampNeg (0 : Int32))) <| fun h3 =>
      gd (kd (h3.2 x0 7) = 13) <|
      gd (inr x1 (ln (h3.2 x0 7)) = true) <|
      lt ((si h3 (h3.2 x0 7) x1.toNatClampNeg (0 : Int32))) <| fun h7 =>
      f_X4_clear_42 fu h7 x0 (x1 + (1 : Int32))
def f_X4_clear_21 : Nat → Hp → Nat → Int32 → Option (Unit × Hp)
  | 0 => fun _ _ _ => none
  | fu + 1 => fun h x0 x1 =>
    if (24 : Int32) < x1 then
      f_X4_clear_42 FU h x0 (0 : Int32)
    else
      gd (kd (h.2 x0 5) = 13) <|
      gd (inr x1 (ln (h.2 x0 5)) = true) <|
      lt ((si h (h.2 x0 5) x1.toNatClampNeg (1 : Int32))) <| fun h3 =>
      f_X4_clear_21 fu h3 x0 (x1 + (1 : Int32))
def f_X4_clear (h : Hp) (x0 : Nat) : Option (Unit × Hp) :=
  gd (kd x0 = 4) <|
  lt ((si h x0 0 (12 : Int32))) <| fun h1 =>
  lt ((si h1 x0 1 (0 : Int32))) <| fun h3 =>
  bd (f_X4_setLaw h3 x0 (1 : Int32) (1 : Int32) (2 : Int32)) <| fun r5 h6 =>
  f_X4_clear_21 FU h6 x0 (0 : Int32)
def f_X4_isNumber (h : Hp) (x0 : Nat) (x1 : Int32) : Option (Int32 × Hp) :=
  gd (kd x0 = 4) <|
  if x1 < (1 : Int32) then
    some ((0 : Int32), h)
  else
    if (h.1 x0 0) < x1 then
      some ((0 : Int32), h)
    else
      some ((1 : Int32), h)
def f_X4_isPerson (h : Hp) (x0 : Nat) (x1 : Int32) : Option (Int32 × Hp) :=
  gd (kd x0 = 4) <|
  if x1 < 0 then
    some ((0 : Int32), h)
  else
    if (h.1 x0 1) ≤ x1 then
      some ((0 : Int32), h)
    else
      some ((1 : Int32), h)
def f_X4_all (h : Hp) (x0 : Nat) : Option (Int32 × Hp) :=
  gd (kd x0 = 4) <|
  some ((((1 : Int32) <<< ((h.1 x0 0) &&& 31)) - (1 : Int32)), h)
def f_X4_isSet (h : Hp) (x0 : Nat) (x1 : Int32) : Option (Int32 × Hp) :=
  gd (kd x0 = 4) <|
  if x1 = 0 then
    some ((0 : Int32), h)
  else
    bd (f_X4_all h x0) <| fun r1 h2 =>
    if (x1 &&& (r1 ^^^ (-1 : Int32))) = 0 then
      some ((1 : Int32), h2)
    else
      some ((0 : Int32), h2)
def f_X4_price (h : Hp) (x0 : Nat) (x1 : Int32) (x2 : Int32) : Option (Int32 × Hp) :=
  gd (kd x0 = 4) <|
  bd (f_X4_isNumber h x0 x1) <| fun r1 h2 =>
  if r1 = 0 then
    some ((0 : Int32), h2)
  else
    gd (kd (h2.2 x0 5) = 13) <|
    gd (inr x1 (ln (h2.2 x0 5)) = true) <|
    if x2 = (2 : Int32) then
      some (((h2.1 (h2.2 x0 5) x1.toNatClampNeg) + (h2.1 x0 3)), h2)
    else
      if x2 = (3 : Int32) then
        some (((h2.1 (h2.2 x0 5) x1.toNatClampNeg) + (h2.1 x0 4)), h2)
      else
        some (((h2.1 (h2.2 x0 5) x1.toNatClampNeg) + (0 : Int32)), h2)
def f_X4_setNumbers (h : Hp) (x0 : Nat) (x1 : Int32) : Option (Int32 × Hp) :=
  gd (kd x0 = 4) <|
  if x1 < (1 : Int32) then
    some ((0 : Int32), h)
  else
    if x1 ≤ (24 : Int32) then
      lt ((si h x0 0 x1)) <| fun h1 =>
      some ((1 : Int32), h1)
    else
      some ((0 : Int32), h)
def f_X4_setCost (h : Hp) (x0 : Nat) (x1 : Int32) (x2 : Int32) : Option (Int32 × Hp) :=
  gd (kd x0 = 4) <|
  bd (f_X4_isNumber h x0 x1) <| fun r1 h2 =>
  if r1 = 0 then
    some ((0 : Int32), h2)
  else
    if x2 ≤ (9 : Int32) then
      gd (kd (h2.2 x0 5) = 13) <|
      gd (inr x1 (ln (h2.2 x0 5)) = true) <|
      lt ((si h2 (h2.2 x0 5) x1.toNatClampNeg x2)) <| fun h6 =>
      some ((1 : Int32), h6)
    else
      some ((0 : Int32), h2)
def f_X4_addPerson (h : Hp) (x0 : Nat) (x1 : Int32) : Option (Int32 × Hp) :=
  gd (kd x0 = 4) <|
  if (6 : Int32) ≤ (h.1 x0 1) then
    some ((0 : Int32), h)
  else
    if x1 < (1 : Int32) then
      some ((0 : Int32), h)
    else
      if x1 ≤ (99 : Int32) then
        gd (kd (h.2 x0 7) = 13) <|
        gd (inr (h.1 x0 1) (ln (h.2 x0 7)) = true) <|
        lt ((si h (h.2 x0 7) (h.1 x0 1).toNatClampNeg x1)) <| fun h3 =>
        lt ((si h3 x0 1 ((h3.1 x0 1) + (1 : Int32)))) <| fun h5 =>
        some ((1 : Int32), h5)
      else
        some ((0 : Int32), h)
def f_X4_setOwner_27 : Nat → Hp → Nat → Int32 → Int32 → Int32 → Option (Int32 × Hp)
  | 0 => fun _ _ _ _ _ => none
  | fu + 1 => fun h x0 x2 x3 x4 =>
    if (6 : Int32) ≤ x4 then
      gd (kd (h.2 x0 6) = 13) <|
      gd (inr x2 (ln (h.2 x0 6)) = true) <|
      gd (inr x2 (ln (h.2 x0 6)) = true) <|
      lt ((si h (h.2 x0 6) x2.toNatClampNeg ((h.1 (h.2 x0 6) x2.toNatClampNeg) ||| x3))) <| fun h4 =>
      some ((1 : Int32), h4)
    else
      gd (kd (h.2 x0 6) = 13) <|
      gd (inr x4 (ln (h.2 x0 6)) = true) <|
      gd (inr x4 (ln (h.2 x0 6)) = true) <|
      lt ((si h (h.2 x0 6) x4.toNatClampNeg ((h.1 (h.2 x0 6) x4.toNatClampNeg) &&& (x3 ^^^ (-1 : Int32))))) <| fun h9 =>
      f_X4_setOwner_27 fu h9 x0 x2 x3 (x4 + (1 : Int32))
def f_X4_setOwner (h : Hp) (x0 : Nat) (x1 : Int32) (x2 : Int32) : Option (Int32 × Hp) :=
  gd (kd x0 = 4) <|
  bd (f_X4_isNumber h x0 x1) <| fun r1 h2 =>
  if r1 = 0 then
    some ((0 : Int32), h2)
  else
    bd (f_X4_isPerson h2 x0 x2) <| fun r4 h5 =>
    if r4 = 0 then
      some ((0 : Int32), h5)
    else
      f_X4_setOwner_27 FU h5 x0 x2 ((1 : Int32) <<< ((x1 - (1 : Int32)) &&& 31)) (0 : Int32)
def f_X7_setPort_15 (k8 : Hp → Nat → Nat → Int32 → Option (Unit × Hp)) : Nat → Hp → Nat → Nat → Int32 → Int32 → Option (Unit × Hp)
  | 0 => fun _ _ _ _ _ => none
  | fu + 1 => fun h x0 x1 x2 x3 =>
    if (24 : Int32) < x3 then
      k8 h x0 x1 (x2 + (1 : Int32))
    else
      gd (kd (h.2 x0 8) = 13) <|
      bd (f_X4_price h x1 x3 x2) <| fun r2 h3 =>
      gd (inr ((x2 * (25 : Int32)) + x3) (ln (h.2 x0 8)) = true) <|
      lt ((si h3 (h.2 x0 8) ((x2 * (25 : Int32)) + x3).toNatClampNeg r2)) <| fun h6 =>
      f_X7_setPort_15 k8 fu h6 x0 x1 x2 (x3 + (1 : Int32))
def f_X7_setPort_8 : Nat → Hp → Nat → Nat → Int32 → Option (Unit × Hp)
  | 0 => fun _ _ _ _ => none
  | fu + 1 => fun h x0 x1 x2 =>
    if (3 : Int32) < x2 then
      some ((), h)
    else
      f_X7_setPort_15 (f_X7_setPort_8 fu) FU h x0 x1 x2 (1 : Int32)
def f_X7_setPort (h : Hp) (x0 : Nat) (x1 : Nat) : Option (Unit × Hp) :=
  gd (kd x0 = 7) <|
  gd (kd x1 = 4) <|
  lt ((si h x0 11 (-4 : Int32))) <| fun h1 =>
  f_X7_setPort_8 FU h1 x0 x1 (1 : Int32)
def f_X5_forget_10 : Nat → Hp → Nat → Int32 → Option (Unit × Hp)
  | 0 => fun _ _ _ => none
  | fu + 1 => fun h x0 x2 =>
    if (800 : Int32) ≤ x2 then
      some ((), h)
    else
      gd (kd (h.2 x0 2) = 13) <|
      gd (inr x2 (ln (h.2 x0 2)) = true) <|
      lt ((si h (h.2 x0 2) x2.toNatClampNeg (-4 : Int32))) <| fun h3 =>
      f_X5_forget_10 fu h3 x0 (x2 + (1 : Int32))
def f_X5_forget (h : Hp) (x0 : Nat) (x1 : Nat) : Option (Unit × Hp) :=
  gd (kd x0 = 5) <|
  gd (kd x1 = 4) <|
  gd (kd (h.2 x0 0) = 7) <|
  bd (f_X7_setPort h (h.2 x0 0) x1) <| fun r2 h3 =>
  f_X5_forget_10 FU h3 x0 (0 : Int32)
def f_X5_price (h : Hp) (x0 : Nat) : Option (Int32 × Hp) :=
  gd (kd x0 = 5) <|
  gd (kd (h.2 x0 6) = 13) <|
  gd (inr (h.1 x0 8) (ln (h.2 x0 6)) = true) <|
  some ((h.1 (h.2 x0 6) (h.1 x0 8).toNatClampNeg), h)
def f_X5_inUse (h : Hp) (x0 : Nat) (x1 : Int32) : Option (Int32 × Hp) :=
  gd (kd x0 = 5) <|
  if x1 = (1 : Int32) then
    gd (kd (h.2 x0 3) = 13) <|
    gd (inr (h.1 x0 8) (ln (h.2 x0 3)) = true) <|
    some ((h.1 (h.2 x0 3) (h.1 x0 8).toNatClampNeg), h)
  else
    if x1 = (2 : Int32) then
      gd (kd (h.2 x0 4) = 13) <|
      gd (inr (h.1 x0 8) (ln (h.2 x0 4)) = true) <|
      some ((h.1 (h.2 x0 4) (h.1 x0 8).toNatClampNeg), h)
    else
      gd (kd (h.2 x0 5) = 13) <|
      gd (inr (h.1 x0 8) (ln (h.2 x0 5)) = true) <|
      some ((h.1 (h.2 x0 5) (h.1 x0 8).toNatClampNeg), h)
def f_X6_setFree_53 : Nat → Hp → Nat → Nat → Int32 → Option (Unit × Hp)
  | 0 => fun _ _ _ _ => none
  | fu + 1 => fun h x0 x1 x2 =>
    if (6 : Int32) ≤ x2 then
      some ((), h)
    else
      gd (kd (h.2 x0 6) = 13) <|
      gd (kd (h.2 x1 6) = 13) <|
      gd (inr x2 (ln (h.2 x1 6)) = true) <|
      gd (inr x2 (ln (h.2 x0 6)) = true) <|
      lt ((si h (h.2 x0 6) x2.toNatClampNeg (h.1 (h.2 x1 6) x2.toNatClampNeg))) <| fun h5 =>
      f_X6_setFree_53 fu h5 x0 x1 (x2 + (1 : Int32))
def f_X6_setFree (h : Hp) (x0 : Nat) (x1 : Nat) : Option (Unit × Hp) :=
  gd (kd x0 = 6) <|
  gd (kd x1 = 4) <|
  lt ((si h x0 0 (((1 : Int32) <<< ((h.1 x1 1) &&& 31)) - (1 : Int32)))) <| fun h1 =>
  bd (f_X4_all h1 x1) <| fun r3 h4 =>
  lt ((si h4 x0 1 r3)) <| fun h6 =>
  lt ((si h6 x0 2 (0 : Int32))) <| fun h8 =>
  gd (kd (h8.2 x1 6) = 13) <|
  bd (f_X11_together h8 (h8.2 x1 6)) <| fun r11 h12 =>
  lt ((si h12 x0 3 ((h8.1 x0 1) &&& (r11 ^^^ (-1 : Int32))))) <| fun h14 =>
  lt ((si h14 x0 4 (h14.1 x1 2))) <| fun h16 =>
  f_X6_setFree_53 FU h16 x0 x1 (0 : Int32)
def f_X6_setNow_30 : Nat → Hp → Nat → Nat → Nat → Int32 → Option (Unit × Hp)
  | 0 => fun _ _ _ _ _ => none
  | fu + 1 => fun h x0 x1 x2 x3 =>
    if (6 : Int32) ≤ x3 then
      some ((), h)
    else
      gd (kd (h.2 x0 6) = 13) <|
      gd (inr x3 (ln (h.2 x0 6)) = true) <|
      gd (kd (h.2 x2 1) = 13) <|
      gd (inr x3 (ln (h.2 x2 1)) = true) <|
      gd (inr x3 (ln (h.2 x0 6)) = true) <|
      lt ((si h (h.2 x0 6) x3.toNatClampNeg ((h.1 (h.2 x0 6) x3.toNatClampNeg) ||| (h.1 (h.2 x2 1) x3.toNatClampNeg)))) <| fun h6 =>
      gd (kd (h6.2 x0 5) = 13) <|
      gd (kd (h6.2 x1 7) = 13) <|
      gd (inr x3 (ln (h6.2 x1 7)) = true) <|
      gd (inr x3 (ln (h6.2 x0 5)) = true) <|
      lt ((si h6 (h6.2 x0 5) x3.toNatClampNeg (h6.1 (h6.2 x1 7) x3.toNatClampNeg))) <| fun h12 =>
      f_X6_setNow_30 fu h12 x0 x1 x2 (x3 + (1 : Int32))
def f_X6_setNow (h : Hp) (x0 : Nat) (x1 : Nat) (x2 : Nat) : Option (Unit × Hp) :=
  gd (kd x0 = 6) <|
  gd (kd x1 = 4) <|
  gd (kd x2 = 2) <|
  bd (f_X6_setFree h x0 x1) <| fun r1 h2 =>
  lt ((si h2 x0 0 ((h2.1 x0 0) &&& ((h2.1 x2 2) ^^^ (-1 : Int32))))) <| fun h4 =>
  bd (f_X2_taken h4 x2) <| fun r6 h7 =>
  lt ((si h7 x0 2 r6)) <| fun h9 =>
  f_X6_setNow_30 FU h9 x0 x1 x2 (0 : Int32)
def f_X6_setDrawn_8 : Nat → Hp → Nat → Int32 → Int32 → Int32 → Option (Unit × Hp)
  | 0 => fun _ _ _ _ _ => none
  | fu + 1 => fun h x0 x2 x3 x4 =>
    if (6 : Int32) ≤ x4 then
      some ((), h)
    else
      gd (kd (h.2 x0 5) = 13) <|
      gd (inr x4 (ln (h.2 x0 5)) = true) <|
      lt ((si h (h.2 x0 5) x4.toNatClampNeg (((((((((7919 : Int64) * x2.toInt64) + ((6151 : Int64) * x3.toInt64)) + ((101 : Int64) * x4.toInt64)) + (1 : Int64)) * (((((7919 : Int64) * x2.toInt64) + ((6151 : Int64) * x3.toInt64)) + ((101 : Int64) * x4.toInt64)) + (1 : Int64))) - ((((((7919 : Int64) * x2.toInt64) + ((6151 : Int64) * x3.toInt64)) + ((101 : Int64) * x4.toInt64)) + (1 : Int64)) * (((((7919 : Int64) * x2.toInt64) + ((6151 : Int64) * x3.toInt64)) + ((101 : Int64) * x4.toInt64)) + (1 : Int64))) / (65521 : Int64) * (65521 : Int64)) - (((((((7919 : Int64) * x2.toInt64) + ((6151 : Int64) * x3.toInt64)) + ((101 : Int64) * x4.toInt64)) + (1 : Int64)) * (((((7919 : Int64) * x2.toInt64) + ((6151 : Int64) * x3.toInt64)) + ((101 : Int64) * x4.toInt64)) + (1 : Int64))) - ((((((7919 : Int64) * x2.toInt64) + ((6151 : Int64) * x3.toInt64)) + ((101 : Int64) * x4.toInt64)) + (1 : Int64)) * (((((7919 : Int64) * x2.toInt64) + ((6151 : Int64) * x3.toInt64)) + ((101 : Int64) * x4.toInt64)) + (1 : Int64))) / (65521 : Int64) * (65521 : Int64)) / (99 : Int64) * (99 : Int64)).toInt32 + (1 : Int32)))) <| fun h3 =>
      f_X6_setDrawn_8 fu h3 x0 x2 x3 (x4 + (1 : Int32))
def f_X6_setDrawn (h : Hp) (x0 : Nat) (x1 : Nat) (x2 : Int32) (x3 : Int32) : Option (Unit × Hp) :=
  gd (kd x0 = 6) <|
  gd (kd x1 = 4) <|
  bd (f_X6_setFree h x0 x1) <| fun r1 h2 =>
  f_X6_setDrawn_8 FU h2 x0 x2 x3 (0 : Int32)
def f_X8_append (h : Hp) (x0 : Nat) (x1 : Int32) : Option (Int32 × Hp) :=
  gd (kd x0 = 8) <|
  if (h.1 x0 0) < (200 : Int32) then
    gd (kd (h.2 x0 1) = 14) <|
    gd (inr (h.1 x0 0) (ln (h.2 x0 1)) = true) <|
    lt ((si h (h.2 x0 1) (h.1 x0 0).toNatClampNeg (vp_nar .char x1))) <| fun h3 =>
    lt ((si h3 x0 0 ((h3.1 x0 0) + (1 : Int32)))) <| fun h5 =>
    some ((1 : Int32), h5)
  else
    some ((0 : Int32), h)
def f_X8_accept (h : Hp) (x0 : Nat) (x1 : Int32) (x2 : Nat) : Option (Int32 × Hp) :=
  gd (kd x0 = 8) <|
  gd (kd x2 = 4) <|
  if x1 = (99 : Int32) then
    gd (kd (h.2 x0 2) = 13) <|
    gd (inr (0 : Int32) (ln (h.2 x0 2)) = true) <|
    gd (kd (h.2 x0 2) = 13) <|
    gd (inr (1 : Int32) (ln (h.2 x0 2)) = true) <|
    bd (f_X4_setCost h x2 (h.1 (h.2 x0 2) (0 : Int32).toNatClampNeg) (h.1 (h.2 x0 2) (1 : Int32).toNatClampNeg)) <| fun r5 h6 =>
    gd (r5 = 0 ∨ r5 = 1) <|
    some (r5, h6)
  else if x1 = (104 : Int32) then
    gd (kd (h.2 x0 2) = 13) <|
    gd (inr (0 : Int32) (ln (h.2 x0 2)) = true) <|
    gd (kd (h.2 x0 2) = 13) <|
    gd (inr (1 : Int32) (ln (h.2 x0 2)) = true) <|
    bd (f_X4_setOwner h x2 (h.1 (h.2 x0 2) (0 : Int32).toNatClampNeg) (h.1 (h.2 x0 2) (1 : Int32).toNatClampNeg)) <| fun r13 h14 =>
    gd (r13 = 0 ∨ r13 = 1) <|
    some (r13, h14)
  else if x1 = (107 : Int32) then
    gd (kd (h.2 x0 2) = 13) <|
    gd (inr (0 : Int32) (ln (h.2 x0 2)) = true) <|
    gd (kd (h.2 x0 2) = 13) <|
    gd (inr (1 : Int32) (ln (h.2 x0 2)) = true) <|
    gd (kd (h.2 x0 2) = 13) <|
    gd (inr (2 : Int32) (ln (h.2 x0 2)) = true) <|
    bd (f_X4_setLaw h x2 (h.1 (h.2 x0 2) (0 : Int32).toNatClampNeg) (h.1 (h.2 x0 2) (1 : Int32).toNatClampNeg) (h.1 (h.2 x0 2) (2 : Int32).toNatClampNeg)) <| fun r23 h24 =>
    gd (r23 = 0 ∨ r23 = 1) <|
    some (r23, h24)
  else if x1 = (110 : Int32) then
    if (h.1 x0 4) = 0 then
      some ((0 : Int32), h)
    else
      gd (kd (h.2 x0 2) = 13) <|
      gd (inr (0 : Int32) (ln (h.2 x0 2)) = true) <|
      bd (f_X4_setNumbers h x2 (h.1 (h.2 x0 2) (0 : Int32).toNatClampNeg)) <| fun r29 h30 =>
      if r29 = 0 then
        some ((0 : Int32), h30)
      else
        some ((1 : Int32), h30)
  else if x1 = (112 : Int32) then
    gd (kd (h.2 x0 2) = 13) <|
    gd (inr (0 : Int32) (ln (h.2 x0 2)) = true) <|
    bd (f_X4_addPerson h x2 (h.1 (h.2 x0 2) (0 : Int32).toNatClampNeg)) <| fun r34 h35 =>
    gd (r34 = 0 ∨ r34 = 1) <|
    some (r34, h35)
  else 
    some ((0 : Int32), h)
def f_X8_numbersBehind (h : Hp) (x0 : Int32) : Option (Int32 × Hp) :=
  if x0 = (99 : Int32) then
    some ((2 : Int32), h)
  else if x0 = (104 : Int32) then
    some ((2 : Int32), h)
  else if x0 = (107 : Int32) then
    some ((3 : Int32), h)
  else if x0 = (110 : Int32) then
    some ((1 : Int32), h)
  else if x0 = (112 : Int32) then
    some ((1 : Int32), h)
  else 
    some ((0 : Int32), h)
def f_X8_readNumber_82 (h : Hp) (x0 : Nat) (x1 : Int32) (x2 : Int32) (x3 : Int32) : Option (Int32 × Hp) :=
  gd (kd (h.2 x0 2) = 13) <|
  gd (inr x1 (ln (h.2 x0 2)) = true) <|
  lt ((si h (h.2 x0 2) x1.toNatClampNeg x3)) <| fun h3 =>
  if x2 ≤ 0 then
    some ((0 : Int32), h3)
  else
    some ((1 : Int32), h3)
def f_X8_readNumber_4 : Nat → Hp → Nat → Int32 → Int32 → Int32 → Option (Int32 × Hp)
  | 0 => fun _ _ _ _ _ => none
  | fu + 1 => fun h x0 x1 x2 x3 =>
    if (2 : Int32) ≤ x2 then
      f_X8_readNumber_82 h x0 x1 x2 x3
    else
      if (h.1 x0 0) ≤ (h.1 x0 3) then
        f_X8_readNumber_82 h x0 x1 x2 x3
      else
        gd (kd (h.2 x0 1) = 14) <|
        gd (inr (h.1 x0 3) (ln (h.2 x0 1)) = true) <|
        if (h.1 (h.2 x0 1) (h.1 x0 3).toNatClampNeg) < (48 : Int32) then
          f_X8_readNumber_82 h x0 x1 x2 x3
        else
          gd (kd (h.2 x0 1) = 14) <|
          gd (inr (h.1 x0 3) (ln (h.2 x0 1)) = true) <|
          if (57 : Int32) < (h.1 (h.2 x0 1) (h.1 x0 3).toNatClampNeg) then
            f_X8_readNumber_82 h x0 x1 x2 x3
          else
            gd (kd (h.2 x0 1) = 14) <|
            gd (inr (h.1 x0 3) (ln (h.2 x0 1)) = true) <|
            lt ((si h x0 3 ((h.1 x0 3) + (1 : Int32)))) <| fun h7 =>
            f_X8_readNumber_4 fu h7 x0 x1 (x2 + (1 : Int32)) ((x3 * (10 : Int32)) + ((h.1 (h.2 x0 1) (h.1 x0 3).toNatClampNeg) - (48 : Int32)))
def f_X8_readNumber (h : Hp) (x0 : Nat) (x1 : Int32) : Option (Int32 × Hp) :=
  gd (kd x0 = 8) <|
  f_X8_readNumber_4 FU h x0 x1 (0 : Int32) (0 : Int32)
def f_X8_readItem_89 (h : Hp) (x1 : Int32) : Option (Int32 × Hp) :=
  if x1 ≤ 0 then
    some ((0 : Int32), h)
  else
    some ((1 : Int32), h)
def f_X8_readItem_68 (k12 : Hp → Nat → Int32 → Int32 → Option (Int32 × Hp)) (h : Hp) (x0 : Nat) (x1 : Int32) (x2 : Int32) (t0 : Int32) (t1 : Int32) : Option (Int32 × Hp) :=
  if t0 = t1 then
    lt ((si h x0 3 ((h.1 x0 3) + (1 : Int32)))) <| fun h1 =>
    k12 h1 x0 x1 (x2 + (1 : Int32))
  else
    some ((0 : Int32), h)
def f_X8_readItem_12 : Nat → Hp → Nat → Int32 → Int32 → Option (Int32 × Hp)
  | 0 => fun _ _ _ _ => none
  | fu + 1 => fun h x0 x1 x2 =>
    if x1 ≤ x2 then
      f_X8_readItem_89 h x1
    else
      gd (kd (h.2 x0 2) = 13) <|
      if (nI (ln (h.2 x0 2))) ≤ x2 then
        f_X8_readItem_89 h x1
      else
        bd (f_X8_readNumber h x0 x2) <| fun r2 h3 =>
        if r2 = 0 then
          some ((0 : Int32), h3)
        else
          if (h3.1 x0 0) ≤ (h3.1 x0 3) then
            some ((0 : Int32), h3)
          else
            gd (kd (h3.2 x0 1) = 14) <|
            gd (inr (h3.1 x0 3) (ln (h3.2 x0 1)) = true) <|
            if (x1 - (1 : Int32)) ≤ x2 then
              f_X8_readItem_68 (f_X8_readItem_12 fu) h3 x0 x1 x2 (h3.1 (h3.2 x0 1) (h3.1 x0 3).toNatClampNeg) (59 : Int32)
            else
              f_X8_readItem_68 (f_X8_readItem_12 fu) h3 x0 x1 x2 (h3.1 (h3.2 x0 1) (h3.1 x0 3).toNatClampNeg) (44 : Int32)
def f_X8_readItem (h : Hp) (x0 : Nat) (x1 : Int32) : Option (Int32 × Hp) :=
  gd (kd x0 = 8) <|
  lt ((si h x0 3 ((h.1 x0 3) + (1 : Int32)))) <| fun h1 =>
  f_X8_readItem_12 FU h1 x0 x1 (0 : Int32)
def f_X8_readInto_91 (k16 : Hp → Nat → Nat → Int32 → Option (Int32 × Hp)) (h : Hp) (x0 : Nat) (x1 : Nat) (x2 : Int32) (t0 : Nat) (t1 : Int32) : Option (Int32 × Hp) :=
  gd (t1 = 0 ∨ t1 = 1) <|
  lt ((si h t0 4 t1)) <| fun h2 =>
  k16 h2 x0 x1 (x2 + (1 : Int32))
def f_X8_readInto_90 (k16 : Hp → Nat → Nat → Int32 → Option (Int32 × Hp)) (h : Hp) (x0 : Nat) (x1 : Nat) (x2 : Int32) (t0 : Nat) : Option (Int32 × Hp) :=
  f_X8_readInto_91 k16 h x0 x1 x2 t0 (0 : Int32)
def f_X8_readInto_16 : Nat → Hp → Nat → Nat → Int32 → Option (Int32 × Hp)
  | 0 => fun _ _ _ _ => none
  | fu + 1 => fun h x0 x1 x2 =>
    if (200 : Int32) ≤ x2 then
      some ((-4 : Int32), h)
    else
      if (h.1 x0 0) ≤ (h.1 x0 3) then
        some ((-4 : Int32), h)
      else
        gd (kd (h.2 x0 1) = 14) <|
        gd (inr (h.1 x0 3) (ln (h.2 x0 1)) = true) <|
        bd (f_X8_numbersBehind h (h.1 (h.2 x0 1) (h.1 x0 3).toNatClampNeg)) <| fun r3 h4 =>
        bd (f_X8_readItem h4 x0 r3) <| fun r6 h7 =>
        if r6 = 0 then
          some ((h.1 x0 3), h7)
        else
          bd (f_X8_accept h7 x0 (h.1 (h.2 x0 1) (h.1 x0 3).toNatClampNeg) x1) <| fun r9 h10 =>
          if r9 = 0 then
            some ((h.1 x0 3), h10)
          else
            if (h10.1 x0 4) = 0 then
              f_X8_readInto_90 (f_X8_readInto_16 fu) h10 x0 x1 x2 x0
            else
              if (h.1 (h.2 x0 1) (h.1 x0 3).toNatClampNeg) = (110 : Int32) then
                f_X8_readInto_91 (f_X8_readInto_16 fu) h10 x0 x1 x2 x0 (1 : Int32)
              else
                f_X8_readInto_90 (f_X8_readInto_16 fu) h10 x0 x1 x2 x0
def f_X8_readInto (h : Hp) (x0 : Nat) (x1 : Nat) : Option (Int32 × Hp) :=
  gd (kd x0 = 8) <|
  gd (kd x1 = 4) <|
  bd (f_X4_clear h x1) <| fun r1 h2 =>
  lt ((si h2 x0 3 (0 : Int32))) <| fun h4 =>
  lt ((si h4 x0 4 (1 : Int32))) <| fun h6 =>
  f_X8_readInto_16 FU h6 x0 x1 (0 : Int32)
def f_X10_append (h : Hp) (x0 : Nat) (x1 : Int32) (x2 : Int32) : Option (Int32 × Hp) :=
  gd (kd x0 = 10) <|
  if (h.1 x0 0) < (10 : Int32) then
    gd (kd (h.2 x0 1) = 13) <|
    gd (inr (h.1 x0 0) (ln (h.2 x0 1)) = true) <|
    lt ((si h (h.2 x0 1) (h.1 x0 0).toNatClampNeg x1)) <| fun h3 =>
    gd (kd (h3.2 x0 2) = 13) <|
    gd (inr (h3.1 x0 0) (ln (h3.2 x0 2)) = true) <|
    lt ((si h3 (h3.2 x0 2) (h3.1 x0 0).toNatClampNeg x2)) <| fun h7 =>
    lt ((si h7 x0 0 ((h7.1 x0 0) + (1 : Int32)))) <| fun h9 =>
    some ((1 : Int32), h9)
  else
    some ((0 : Int32), h)
def f_X10_set_4 : Nat → Hp → Nat → Int32 → Int32 → Option (Int32 × Hp)
  | 0 => fun _ _ _ _ => none
  | fu + 1 => fun h x0 x1 x2 =>
    if (h.1 x0 0) ≤ x2 then
      some (x1, h)
    else
      gd (kd (h.2 x0 1) = 13) <|
      gd (inr x2 (ln (h.2 x0 1)) = true) <|
      f_X10_set_4 fu h x0 (x1 ||| ((1 : Int32) <<< (((h.1 (h.2 x0 1) x2.toNatClampNeg) - (1 : Int32)) &&& 31))) (x2 + (1 : Int32))
def f_X10_set (h : Hp) (x0 : Nat) : Option (Int32 × Hp) :=
  gd (kd x0 = 10) <|
  f_X10_set_4 FU h x0 (0 : Int32) (0 : Int32)
def f_X10_sum_4 : Nat → Hp → Nat → Int32 → Int32 → Option (Int32 × Hp)
  | 0 => fun _ _ _ _ => none
  | fu + 1 => fun h x0 x1 x2 =>
    if (h.1 x0 0) ≤ x2 then
      some (x1, h)
    else
      gd (kd (h.2 x0 1) = 13) <|
      gd (inr x2 (ln (h.2 x0 1)) = true) <|
      gd (kd (h.2 x0 2) = 13) <|
      gd (inr x2 (ln (h.2 x0 2)) = true) <|
      bd (f_X11_countsAs h (h.1 (h.2 x0 1) x2.toNatClampNeg) (h.1 (h.2 x0 2) x2.toNatClampNeg)) <| fun r5 h6 =>
      f_X10_sum_4 fu h6 x0 (x1 + r5) (x2 + (1 : Int32))
def f_X10_sum (h : Hp) (x0 : Nat) : Option (Int32 × Hp) :=
  gd (kd x0 = 10) <|
  f_X10_sum_4 FU h x0 (0 : Int32) (0 : Int32)
def f_X10_price_4 : Nat → Hp → Nat → Nat → Int32 → Int32 → Option (Int32 × Hp)
  | 0 => fun _ _ _ _ _ => none
  | fu + 1 => fun h x0 x1 x2 x3 =>
    if (h.1 x0 0) ≤ x3 then
      some (x2, h)
    else
      gd (kd (h.2 x0 1) = 13) <|
      gd (inr x3 (ln (h.2 x0 1)) = true) <|
      gd (kd (h.2 x0 2) = 13) <|
      gd (inr x3 (ln (h.2 x0 2)) = true) <|
      bd (f_X4_price h x1 (h.1 (h.2 x0 1) x3.toNatClampNeg) (h.1 (h.2 x0 2) x3.toNatClampNeg)) <| fun r5 h6 =>
      f_X10_price_4 fu h6 x0 x1 (x2 + r5) (x3 + (1 : Int32))
def f_X10_price (h : Hp) (x0 : Nat) (x1 : Nat) : Option (Int32 × Hp) :=
  gd (kd x0 = 10) <|
  gd (kd x1 = 4) <|
  f_X10_price_4 FU h x0 x1 (0 : Int32) (0 : Int32)
def f_X10_areSaying_23 : Nat → Hp → Nat → Int32 → Int32 → Option (Int32 × Hp)
  | 0 => fun _ _ _ _ => none
  | fu + 1 => fun h x0 x1 x2 =>
    if (h.1 x0 0) ≤ x2 then
      some ((1 : Int32), h)
    else
      gd (kd (h.2 x0 2) = 13) <|
      gd (inr x2 (ln (h.2 x0 2)) = true) <|
      bd (f_X11_lastUse h x1) <| fun r3 h4 =>
      if (h.1 (h.2 x0 2) x2.toNatClampNeg) ≤ r3 then
        f_X10_areSaying_23 fu h4 x0 x1 (x2 + (1 : Int32))
      else
        some ((0 : Int32), h4)
def f_X10_areSaying (h : Hp) (x0 : Nat) (x1 : Int32) : Option (Int32 × Hp) :=
  gd (kd x0 = 10) <|
  if (h.1 x0 0) = 0 then
    some ((0 : Int32), h)
  else
    if x1 = 0 then
      if (h.1 x0 0) ≤ (1 : Int32) then
        f_X10_areSaying_23 FU h x0 x1 (0 : Int32)
      else
        some ((0 : Int32), h)
    else
      f_X10_areSaying_23 FU h x0 x1 (0 : Int32)
def f_X11_write (h : Hp) (x0 : Nat) (x1 : Int32) : Option (Int32 × Hp) :=
  gd (kd x0 = 11) <|
  if x1 < (32 : Int32) then
    some ((-1 : Int32), h)
  else
    if x1 ≤ (126 : Int32) then
      gd (kd (h.2 x0 0) = 8) <|
      bd (f_X8_append h (h.2 x0 0) (x1.toUInt32 % 65536).toInt32) <| fun r2 h3 =>
      if r2 = 0 then
        some ((-3 : Int32), h3)
      else
        gd (kd (h3.2 x0 0) = 8) <|
        some ((h3.1 (h3.2 x0 0) 0), h3)
    else
      some ((-1 : Int32), h)
def f_X11_wipe (h : Hp) (x0 : Nat) : Option (Int32 × Hp) :=
  gd (kd x0 = 11) <|
  gd (kd (h.2 x0 0) = 8) <|
  gd (kd (h.2 x0 0) = 8) <|
  lt ((si h (h.2 x0 0) 0 (0 : Int32))) <| fun h3 =>
  some ((h.1 (h.2 x0 0) 0), h3)
def f_X11_fault (h : Hp) (x0 : Nat) : Option (Int32 × Hp) :=
  gd (kd x0 = 11) <|
  gd (kd (h.2 x0 0) = 8) <|
  gd (kd (h.2 x0 2) = 4) <|
  bd (f_X8_readInto h (h.2 x0 0) (h.2 x0 2)) <| fun r3 h4 =>
  some (r3, h4)
def f_X11_lay (h : Hp) (x0 : Nat) : Option (Int32 × Hp) :=
  gd (kd x0 = 11) <|
  gd (kd (h.2 x0 0) = 8) <|
  gd (kd (h.2 x0 2) = 4) <|
  bd (f_X8_readInto h (h.2 x0 0) (h.2 x0 2)) <| fun r3 h4 =>
  if r3 = (-4 : Int32) then
    gd (kd (h4.2 x0 2) = 4) <|
    if (h4.1 (h4.2 x0 2) 1) = 0 then
      some ((-2 : Int32), h4)
    else
      gd (kd (h4.2 x0 1) = 4) <|
      gd (kd (h4.2 x0 2) = 4) <|
      lt ((sr h4 x0 1 (h4.2 x0 2))) <| fun h9 =>
      lt ((sr h9 x0 2 (h4.2 x0 1))) <| fun h11 =>
      gd (kd (h11.2 x0 3) = 2) <|
      bd (f_X2_begin h11 (h11.2 x0 3) (0 : Int32)) <| fun r14 h15 =>
      gd (kd (h15.2 x0 4) = 3) <|
      lt ((si h15 (h15.2 x0 4) 0 (0 : Int32))) <| fun h18 =>
      gd (kd (h18.2 x0 5) = 3) <|
      lt ((si h18 (h18.2 x0 5) 0 (0 : Int32))) <| fun h21 =>
      gd (kd (h21.2 x0 6) = 10) <|
      lt ((si h21 (h21.2 x0 6) 0 (0 : Int32))) <| fun h24 =>
      gd (kd (h24.2 x0 7) = 0) <|
      lt ((si h24 (h24.2 x0 7) 0 (0 : Int32))) <| fun h27 =>
      gd (kd (h27.2 x0 9) = 5) <|
      gd (kd (h27.2 x0 1) = 4) <|
      bd (f_X5_forget h27 (h27.2 x0 9) (h27.2 x0 1)) <| fun r31 h32 =>
      gd (kd (h32.2 x0 1) = 4) <|
      some ((h32.1 (h32.2 x0 1) 0), h32)
  else
    some ((-2 : Int32), h4)
def f_X11_holderOf_2 : Nat → Hp → Int32 → Nat → Int32 → Option (Int32 × Hp)
  | 0 => fun _ _ _ _ => none
  | fu + 1 => fun h x0 x1 x2 =>
    if (nI (ln x1)) ≤ x2 then
      some ((-4 : Int32), h)
    else
      gd (inr x2 (ln x1) = true) <|
      bd (f_X11_hasBit h (h.1 x1 x2.toNatClampNeg) (x0 - (1 : Int32))) <| fun r2 h3 =>
      if r2 = 0 then
        f_X11_holderOf_2 fu h3 x0 x1 (x2 + (1 : Int32))
      else
        some (x2, h3)
def f_X11_holderOf (h : Hp) (x0 : Int32) (x1 : Nat) : Option (Int32 × Hp) :=
  gd (kd x1 = 13) <|
  f_X11_holderOf_2 FU h x0 x1 (0 : Int32)
def f_X11_number (h : Hp) (x0 : Nat) (x1 : Int32) (x2 : Int32) : Option (Int32 × Hp) :=
  gd (kd x0 = 11) <|
  gd (kd (h.2 x0 1) = 4) <|
  bd (f_X4_isNumber h (h.2 x0 1) x1) <| fun r2 h3 =>
  if r2 = 0 then
    some ((-1 : Int32), h3)
  else
    if x2 = (0 : Int32) then
      gd (kd (h3.2 x0 1) = 4) <|
      gd (kd (h3.2 (h3.2 x0 1) 5) = 13) <|
      gd (inr x1 (ln (h3.2 (h3.2 x0 1) 5)) = true) <|
      some ((h3.1 (h3.2 (h3.2 x0 1) 5) x1.toNatClampNeg), h3)
    else if x2 = (1 : Int32) then
      gd (kd (h3.2 x0 1) = 4) <|
      gd (kd (h3.2 (h3.2 x0 1) 6) = 13) <|
      bd (f_X11_holderOf h3 x1 (h3.2 (h3.2 x0 1) 6)) <| fun r10 h11 =>
      some (r10, h11)
    else if x2 = (2 : Int32) then
      gd (kd (h3.2 x0 3) = 2) <|
      gd (kd (h3.2 (h3.2 x0 3) 0) = 13) <|
      bd (f_X11_holderOf h3 x1 (h3.2 (h3.2 x0 3) 0)) <| fun r15 h16 =>
      some (r15, h16)
    else if x2 = (3 : Int32) then
      gd (kd (h3.2 x0 3) = 2) <|
      gd (kd (h3.2 (h3.2 x0 3) 1) = 13) <|
      bd (f_X11_holderOf h3 x1 (h3.2 (h3.2 x0 3) 1)) <| fun r20 h21 =>
      some (r20, h21)
    else 
      some ((-1 : Int32), h3)
def f_X11_sceneNow (h : Hp) (x0 : Nat) : Option (Nat × Hp) :=
  gd (kd x0 = 11) <|
  gd (kd (h.2 x0 10) = 6) <|
  gd (kd (h.2 x0 1) = 4) <|
  gd (kd (h.2 x0 3) = 2) <|
  bd (f_X6_setNow h (h.2 x0 10) (h.2 x0 1) (h.2 x0 3)) <| fun r4 h5 =>
  gd (kd (h5.2 x0 10) = 6) <|
  some ((h5.2 x0 10), h5)
def f_X11_person (h : Hp) (x0 : Nat) (x1 : Int32) (x2 : Int32) : Option (Int32 × Hp) :=
  gd (kd x0 = 11) <|
  gd (kd (h.2 x0 1) = 4) <|
  bd (f_X4_isPerson h (h.2 x0 1) x1) <| fun r2 h3 =>
  if r2 = 0 then
    some ((-1 : Int32), h3)
  else
    if x2 = (0 : Int32) then
      gd (kd (h3.2 x0 1) = 4) <|
      gd (kd (h3.2 (h3.2 x0 1) 7) = 13) <|
      gd (inr x1 (ln (h3.2 (h3.2 x0 1) 7)) = true) <|
      some ((h3.1 (h3.2 (h3.2 x0 1) 7) x1.toNatClampNeg), h3)
    else if x2 = (1 : Int32) then
      gd (kd (h3.2 x0 3) = 2) <|
      some ((((h3.1 (h3.2 x0 3) 2) >>> (x1 &&& 31)) &&& (1 : Int32)), h3)
    else if x2 = (2 : Int32) then
      bd (f_X11_sceneNow h3 x0) <| fun r9 h10 =>
      gd (kd r9 = 6) <|
      gd (kd (h10.2 x0 3) = 2) <|
      bd (f_X2_taken h10 (h10.2 x0 3)) <| fun r14 h15 =>
      bd (f_X6_mayUse h15 r9 x1 r14) <| fun r17 h18 =>
      some (r17, h18)
    else 
      some ((-1 : Int32), h3)
def f_X11_law (h : Hp) (x0 : Nat) (x1 : Int32) : Option (Int32 × Hp) :=
  gd (kd x0 = 11) <|
  if x1 = (0 : Int32) then
    gd (kd (h.2 x0 1) = 4) <|
    some ((h.1 (h.2 x0 1) 2), h)
  else if x1 = (1 : Int32) then
    gd (kd (h.2 x0 1) = 4) <|
    some ((h.1 (h.2 x0 1) 3), h)
  else if x1 = (2 : Int32) then
    gd (kd (h.2 x0 1) = 4) <|
    some ((h.1 (h.2 x0 1) 4), h)
  else 
    some ((-1 : Int32), h)
def f_X11_tell (h : Hp) (x0 : Nat) (x1 : Int32) (x2 : Int32) : Option (Int32 × Hp) :=
  gd (kd x0 = 11) <|
  gd (kd (h.2 x0 1) = 4) <|
  bd (f_X4_isNumber h (h.2 x0 1) x1) <| fun r2 h3 =>
  if r2 = 0 then
    some ((-1 : Int32), h3)
  else
    if x2 < (1 : Int32) then
      some ((-1 : Int32), h3)
    else
      if x2 ≤ (3 : Int32) then
        gd (kd (h3.2 x0 6) = 10) <|
        bd (f_X10_set h3 (h3.2 x0 6)) <| fun r6 h7 =>
        bd (f_X11_hasBit h7 r6 (x1 - (1 : Int32))) <| fun r9 h10 =>
        if r9 = 0 then
          bd (f_X11_canStand h10 x1 x2) <| fun r12 h13 =>
          if r12 = 0 then
            some ((-2 : Int32), h13)
          else
            gd (kd (h13.2 x0 6) = 10) <|
            bd (f_X10_append h13 (h13.2 x0 6) x1 x2) <| fun r16 h17 =>
            if r16 = 0 then
              some ((-3 : Int32), h17)
            else
              gd (kd (h17.2 x0 6) = 10) <|
              some ((h17.1 (h17.2 x0 6) 0), h17)
        else
          some ((-2 : Int32), h10)
      else
        some ((-1 : Int32), h3)
def f_X11_hush (h : Hp) (x0 : Nat) : Option (Int32 × Hp) :=
  gd (kd x0 = 11) <|
  gd (kd (h.2 x0 6) = 10) <|
  gd (kd (h.2 x0 6) = 10) <|
  lt ((si h (h.2 x0 6) 0 (0 : Int32))) <| fun h3 =>
  some ((h.1 (h.2 x0 6) 0), h3)
def f_X11_words (h : Hp) (x0 : Nat) (x1 : Int32) : Option (Int32 × Hp) :=
  gd (kd x0 = 11) <|
  if x1 = (0 : Int32) then
    gd (kd (h.2 x0 6) = 10) <|
    bd (f_X10_sum h (h.2 x0 6)) <| fun r2 h3 =>
    some ((r2 + (1000 : Int32)), h3)
  else if x1 = (1 : Int32) then
    gd (kd (h.2 x0 6) = 10) <|
    gd (kd (h.2 x0 1) = 4) <|
    bd (f_X10_price h (h.2 x0 6) (h.2 x0 1)) <| fun r7 h8 =>
    some (r7, h8)
  else if x1 = (2 : Int32) then
    gd (kd (h.2 x0 6) = 10) <|
    gd (kd (h.2 x0 1) = 4) <|
    bd (f_X10_areSaying h (h.2 x0 6) (h.1 (h.2 x0 1) 2)) <| fun r12 h13 =>
    if r12 = 0 then
      some ((0 : Int32), h13)
    else
      some ((1 : Int32), h13)
  else 
    some ((-1 : Int32), h)
def f_X11_say_90 (h : Hp) (x0 : Nat) (x1 : Int32) (x2 : Int32) (x3 : Int32) (t0 : Int32) : Option (Int32 × Hp) :=
  if x3 = 0 then
    some ((-2 : Int32), h)
  else
    if t0 = 0 then
      some ((-2 : Int32), h)
    else
      gd (kd (h.2 x0 3) = 2) <|
      bd (f_X11_hasBit h (h.1 (h.2 x0 3) 2) x1) <| fun r2 h3 =>
      if r2 = 0 then
        gd (kd (h3.2 x0 4) = 3) <|
        gd (kd (h3.2 x0 3) = 2) <|
        bd (f_X3_push h3 (h3.2 x0 4) (h3.2 x0 3)) <| fun r7 h8 =>
        gd (kd (h8.2 x0 3) = 2) <|
        bd (f_X2_take h8 (h8.2 x0 3) x1 x2) <| fun r11 h12 =>
        gd (kd (h12.2 x0 6) = 10) <|
        gd (kd (h12.2 x0 1) = 4) <|
        bd (f_X10_price h12 (h12.2 x0 6) (h12.2 x0 1)) <| fun r16 h17 =>
        some (r16, h17)
      else
        some ((-2 : Int32), h3)
def f_X11_say_62 (h : Hp) (x0 : Nat) (x1 : Int32) (x2 : Int32) (t0 : Int32) : Option (Int32 × Hp) :=
  bd (f_X11_sceneNow h x0) <| fun r1 h2 =>
  gd (kd r1 = 6) <|
  gd (kd (h2.2 x0 3) = 2) <|
  bd (f_X2_taken h2 (h2.2 x0 3)) <| fun r6 h7 =>
  bd (f_X6_mayUse h7 r1 x1 r6) <| fun r9 h10 =>
  if (x2 &&& (r9 ^^^ (-1 : Int32))) = 0 then
    f_X11_say_90 h10 x0 x1 x2 t0 (1 : Int32)
  else
    f_X11_say_90 h10 x0 x1 x2 t0 (0 : Int32)
def f_X11_say_61 (h : Hp) (x0 : Nat) (x1 : Int32) (x2 : Int32) : Option (Int32 × Hp) :=
  f_X11_say_62 h x0 x1 x2 (0 : Int32)
def f_X11_say (h : Hp) (x0 : Nat) (x1 : Int32) : Option (Int32 × Hp) :=
  gd (kd x0 = 11) <|
  gd (kd (h.2 x0 1) = 4) <|
  bd (f_X4_isPerson h (h.2 x0 1) x1) <| fun r2 h3 =>
  if r2 = 0 then
    some ((-1 : Int32), h3)
  else
    gd (kd (h3.2 x0 6) = 10) <|
    bd (f_X10_set h3 (h3.2 x0 6)) <| fun r6 h7 =>
    gd (kd (h7.2 x0 6) = 10) <|
    gd (kd (h7.2 x0 1) = 4) <|
    bd (f_X10_areSaying h7 (h7.2 x0 6) (h7.1 (h7.2 x0 1) 2)) <| fun r11 h12 =>
    if r11 = 0 then
      f_X11_say_61 h12 x0 x1 r6
    else
      gd (kd (h12.2 x0 6) = 10) <|
      bd (f_X10_sum h12 (h12.2 x0 6)) <| fun r15 h16 =>
      gd (kd (h16.2 x0 1) = 4) <|
      gd (kd (h16.2 (h16.2 x0 1) 7) = 13) <|
      gd (inr x1 (ln (h16.2 (h16.2 x0 1) 7)) = true) <|
      if r15 = (h16.1 (h16.2 (h16.2 x0 1) 7) x1.toNatClampNeg) then
        f_X11_say_62 h16 x0 x1 r6 (1 : Int32)
      else
        f_X11_say_61 h16 x0 x1 r6
def f_X11_usedNow (h : Hp) (x0 : Nat) (x1 : Int32) (x2 : Int32) : Option (Int32 × Hp) :=
  gd (kd x0 = 11) <|
  gd (kd (h.2 x0 9) = 5) <|
  bd (f_X11_sceneNow h x0) <| fun r2 h3 =>
  gd (kd r2 = 6) <|
  gd (kd (h3.2 x0 3) = 2) <|
  bd (f_X2_taken h3 (h3.2 x0 3)) <| fun r7 h8 =>
  bd (f_X6_mayUse h8 r2 x1 r7) <| fun r10 h11 =>
  gd (kd (h11.2 x0 1) = 4) <|
  bd (f_X5_find h11 (h.2 x0 9) r10 x2 (h11.1 (h11.2 x0 1) 2)) <| fun r14 h15 =>
  some (r14, h15)
def f_X11_speak (h : Hp) (x0 : Nat) (x1 : Int32) : Option (Int32 × Hp) :=
  gd (kd x0 = 11) <|
  gd (kd (h.2 x0 1) = 4) <|
  bd (f_X4_isPerson h (h.2 x0 1) x1) <| fun r2 h3 =>
  if r2 = 0 then
    some ((-1 : Int32), h3)
  else
    gd (kd (h3.2 x0 3) = 2) <|
    bd (f_X11_hasBit h3 (h3.1 (h3.2 x0 3) 2) x1) <| fun r6 h7 =>
    if r6 = 0 then
      gd (kd (h7.2 x0 1) = 4) <|
      gd (kd (h7.2 (h7.2 x0 1) 7) = 13) <|
      gd (inr x1 (ln (h7.2 (h7.2 x0 1) 7)) = true) <|
      bd (f_X11_usedNow h7 x0 x1 (h7.1 (h7.2 (h7.2 x0 1) 7) x1.toNatClampNeg)) <| fun r12 h13 =>
      if r12 = 0 then
        some ((-4 : Int32), h13)
      else
        gd (kd (h13.2 x0 4) = 3) <|
        gd (kd (h13.2 x0 3) = 2) <|
        bd (f_X3_push h13 (h13.2 x0 4) (h13.2 x0 3)) <| fun r17 h18 =>
        gd (kd (h18.2 x0 3) = 2) <|
        bd (f_X2_take h18 (h18.2 x0 3) x1 r12) <| fun r21 h22 =>
        bd (f_J6_bitCount_0f7a4 h22 r12) <| fun r24 h25 =>
        some (r24, h25)
    else
      some ((-2 : Int32), h7)
def f_X11_lend (h : Hp) (x0 : Nat) (x1 : Int32) (x2 : Int32) : Option (Int32 × Hp) :=
  gd (kd x0 = 11) <|
  gd (kd (h.2 x0 1) = 4) <|
  bd (f_X4_isNumber h (h.2 x0 1) x1) <| fun r2 h3 =>
  if r2 = 0 then
    some ((-1 : Int32), h3)
  else
    gd (kd (h3.2 x0 1) = 4) <|
    bd (f_X4_isPerson h3 (h3.2 x0 1) x2) <| fun r6 h7 =>
    if r6 = 0 then
      some ((-1 : Int32), h7)
    else
      gd (kd (h7.2 x0 1) = 4) <|
      gd (kd (h7.2 (h7.2 x0 1) 6) = 13) <|
      bd (f_X11_holderOf h7 x1 (h7.2 (h7.2 x0 1) 6)) <| fun r11 h12 =>
      if r11 = (-4 : Int32) then
        some ((-2 : Int32), h12)
      else
        if r11 = x2 then
          some ((-2 : Int32), h12)
        else
          gd (kd (h12.2 x0 3) = 2) <|
          bd (f_X2_taken h12 (h12.2 x0 3)) <| fun r15 h16 =>
          gd (kd (h16.2 x0 3) = 2) <|
          bd (f_X2_lent h16 (h16.2 x0 3)) <| fun r19 h20 =>
          bd (f_X11_hasBit h20 (r15 ||| r19) (x1 - (1 : Int32))) <| fun r22 h23 =>
          if r22 = 0 then
            gd (kd (h23.2 x0 4) = 3) <|
            gd (kd (h23.2 x0 3) = 2) <|
            bd (f_X3_push h23 (h23.2 x0 4) (h23.2 x0 3)) <| fun r27 h28 =>
            gd (kd (h28.2 x0 3) = 2) <|
            gd (kd (h28.2 (h28.2 x0 3) 1) = 13) <|
            gd (inr x2 (ln (h28.2 (h28.2 x0 3) 1)) = true) <|
            gd (inr x2 (ln (h28.2 (h28.2 x0 3) 1)) = true) <|
            lt ((si h28 (h28.2 (h28.2 x0 3) 1) x2.toNatClampNeg ((h28.1 (h28.2 (h28.2 x0 3) 1) x2.toNatClampNeg) ||| ((1 : Int32) <<< ((x1 - (1 : Int32)) &&& 31))))) <| fun h34 =>
            gd (kd (h34.2 x0 3) = 2) <|
            bd (f_X2_lent h34 (h34.2 x0 3)) <| fun r37 h38 =>
            bd (f_J6_bitCount_0f7a4 h38 r37) <| fun r40 h41 =>
            some (r40, h41)
          else
            some ((-2 : Int32), h23)
def f_X11_born (h : Hp) (x0 : Nat) : Option (Int32 × Hp) :=
  gd (kd x0 = 11) <|
  gd (kd (h.2 x0 3) = 2) <|
  gd (kd (h.2 x0 3) = 2) <|
  if (h.1 (h.2 x0 3) 4) = 0 then
    gd (kd (h.2 x0 1) = 4) <|
    bd (f_X4_isNumber h (h.2 x0 1) ((h.1 (h.2 x0 3) 3) + (1 : Int32))) <| fun r4 h5 =>
    if r4 = 0 then
      some ((-2 : Int32), h5)
    else
      gd (kd (h5.2 x0 3) = 2) <|
      bd (f_X2_taken h5 (h5.2 x0 3)) <| fun r8 h9 =>
      bd (f_X11_hasBit h9 r8 (((h.1 (h.2 x0 3) 3) + (1 : Int32)) - (1 : Int32))) <| fun r11 h12 =>
      if r11 = 0 then
        gd (kd (h12.2 x0 4) = 3) <|
        gd (kd (h12.2 x0 3) = 2) <|
        bd (f_X3_push h12 (h12.2 x0 4) (h12.2 x0 3)) <| fun r16 h17 =>
        gd (kd (h17.2 x0 3) = 2) <|
        lt ((si h17 (h17.2 x0 3) 3 ((h.1 (h.2 x0 3) 3) + (1 : Int32)))) <| fun h20 =>
        gd (kd (h20.2 x0 3) = 2) <|
        gd (kd (h20.2 (h20.2 x0 3) 0) = 13) <|
        gd (inr (7 : Int32) (ln (h20.2 (h20.2 x0 3) 0)) = true) <|
        gd (inr (7 : Int32) (ln (h20.2 (h20.2 x0 3) 0)) = true) <|
        lt ((si h20 (h20.2 (h20.2 x0 3) 0) (7 : Int32).toNatClampNeg ((h20.1 (h20.2 (h20.2 x0 3) 0) (7 : Int32).toNatClampNeg) ||| ((1 : Int32) <<< ((((h.1 (h.2 x0 3) 3) + (1 : Int32)) - (1 : Int32)) &&& 31))))) <| fun h26 =>
        some (((h.1 (h.2 x0 3) 3) + (1 : Int32)), h26)
      else
        some ((-2 : Int32), h12)
  else
    some ((-2 : Int32), h)
def f_X11_dusk (h : Hp) (x0 : Nat) (x1 : Int32) : Option (Int32 × Hp) :=
  gd (kd x0 = 11) <|
  gd (kd (h.2 x0 3) = 2) <|
  bd (f_X2_taken h (h.2 x0 3)) <| fun r2 h3 =>
  bd (f_J6_bitCount_0f7a4 h3 r2) <| fun r5 h6 =>
  gd (kd (h6.2 x0 4) = 3) <|
  gd (kd (h6.2 x0 3) = 2) <|
  bd (f_X3_push h6 (h6.2 x0 4) (h6.2 x0 3)) <| fun r10 h11 =>
  gd (kd (h11.2 x0 3) = 2) <|
  bd (f_X2_begin h11 (h11.2 x0 3) x1) <| fun r14 h15 =>
  some (r5, h15)
def f_X11_undo (h : Hp) (x0 : Nat) : Option (Int32 × Hp) :=
  gd (kd x0 = 11) <|
  gd (kd (h.2 x0 4) = 3) <|
  gd (kd (h.2 x0 3) = 2) <|
  bd (f_X3_pop h (h.2 x0 4) (h.2 x0 3)) <| fun r3 h4 =>
  if r3 = 0 then
    some ((-2 : Int32), h4)
  else
    gd (kd (h4.2 x0 4) = 3) <|
    some ((h4.1 (h4.2 x0 4) 0), h4)
def f_X11_best (h : Hp) (x0 : Nat) (x1 : Int32) (x2 : Int32) (x3 : Int32) : Option (Int32 × Hp) :=
  gd (kd x0 = 11) <|
  gd (kd (h.2 x0 1) = 4) <|
  bd (f_X4_isPerson h (h.2 x0 1) x1) <| fun r2 h3 =>
  if r2 = 0 then
    some ((-1 : Int32), h3)
  else
    if x2 < (1 : Int32) then
      some ((-1 : Int32), h3)
    else
      if (99 : Int32) < x2 then
        some ((-1 : Int32), h3)
      else
        if x3 < 0 then
          some ((-1 : Int32), h3)
        else
          if x3 ≤ (4 : Int32) then
            bd (f_X11_usedNow h3 x0 x1 x2) <| fun r5 h6 =>
            if r5 = 0 then
              some ((-4 : Int32), h6)
            else
              if x3 = (0 : Int32) then
                bd (f_J6_bitCount_0f7a4 h6 r5) <| fun r8 h9 =>
                some (r8, h9)
              else if x3 = (1 : Int32) then
                gd (kd (h6.2 x0 9) = 5) <|
                bd (f_X5_price h6 (h6.2 x0 9)) <| fun r12 h13 =>
                some (r12, h13)
              else 
                gd (kd (h6.2 x0 9) = 5) <|
                bd (f_X5_inUse h6 (h6.2 x0 9) (x3 - (1 : Int32))) <| fun r16 h17 =>
                some (r16, h17)
          else
            some ((-1 : Int32), h3)
def f_X11_stuck (h : Hp) (x0 : Nat) : Option (Int32 × Hp) :=
  gd (kd x0 = 11) <|
  gd (kd (h.2 x0 11) = 1) <|
  bd (f_X11_sceneNow h x0) <| fun r2 h3 =>
  gd (kd r2 = 6) <|
  bd (f_X1_stuckIn h3 (h.2 x0 11) r2) <| fun r6 h7 =>
  some (r6, h7)
def f_X11_freed_57 : Nat → Hp → Nat → Int32 → Int32 → Nat → Int32 → Option (Int32 × Hp)
  | 0 => fun _ _ _ _ _ _ => none
  | fu + 1 => fun h x0 x1 x2 x3 x4 =>
    gd (kd (h.2 x0 1) = 4) <|
    if (h.1 (h.2 x0 1) 0) < x4 then
      some ((-4 : Int32), h)
    else
      if ((h.1 x3 2) &&& (((1 : Int32) <<< ((x4 - (1 : Int32)) &&& 31)) ^^^ (-1 : Int32))) = (h.1 x3 2) then
        f_X11_freed_57 fu h x0 x1 x2 x3 (x4 + (1 : Int32))
      else
        gd (kd (h.2 x0 9) = 5) <|
        bd (f_X6_mayUse h x3 x1 ((h.1 x3 2) &&& (((1 : Int32) <<< ((x4 - (1 : Int32)) &&& 31)) ^^^ (-1 : Int32)))) <| fun r3 h4 =>
        gd (kd (h4.2 x0 1) = 4) <|
        bd (f_X5_find h4 (h.2 x0 9) r3 x2 (h4.1 (h4.2 x0 1) 2)) <| fun r7 h8 =>
        if r7 = 0 then
          f_X11_freed_57 fu h8 x0 x1 x2 x3 (x4 + (1 : Int32))
        else
          some (x4, h8)
def f_X11_freed (h : Hp) (x0 : Nat) (x1 : Int32) : Option (Int32 × Hp) :=
  gd (kd x0 = 11) <|
  gd (kd (h.2 x0 1) = 4) <|
  bd (f_X4_isPerson h (h.2 x0 1) x1) <| fun r2 h3 =>
  if r2 = 0 then
    some ((-1 : Int32), h3)
  else
    gd (kd (h3.2 x0 1) = 4) <|
    gd (kd (h3.2 (h3.2 x0 1) 7) = 13) <|
    gd (inr x1 (ln (h3.2 (h3.2 x0 1) 7)) = true) <|
    gd (kd (h3.2 x0 3) = 2) <|
    bd (f_X11_hasBit h3 (h3.1 (h3.2 x0 3) 2) x1) <| fun r9 h10 =>
    if r9 = 0 then
      bd (f_X11_usedNow h10 x0 x1 (h3.1 (h3.2 (h3.2 x0 1) 7) x1.toNatClampNeg)) <| fun r12 h13 =>
      if r12 = 0 then
        bd (f_X11_sceneNow h13 x0) <| fun r15 h16 =>
        gd (kd r15 = 6) <|
        f_X11_freed_57 FU h16 x0 x1 (h3.1 (h3.2 (h3.2 x0 1) 7) x1.toNatClampNeg) r15 (1 : Int32)
      else
        some ((-4 : Int32), h13)
    else
      some ((-4 : Int32), h10)
def f_X11_order (h : Hp) (x0 : Nat) (x1 : Int32) : Option (Int32 × Hp) :=
  gd (kd x0 = 11) <|
  if x1 < (-1 : Int32) then
    some ((-1 : Int32), h)
  else
    if x1 < (6 : Int32) then
      bd (f_X11_sceneNow h x0) <| fun r1 h2 =>
      gd (kd r1 = 6) <|
      gd (kd (h2.2 x0 11) = 1) <|
      bd (f_X1_findOrder h2 (h2.2 x0 11) r1) <| fun r6 h7 =>
      if 0 ≤ x1 then
        bd (f_J6_bitCount_0f7a4 h7 (h7.1 r1 0)) <| fun r9 h10 =>
        if r9 ≤ x1 then
          some ((-4 : Int32), h10)
        else
          gd (kd (h10.2 x0 11) = 1) <|
          gd (kd (h10.2 (h10.2 x0 11) 5) = 13) <|
          gd (inr x1 (ln (h10.2 (h10.2 x0 11) 5)) = true) <|
          some ((h10.1 (h10.2 (h10.2 x0 11) 5) x1.toNatClampNeg), h10)
      else
        gd (kd (h7.2 x0 11) = 1) <|
        some ((h7.1 (h7.2 x0 11) 4), h7)
    else
      some ((-1 : Int32), h)
def f_X11_deny_59 (h : Hp) (x0 : Nat) (x2 : Int32) : Option (Int32 × Hp) :=
  if x2 = (0 : Int32) then
    gd (kd (h.2 x0 11) = 1) <|
    some ((h.1 (h.2 x0 11) 0), h)
  else if x2 = (1 : Int32) then
    gd (kd (h.2 x0 11) = 1) <|
    some ((h.1 (h.2 x0 11) 1), h)
  else 
    gd (kd (h.2 x0 11) = 1) <|
    some ((h.1 (h.2 x0 11) 2), h)
def f_X11_deny (h : Hp) (x0 : Nat) (x1 : Int32) (x2 : Int32) : Option (Int32 × Hp) :=
  gd (kd x0 = 11) <|
  if x1 < (1 : Int32) then
    some ((-1 : Int32), h)
  else
    if (2 : Int32) < x1 then
      some ((-1 : Int32), h)
    else
      if x2 < 0 then
        some ((-1 : Int32), h)
      else
        if x2 ≤ (2 : Int32) then
          bd (f_X11_sceneNow h x0) <| fun r1 h2 =>
          gd (kd r1 = 6) <|
          if x1 = (1 : Int32) then
            gd (kd (h2.2 x0 11) = 1) <|
            bd (f_X1_denyOne h2 (h2.2 x0 11) r1) <| fun r10 h11 =>
            if r10 = 0 then
              some ((-4 : Int32), h11)
            else
              f_X11_deny_59 h11 x0 x2
          else
            gd (kd (h2.2 x0 11) = 1) <|
            bd (f_X1_denyTwo h2 (h2.2 x0 11) r1) <| fun r6 h7 =>
            if r6 = 0 then
              some ((-4 : Int32), h7)
            else
              f_X11_deny_59 h7 x0 x2
        else
          some ((-1 : Int32), h)
def f_X11_guard_20 : Nat → Hp → Nat → Nat → Int32 → Int32 → Int32 → Int32 → Option (Int32 × Hp)
  | 0 => fun _ _ _ _ _ _ _ => none
  | fu + 1 => fun h x0 x1 x2 x3 x4 x5 =>
    gd (kd (h.2 x0 1) = 4) <|
    if (h.1 (h.2 x0 1) 0) < x5 then
      some (x4, h)
    else
      if x3 ≤ 0 then
        some (x4, h)
      else
        bd (f_X11_hasBit h (h.1 x1 2) (x5 - (1 : Int32))) <| fun r2 h3 =>
        if r2 = 0 then
          lt ((si h3 x1 3 (x2 ||| ((1 : Int32) <<< ((x5 - (1 : Int32)) &&& 31))))) <| fun h5 =>
          gd (kd (h5.2 x0 11) = 1) <|
          bd (f_X1_stuckIn h5 (h5.2 x0 11) x1) <| fun r8 h9 =>
          bd (f_J6_bitCount_0f7a4 h9 r8) <| fun r11 h12 =>
          if x3 ≤ r11 then
            f_X11_guard_20 fu h12 x0 x1 x2 x3 x4 (x5 + (1 : Int32))
          else
            f_X11_guard_20 fu h12 x0 x1 x2 r11 x5 (x5 + (1 : Int32))
        else
          f_X11_guard_20 fu h3 x0 x1 x2 x3 x4 (x5 + (1 : Int32))
def f_X11_guard (h : Hp) (x0 : Nat) : Option (Int32 × Hp) :=
  gd (kd x0 = 11) <|
  bd (f_X11_sceneNow h x0) <| fun r1 h2 =>
  gd (kd r1 = 6) <|
  f_X11_guard_20 FU h2 x0 r1 (h2.1 r1 3) (7 : Int32) (-4 : Int32) (1 : Int32)
def f_X11_value_42 : Nat → Hp → Nat → Int32 → Nat → Int32 → Int32 → Option (Int32 × Hp)
  | 0 => fun _ _ _ _ _ _ => none
  | fu + 1 => fun h x0 x1 x2 x3 x4 =>
    gd (kd (h.2 x0 1) = 4) <|
    if (h.1 (h.2 x0 1) 1) ≤ x4 then
      some (x3, h)
    else
      bd (f_X6_mayUse h x2 x4 (h.1 x2 2)) <| fun r2 h3 =>
      gd (kd (h3.2 x0 9) = 5) <|
      gd (kd (h3.2 x0 1) = 4) <|
      gd (kd (h3.2 (h3.2 x0 1) 7) = 13) <|
      gd (inr x4 (ln (h3.2 (h3.2 x0 1) 7)) = true) <|
      gd (kd (h3.2 x0 1) = 4) <|
      bd (f_X5_find h3 (h3.2 x0 9) r2 (h3.1 (h3.2 (h3.2 x0 1) 7) x4.toNatClampNeg) (h3.1 (h3.2 x0 1) 2)) <| fun r10 h11 =>
      if r10 = 0 then
        f_X11_value_42 fu h11 x0 x1 x2 x3 (x4 + (1 : Int32))
      else
        gd (kd (h11.2 x0 9) = 5) <|
        gd (kd (h11.2 x0 1) = 4) <|
        gd (kd (h11.2 (h11.2 x0 1) 7) = 13) <|
        gd (inr x4 (ln (h11.2 (h11.2 x0 1) 7)) = true) <|
        gd (kd (h11.2 x0 1) = 4) <|
        bd (f_X5_find h11 (h11.2 x0 9) (r2 &&& (((1 : Int32) <<< ((x1 - (1 : Int32)) &&& 31)) ^^^ (-1 : Int32))) (h11.1 (h11.2 (h11.2 x0 1) 7) x4.toNatClampNeg) (h11.1 (h11.2 x0 1) 2)) <| fun r18 h19 =>
        if r18 = 0 then
          f_X11_value_42 fu h19 x0 x1 x2 (x3 + (1 : Int32)) (x4 + (1 : Int32))
        else
          f_X11_value_42 fu h19 x0 x1 x2 x3 (x4 + (1 : Int32))
def f_X11_value (h : Hp) (x0 : Nat) (x1 : Int32) : Option (Int32 × Hp) :=
  gd (kd x0 = 11) <|
  gd (kd (h.2 x0 1) = 4) <|
  bd (f_X4_isNumber h (h.2 x0 1) x1) <| fun r2 h3 =>
  if r2 = 0 then
    some ((-1 : Int32), h3)
  else
    gd (kd (h3.2 x0 3) = 2) <|
    bd (f_X2_taken h3 (h3.2 x0 3)) <| fun r6 h7 =>
    bd (f_X11_hasBit h7 r6 (x1 - (1 : Int32))) <| fun r9 h10 =>
    if r9 = 0 then
      bd (f_X11_sceneNow h10 x0) <| fun r12 h13 =>
      gd (kd r12 = 6) <|
      f_X11_value_42 FU h13 x0 x1 r12 (0 : Int32) (0 : Int32)
    else
      some ((-2 : Int32), h10)
def f_X11_changed_13 : Nat → Hp → Nat → Nat → Int32 → Int32 → Int32 → Option (Int32 × Hp)
  | 0 => fun _ _ _ _ _ _ => none
  | fu + 1 => fun h x0 x1 x2 x3 x4 =>
    if (3 : Int32) < x4 then
      some (x3, h)
    else
      lt ((si h x1 4 x4)) <| fun h1 =>
      gd (kd (h1.2 x0 11) = 1) <|
      bd (f_X1_stuckIn h1 (h1.2 x0 11) x1) <| fun r4 h5 =>
      bd (f_J6_bitCount_0f7a4 h5 r4) <| fun r7 h8 =>
      if x2 ≤ r7 then
        f_X11_changed_13 fu h8 x0 x1 x2 x3 (x4 + (1 : Int32))
      else
        f_X11_changed_13 fu h8 x0 x1 r7 x4 (x4 + (1 : Int32))
def f_X11_changed (h : Hp) (x0 : Nat) : Option (Int32 × Hp) :=
  gd (kd x0 = 11) <|
  bd (f_X11_sceneNow h x0) <| fun r1 h2 =>
  gd (kd r1 = 6) <|
  f_X11_changed_13 FU h2 x0 r1 (7 : Int32) (0 : Int32) (0 : Int32)
def f_X11_ways (h : Hp) (x0 : Nat) (x1 : Int32) (x2 : Int32) (x3 : Int32) : Option (Int32 × Hp) :=
  gd (kd x0 = 11) <|
  gd (kd (h.2 x0 1) = 4) <|
  bd (f_X4_isSet h (h.2 x0 1) x1) <| fun r2 h3 =>
  if r2 = 0 then
    some ((-1 : Int32), h3)
  else
    if x2 < 0 then
      some ((-1 : Int32), h3)
    else
      if (99 : Int32) < x2 then
        some ((-1 : Int32), h3)
      else
        if x3 < 0 then
          some ((-1 : Int32), h3)
        else
          if x3 ≤ (3 : Int32) then
            gd (kd (h3.2 x0 8) = 9) <|
            bd (f_X9_reckon h3 (h3.2 x0 8) x1 x3) <| fun r6 h7 =>
            gd (kd (h7.2 x0 8) = 9) <|
            bd (f_X9_comingTo h7 (h7.2 x0 8) x2) <| fun r10 h11 =>
            some (r10, h11)
          else
            some ((-1 : Int32), h3)
def f_X11_lowest_15 : Nat → Hp → Nat → Int32 → Int32 → Option (Int32 × Hp)
  | 0 => fun _ _ _ _ => none
  | fu + 1 => fun h x0 x1 x2 =>
    if (99 : Int32) < x2 then
      some ((-4 : Int32), h)
    else
      bd (f_X11_usedNow h x0 x1 x2) <| fun r1 h2 =>
      if r1 = 0 then
        some (x2, h2)
      else
        f_X11_lowest_15 fu h2 x0 x1 (x2 + (1 : Int32))
def f_X11_lowest (h : Hp) (x0 : Nat) (x1 : Int32) : Option (Int32 × Hp) :=
  gd (kd x0 = 11) <|
  gd (kd (h.2 x0 1) = 4) <|
  bd (f_X4_isPerson h (h.2 x0 1) x1) <| fun r2 h3 =>
  if r2 = 0 then
    some ((-1 : Int32), h3)
  else
    f_X11_lowest_15 FU h3 x0 x1 (1 : Int32)
def f_X11_enter (h : Hp) (x0 : Nat) (x1 : Int32) : Option (Int32 × Hp) :=
  gd (kd x0 = 11) <|
  gd (kd (h.2 x0 1) = 4) <|
  bd (f_X4_isSet h (h.2 x0 1) x1) <| fun r2 h3 =>
  if r2 = 0 then
    some ((-1 : Int32), h3)
  else
    gd (kd (h3.2 x0 7) = 0) <|
    bd (f_X0_append h3 (h3.2 x0 7) x1) <| fun r6 h7 =>
    if r6 = 0 then
      some ((-3 : Int32), h7)
    else
      gd (kd (h7.2 x0 7) = 0) <|
      some ((h7.1 (h7.2 x0 7) 0), h7)
def f_X11_close (h : Hp) (x0 : Nat) : Option (Int32 × Hp) :=
  gd (kd x0 = 11) <|
  gd (kd (h.2 x0 7) = 0) <|
  gd (kd (h.2 x0 7) = 0) <|
  lt ((si h (h.2 x0 7) 0 (0 : Int32))) <| fun h3 =>
  some ((h.1 (h.2 x0 7) 0), h3)
def f_X11_book (h : Hp) (x0 : Nat) (x1 : Int32) : Option (Int32 × Hp) :=
  gd (kd x0 = 11) <|
  if x1 < (-1 : Int32) then
    some ((-1 : Int32), h)
  else
    gd (kd (h.2 x0 7) = 0) <|
    if x1 < (h.1 (h.2 x0 7) 0) then
      gd (kd (h.2 x0 7) = 0) <|
      gd (kd (h.2 x0 1) = 4) <|
      gd (kd (h.2 x0 8) = 9) <|
      bd (f_X0_read h (h.2 x0 7) (h.2 x0 1) (h.2 x0 8)) <| fun r5 h6 =>
      if 0 ≤ x1 then
        gd (kd (h6.2 x0 7) = 0) <|
        bd (f_X0_surePerson h6 (h6.2 x0 7) x1) <| fun r9 h10 =>
        some (r9, h10)
      else
        gd (kd (h6.2 x0 7) = 0) <|
        some ((h6.1 (h6.2 x0 7) 1), h6)
    else
      some ((-1 : Int32), h)
def f_X11_twice (h : Hp) (x0 : Nat) : Option (Int32 × Hp) :=
  gd (kd x0 = 11) <|
  gd (kd (h.2 x0 7) = 0) <|
  bd (f_X0_inTwoRows h (h.2 x0 7)) <| fun r2 h3 =>
  if r2 = 0 then
    some ((-4 : Int32), h3)
  else
    bd (f_X11_firstBit h3 r2) <| fun r5 h6 =>
    some ((r5 + (1 : Int32)), h6)
def f_X11_corner (h : Hp) (x0 : Nat) (x1 : Int32) (x2 : Int32) : Option (Int32 × Hp) :=
  gd (kd x0 = 11) <|
  gd (kd (h.2 x0 1) = 4) <|
  bd (f_X4_isPerson h (h.2 x0 1) x1) <| fun r2 h3 =>
  if r2 = 0 then
    some ((-1 : Int32), h3)
  else
    if x2 < 0 then
      some ((-1 : Int32), h3)
    else
      if x2 ≤ (1 : Int32) then
        gd (kd (h3.2 x0 3) = 2) <|
        bd (f_X11_hasBit h3 (h3.1 (h3.2 x0 3) 2) x1) <| fun r6 h7 =>
        if r6 = 0 then
          gd (kd (h7.2 x0 11) = 1) <|
          bd (f_X11_sceneNow h7 x0) <| fun r10 h11 =>
          gd (kd r10 = 6) <|
          bd (f_X1_cornerBy h11 (h7.2 x0 11) r10 x1) <| fun r14 h15 =>
          if r14 = 0 then
            some ((-4 : Int32), h15)
          else
            if x2 = 0 then
              gd (kd (h15.2 x0 11) = 1) <|
              some ((h15.1 (h15.2 x0 11) 3), h15)
            else
              gd (kd (h15.2 x0 11) = 1) <|
              some ((h15.1 (h15.2 x0 11) 0), h15)
        else
          some ((-2 : Int32), h7)
      else
        some ((-1 : Int32), h3)
def f_X11_year_42 : Nat → Hp → Nat → Int32 → Int32 → Int32 → Int32 → Int32 → Int32 → Option (Int32 × Hp)
  | 0 => fun _ _ _ _ _ _ _ _ => none
  | fu + 1 => fun h x0 x1 x2 x3 x4 x5 x6 =>
    if x2 ≤ x6 then
      if x3 = 0 then
        some (x4, h)
      else
        some (x5, h)
    else
      gd (kd (h.2 x0 10) = 6) <|
      gd (kd (h.2 x0 1) = 4) <|
      bd (f_X6_setDrawn h (h.2 x0 10) (h.2 x0 1) x1 x6) <| fun r3 h4 =>
      gd (kd (h4.2 x0 11) = 1) <|
      gd (kd (h4.2 x0 10) = 6) <|
      bd (f_X1_stuckIn h4 (h4.2 x0 11) (h4.2 x0 10)) <| fun r8 h9 =>
      bd (f_J6_bitCount_0f7a4 h9 r8) <| fun r11 h12 =>
      if r8 = 0 then
        f_X11_year_42 fu h12 x0 x1 x2 x3 (x4 + r11) (x5 + (1 : Int32)) (x6 + (1 : Int32))
      else
        f_X11_year_42 fu h12 x0 x1 x2 x3 (x4 + r11) (x5 + (0 : Int32)) (x6 + (1 : Int32))
def f_X11_year (h : Hp) (x0 : Nat) (x1 : Int32) (x2 : Int32) (x3 : Int32) : Option (Int32 × Hp) :=
  gd (kd x0 = 11) <|
  if x1 < 0 then
    some ((-1 : Int32), h)
  else
    if (9999 : Int32) < x1 then
      some ((-1 : Int32), h)
    else
      if x2 < (1 : Int32) then
        some ((-1 : Int32), h)
      else
        if (30 : Int32) < x2 then
          some ((-1 : Int32), h)
        else
          if x3 < 0 then
            some ((-1 : Int32), h)
          else
            if x3 ≤ (1 : Int32) then
              f_X11_year_42 FU h x0 x1 x2 x3 (0 : Int32) (0 : Int32) (0 : Int32)
            else
              some ((-1 : Int32), h)
def f_X11_keep (h : Hp) (x0 : Nat) : Option (Int32 × Hp) :=
  gd (kd x0 = 11) <|
  gd (kd (h.2 x0 5) = 3) <|
  if (h.1 (h.2 x0 5) 0) < (2 : Int32) then
    gd (kd (h.2 x0 5) = 3) <|
    gd (kd (h.2 x0 3) = 2) <|
    bd (f_X3_push h (h.2 x0 5) (h.2 x0 3)) <| fun r4 h5 =>
    gd (kd (h5.2 x0 5) = 3) <|
    some ((h5.1 (h5.2 x0 5) 0), h5)
  else
    some ((-3 : Int32), h)
def f_X11_back (h : Hp) (x0 : Nat) : Option (Int32 × Hp) :=
  gd (kd x0 = 11) <|
  gd (kd (h.2 x0 5) = 3) <|
  gd (kd (h.2 x0 3) = 2) <|
  bd (f_X3_pop h (h.2 x0 5) (h.2 x0 3)) <| fun r3 h4 =>
  if r3 = 0 then
    some ((-2 : Int32), h4)
  else
    gd (kd (h4.2 x0 4) = 3) <|
    lt ((si h4 (h4.2 x0 4) 0 (0 : Int32))) <| fun h7 =>
    gd (kd (h7.2 x0 5) = 3) <|
    some ((h7.1 (h7.2 x0 5) 0), h7)
def f_X11_count (h : Hp) (x0 : Nat) (x1 : Int32) : Option (Int32 × Hp) :=
  gd (kd x0 = 11) <|
  if x1 = (0 : Int32) then
    gd (kd (h.2 x0 1) = 4) <|
    some ((h.1 (h.2 x0 1) 0), h)
  else if x1 = (1 : Int32) then
    gd (kd (h.2 x0 1) = 4) <|
    some ((h.1 (h.2 x0 1) 1), h)
  else if x1 = (2 : Int32) then
    gd (kd (h.2 x0 3) = 2) <|
    bd (f_X2_taken h (h.2 x0 3)) <| fun r4 h5 =>
    bd (f_J6_bitCount_0f7a4 h5 r4) <| fun r7 h8 =>
    some (r7, h8)
  else if x1 = (3 : Int32) then
    gd (kd (h.2 x0 3) = 2) <|
    bd (f_J6_bitCount_0f7a4 h (h.1 (h.2 x0 3) 2)) <| fun r11 h12 =>
    some (r11, h12)
  else if x1 = (4 : Int32) then
    gd (kd (h.2 x0 3) = 2) <|
    some ((h.1 (h.2 x0 3) 3), h)
  else if x1 = (5 : Int32) then
    gd (kd (h.2 x0 3) = 2) <|
    if (h.1 (h.2 x0 3) 4) = 0 then
      some ((0 : Int32), h)
    else
      some ((1 : Int32), h)
  else if x1 = (6 : Int32) then
    gd (kd (h.2 x0 6) = 10) <|
    some ((h.1 (h.2 x0 6) 0), h)
  else if x1 = (7 : Int32) then
    gd (kd (h.2 x0 7) = 0) <|
    some ((h.1 (h.2 x0 7) 0), h)
  else if x1 = (8 : Int32) then
    gd (kd (h.2 x0 4) = 3) <|
    some ((h.1 (h.2 x0 4) 0), h)
  else if x1 = (9 : Int32) then
    gd (kd (h.2 x0 5) = 3) <|
    some ((h.1 (h.2 x0 5) 0), h)
  else if x1 = (10 : Int32) then
    gd (kd (h.2 x0 0) = 8) <|
    some ((h.1 (h.2 x0 0) 0), h)
  else 
    some ((-1 : Int32), h)
def f_X12_in (h : Hp) (x0 : Int64) (x2 : Int64) (x4 : Int64) : Option (Int32 × Hp) :=
  if (lg_cmp x0 x2) < 0 then
    some ((0 : Int32), h)
  else
    if 0 < (lg_cmp x0 x4) then
      some ((0 : Int32), h)
    else
      some ((1 : Int32), h)
def f_X12_has (h : Hp) (x0 : Int32) (x1 : Int32) : Option (Int32 × Hp) :=
  if ((x0 >>> (x1 &&& 31)) &&& (1 : Int32)) = (1 : Int32) then
    some ((1 : Int32), h)
  else
    some ((0 : Int32), h)
def f_X12_bits_4 : Nat → Hp → Int32 → Int32 → Int32 → Option (Int32 × Hp)
  | 0 => fun _ _ _ _ => none
  | fu + 1 => fun h x0 x1 x2 =>
    if (24 : Int32) ≤ x2 then
      some (x1, h)
    else
      f_X12_bits_4 fu h x0 (x1 + ((x0 >>> (x2 &&& 31)) &&& (1 : Int32))) (x2 + (1 : Int32))
def f_X12_bits (h : Hp) (x0 : Int32) : Option (Int32 × Hp) :=
  f_X12_bits_4 FU h x0 (0 : Int32) (0 : Int32)
def f_X12_begin_52 : Nat → Hp → Nat → Int32 → Option (Unit × Hp)
  | 0 => fun _ _ _ => none
  | fu + 1 => fun h x0 x1 =>
    if (24 : Int32) < x1 then
      some ((), h)
    else
      gd (kd (h.2 x0 2) = 16) <|
      gd (inr ((4 : Int32) + x1) (ln (h.2 x0 2)) = true) <|
      lt ((si h (h.2 x0 2) ((4 : Int32) + x1).toNatClampNeg (1 : Int32))) <| fun h3 =>
      gd (kd (h3.2 x0 2) = 16) <|
      gd (inr ((28 : Int32) + x1) (ln (h3.2 x0 2)) = true) <|
      lt ((si h3 (h3.2 x0 2) ((28 : Int32) + x1).toNatClampNeg (-4 : Int32))) <| fun h7 =>
      f_X12_begin_52 fu h7 x0 (x1 + (1 : Int32))
def f_X12_begin_2 : Nat → Hp → Nat → Int32 → Option (Unit × Hp)
  | 0 => fun _ _ _ => none
  | fu + 1 => fun h x0 x1 =>
    if (59 : Int32) ≤ x1 then
      gd (kd (h.2 x0 2) = 16) <|
      gd (inr (0 : Int32) (ln (h.2 x0 2)) = true) <|
      lt ((si h (h.2 x0 2) (0 : Int32).toNatClampNeg (12 : Int32))) <| fun h3 =>
      gd (kd (h3.2 x0 2) = 16) <|
      gd (inr (2 : Int32) (ln (h3.2 x0 2)) = true) <|
      lt ((si h3 (h3.2 x0 2) (2 : Int32).toNatClampNeg (1 : Int32))) <| fun h7 =>
      gd (kd (h7.2 x0 2) = 16) <|
      gd (inr (3 : Int32) (ln (h7.2 x0 2)) = true) <|
      lt ((si h7 (h7.2 x0 2) (3 : Int32).toNatClampNeg (1 : Int32))) <| fun h11 =>
      gd (kd (h11.2 x0 2) = 16) <|
      gd (inr (4 : Int32) (ln (h11.2 x0 2)) = true) <|
      lt ((si h11 (h11.2 x0 2) (4 : Int32).toNatClampNeg (2 : Int32))) <| fun h15 =>
      f_X12_begin_52 FU h15 x0 (1 : Int32)
    else
      gd (kd (h.2 x0 2) = 16) <|
      gd (inr x1 (ln (h.2 x0 2)) = true) <|
      lt ((si h (h.2 x0 2) x1.toNatClampNeg (0 : Int32))) <| fun h19 =>
      f_X12_begin_2 fu h19 x0 (x1 + (1 : Int32))
def f_X12_begin (h : Hp) (x0 : Nat) : Option (Unit × Hp) :=
  gd (kd x0 = 12) <|
  f_X12_begin_2 FU h x0 (0 : Int32)
def f_X12_dawn_45 (h : Hp) (t0 : Nat) (t1 : Int32) (t2 : Int32) : Option (Unit × Hp) :=
  gd (inr t1 (ln t0) = true) <|
  lt ((si h t0 t1.toNatClampNeg t2)) <| fun h2 =>
  some ((), h2)
def f_X12_dawn_24 (k2 : Hp → Nat → Int32 → Int32 → Option (Unit × Hp)) (h : Hp) (x0 : Nat) (x1 : Int32) (x2 : Int32) (t0 : Nat) (t1 : Int32) (t2 : Int32) : Option (Unit × Hp) :=
  gd (inr t1 (ln t0) = true) <|
  lt ((si h t0 t1.toNatClampNeg t2)) <| fun h2 =>
  k2 h2 x0 x1 (x2 + (1 : Int32))
def f_X12_dawn_2 : Nat → Hp → Nat → Int32 → Int32 → Option (Unit × Hp)
  | 0 => fun _ _ _ _ => none
  | fu + 1 => fun h x0 x1 x2 =>
    if (51 : Int32) ≤ x2 then
      gd (kd (h.2 x0 3) = 16) <|
      if x1 = 0 then
        f_X12_dawn_45 h (h.2 x0 3) (1 : Int32) (0 : Int32)
      else
        f_X12_dawn_45 h (h.2 x0 3) (1 : Int32) (1 : Int32)
    else
      gd (kd (h.2 x0 3) = 16) <|
      if x2 ≤ (2 : Int32) then
        f_X12_dawn_24 (f_X12_dawn_2 fu) h x0 x1 x2 (h.2 x0 3) x2 (0 : Int32)
      else
        f_X12_dawn_24 (f_X12_dawn_2 fu) h x0 x1 x2 (h.2 x0 3) x2 (-4 : Int32)
def f_X12_dawn (h : Hp) (x0 : Nat) (x1 : Int32) : Option (Unit × Hp) :=
  gd (kd x0 = 12) <|
  f_X12_dawn_2 FU h x0 x1 (0 : Int32)
def f_X12_noNumber (h : Hp) (x0 : Nat) (x1 : Int32) : Option (Int32 × Hp) :=
  gd (kd x0 = 12) <|
  gd (kd (h.2 x0 1) = 16) <|
  gd (inr (0 : Int32) (ln (h.2 x0 1)) = true) <|
  bd (f_X12_in h x1.toInt64 (1 : Int64) (h.1 (h.2 x0 1) (0 : Int32).toNatClampNeg).toInt64) <| fun r3 h4 =>
  if r3 = 0 then
    some ((1 : Int32), h4)
  else
    some ((0 : Int32), h4)
def f_X12_noOne (h : Hp) (x0 : Nat) (x1 : Int32) : Option (Int32 × Hp) :=
  gd (kd x0 = 12) <|
  gd (kd (h.2 x0 1) = 16) <|
  gd (inr (1 : Int32) (ln (h.2 x0 1)) = true) <|
  bd (f_X12_in h x1.toInt64 (0 : Int64) ((h.1 (h.2 x0 1) (1 : Int32).toNatClampNeg) - (1 : Int32)).toInt64) <| fun r3 h4 =>
  if r3 = 0 then
    some ((1 : Int32), h4)
  else
    some ((0 : Int32), h4)
def f_X12_noSet (h : Hp) (x0 : Nat) (x1 : Int32) : Option (Int32 × Hp) :=
  gd (kd x0 = 12) <|
  gd (kd (h.2 x0 1) = 16) <|
  gd (inr (0 : Int32) (ln (h.2 x0 1)) = true) <|
  bd (f_X12_in h x1.toInt64 (0 : Int64) (((1 : Int32) <<< ((h.1 (h.2 x0 1) (0 : Int32).toNatClampNeg) &&& 31)) - (1 : Int32)).toInt64) <| fun r3 h4 =>
  if r3 = 0 then
    some ((1 : Int32), h4)
  else
    some ((0 : Int32), h4)
def f_X12_write (h : Hp) (x0 : Nat) (x1 : Int32) : Option (Int32 × Hp) :=
  gd (kd x0 = 12) <|
  lt ((si h x0 0 (0 : Int32))) <| fun h1 =>
  bd (f_X12_in h1 x1.toInt64 (32 : Int64) (126 : Int64)) <| fun r3 h4 =>
  if r3 = 0 then
    some ((-1 : Int32), h4)
  else
    if (h4.1 x0 9) = (200 : Int32) then
      some ((-3 : Int32), h4)
    else
      gd (kd (h4.2 x0 8) = 16) <|
      gd (inr (h4.1 x0 9) (ln (h4.2 x0 8)) = true) <|
      lt ((si h4 (h4.2 x0 8) (h4.1 x0 9).toNatClampNeg x1)) <| fun h8 =>
      lt ((si h8 x0 9 ((h8.1 x0 9) + (1 : Int32)))) <| fun h10 =>
      some ((h10.1 x0 9), h10)
def f_X12_wipe (h : Hp) (x0 : Nat) : Option (Int32 × Hp) :=
  gd (kd x0 = 12) <|
  lt ((si h x0 0 (0 : Int32))) <| fun h1 =>
  lt ((si h1 x0 9 (0 : Int32))) <| fun h3 =>
  some ((h1.1 x0 9), h3)
def f_X12_isFigure (h : Hp) (x0 : Nat) : Option (Int32 × Hp) :=
  gd (kd x0 = 12) <|
  if (h.1 x0 9) ≤ (h.1 x0 10) then
    some ((0 : Int32), h)
  else
    gd (kd (h.2 x0 8) = 16) <|
    gd (inr (h.1 x0 10) (ln (h.2 x0 8)) = true) <|
    bd (f_X12_in h (h.1 (h.2 x0 8) (h.1 x0 10).toNatClampNeg).toInt64 (48 : Int64) (57 : Int64)) <| fun r3 h4 =>
    if r3 = 0 then
      some ((0 : Int32), h4)
    else
      some ((1 : Int32), h4)
def f_X12_areNumbers_145 (k2 : Hp → Nat → Int32 → Int32 → Option (Int32 × Hp)) (h : Hp) (x0 : Nat) (x1 : Int32) (x2 : Int32) (t0 : Int32) : Option (Int32 × Hp) :=
  if t0 = 0 then
    some ((0 : Int32), h)
  else
    lt ((si h x0 10 ((h.1 x0 10) + (1 : Int32)))) <| fun h1 =>
    k2 h1 x0 x1 (x2 + (1 : Int32))
def f_X12_areNumbers_144 (k2 : Hp → Nat → Int32 → Int32 → Option (Int32 × Hp)) (h : Hp) (x0 : Nat) (x1 : Int32) (x2 : Int32) : Option (Int32 × Hp) :=
  f_X12_areNumbers_145 k2 h x0 x1 x2 (0 : Int32)
def f_X12_areNumbers_137 (k2 : Hp → Nat → Int32 → Int32 → Option (Int32 × Hp)) (h : Hp) (x0 : Nat) (x1 : Int32) (x2 : Int32) (t0 : Int32) (t1 : Int32) : Option (Int32 × Hp) :=
  if t0 = t1 then
    f_X12_areNumbers_145 k2 h x0 x1 x2 (1 : Int32)
  else
    f_X12_areNumbers_144 k2 h x0 x1 x2
def f_X12_areNumbers_72 (k2 : Hp → Nat → Int32 → Int32 → Option (Int32 × Hp)) (k19 : Hp → Nat → Int32 → Int32 → Int32 → Option (Int32 × Hp)) (h : Hp) (x0 : Nat) (x1 : Int32) (x2 : Int32) (x3 : Int32) (t0 : Nat) (t1 : Int32) (t2 : Int32) : Option (Int32 × Hp) :=
  gd (inr t1 (ln t0) = true) <|
  lt ((si h t0 t1.toNatClampNeg t2)) <| fun h2 =>
  lt ((si h2 x0 10 ((h2.1 x0 10) + (1 : Int32)))) <| fun h4 =>
  k19 h4 x0 x1 x2 x3
def f_X12_areNumbers_19 (k2 : Hp → Nat → Int32 → Int32 → Option (Int32 × Hp)) : Nat → Hp → Nat → Int32 → Int32 → Int32 → Option (Int32 × Hp)
  | 0 => fun _ _ _ _ _ => none
  | fu + 1 => fun h x0 x1 x2 x3 =>
    bd (f_X12_isFigure h x0) <| fun r1 h2 =>
    if r1 = 0 then
      bd (f_X12_in h2 ((h2.1 x0 10) - x3).toInt64 (1 : Int64) (2 : Int64)) <| fun r4 h5 =>
      if r4 = 0 then
        f_X12_areNumbers_144 k2 h5 x0 x1 x2
      else
        if (h5.1 x0 9) ≤ (h5.1 x0 10) then
          f_X12_areNumbers_144 k2 h5 x0 x1 x2
        else
          gd (kd (h5.2 x0 8) = 16) <|
          gd (inr (h5.1 x0 10) (ln (h5.2 x0 8)) = true) <|
          if (x1 - (1 : Int32)) ≤ x2 then
            f_X12_areNumbers_137 k2 h5 x0 x1 x2 (h5.1 (h5.2 x0 8) (h5.1 x0 10).toNatClampNeg) (59 : Int32)
          else
            f_X12_areNumbers_137 k2 h5 x0 x1 x2 (h5.1 (h5.2 x0 8) (h5.1 x0 10).toNatClampNeg) (44 : Int32)
    else
      gd (kd (h2.2 x0 11) = 16) <|
      if (2 : Int32) ≤ ((h2.1 x0 10) - x3) then
        gd (kd (h2.2 x0 11) = 16) <|
        gd (inr x2 (ln (h2.2 x0 11)) = true) <|
        f_X12_areNumbers_72 k2 (f_X12_areNumbers_19 k2 fu) h2 x0 x1 x2 x3 (h2.2 x0 11) x2 (h2.1 (h2.2 x0 11) x2.toNatClampNeg)
      else
        gd (kd (h2.2 x0 11) = 16) <|
        gd (inr x2 (ln (h2.2 x0 11)) = true) <|
        gd (kd (h2.2 x0 8) = 16) <|
        gd (inr (h2.1 x0 10) (ln (h2.2 x0 8)) = true) <|
        f_X12_areNumbers_72 k2 (f_X12_areNumbers_19 k2 fu) h2 x0 x1 x2 x3 (h2.2 x0 11) x2 ((((10 : Int32) * (h2.1 (h2.2 x0 11) x2.toNatClampNeg)) + (h2.1 (h2.2 x0 8) (h2.1 x0 10).toNatClampNeg)) - (48 : Int32))
def f_X12_areNumbers_2 : Nat → Hp → Nat → Int32 → Int32 → Option (Int32 × Hp)
  | 0 => fun _ _ _ _ => none
  | fu + 1 => fun h x0 x1 x2 =>
    if x1 ≤ x2 then
      some ((1 : Int32), h)
    else
      gd (kd (h.2 x0 11) = 16) <|
      gd (inr x2 (ln (h.2 x0 11)) = true) <|
      lt ((si h (h.2 x0 11) x2.toNatClampNeg (0 : Int32))) <| fun h3 =>
      f_X12_areNumbers_19 (f_X12_areNumbers_2 fu) FU h3 x0 x1 x2 (h.1 x0 10)
def f_X12_areNumbers (h : Hp) (x0 : Nat) (x1 : Int32) : Option (Int32 × Hp) :=
  gd (kd x0 = 12) <|
  f_X12_areNumbers_2 FU h x0 x1 (0 : Int32)
def f_X12_readItem_354 : Nat → Hp → Nat → Int32 → Option (Int32 × Hp)
  | 0 => fun _ _ _ => none
  | fu + 1 => fun h x0 x3 =>
    if (3 : Int32) ≤ x3 then
      some ((1 : Int32), h)
    else
      gd (kd (h.2 x0 2) = 16) <|
      gd (kd (h.2 x0 11) = 16) <|
      gd (inr x3 (ln (h.2 x0 11)) = true) <|
      gd (inr ((2 : Int32) + x3) (ln (h.2 x0 2)) = true) <|
      lt ((si h (h.2 x0 2) ((2 : Int32) + x3).toNatClampNeg (h.1 (h.2 x0 11) x3.toNatClampNeg))) <| fun h5 =>
      f_X12_readItem_354 fu h5 x0 (x3 + (1 : Int32))
def f_X12_readItem (h : Hp) (x0 : Nat) (x1 : Int32) (x2 : Int32) : Option (Int32 × Hp) :=
  gd (kd x0 = 12) <|
  if x1 = (99 : Int32) then
    bd (f_X12_areNumbers h x0 (2 : Int32)) <| fun r1 h2 =>
    if r1 = 0 then
      some ((0 : Int32), h2)
    else
      gd (kd (h2.2 x0 11) = 16) <|
      gd (inr (0 : Int32) (ln (h2.2 x0 11)) = true) <|
      gd (kd (h2.2 x0 2) = 16) <|
      gd (inr (0 : Int32) (ln (h2.2 x0 2)) = true) <|
      bd (f_X12_in h2 (h2.1 (h2.2 x0 11) (0 : Int32).toNatClampNeg).toInt64 (1 : Int64) (h2.1 (h2.2 x0 2) (0 : Int32).toNatClampNeg).toInt64) <| fun r8 h9 =>
      if r8 = 0 then
        some ((0 : Int32), h9)
      else
        gd (kd (h9.2 x0 11) = 16) <|
        gd (inr (1 : Int32) (ln (h9.2 x0 11)) = true) <|
        if (h9.1 (h9.2 x0 11) (1 : Int32).toNatClampNeg) ≤ (9 : Int32) then
          gd (kd (h9.2 x0 2) = 16) <|
          gd (kd (h9.2 x0 11) = 16) <|
          gd (inr (0 : Int32) (ln (h9.2 x0 11)) = true) <|
          gd (kd (h9.2 x0 11) = 16) <|
          gd (inr (1 : Int32) (ln (h9.2 x0 11)) = true) <|
          gd (inr ((4 : Int32) + (h9.1 (h9.2 x0 11) (0 : Int32).toNatClampNeg)) (ln (h9.2 x0 2)) = true) <|
          lt ((si h9 (h9.2 x0 2) ((4 : Int32) + (h9.1 (h9.2 x0 11) (0 : Int32).toNatClampNeg)).toNatClampNeg (h9.1 (h9.2 x0 11) (1 : Int32).toNatClampNeg))) <| fun h19 =>
          some ((1 : Int32), h19)
        else
          some ((0 : Int32), h9)
  else if x1 = (104 : Int32) then
    bd (f_X12_areNumbers h x0 (2 : Int32)) <| fun r21 h22 =>
    if r21 = 0 then
      some ((0 : Int32), h22)
    else
      gd (kd (h22.2 x0 11) = 16) <|
      gd (inr (0 : Int32) (ln (h22.2 x0 11)) = true) <|
      gd (kd (h22.2 x0 2) = 16) <|
      gd (inr (0 : Int32) (ln (h22.2 x0 2)) = true) <|
      bd (f_X12_in h22 (h22.1 (h22.2 x0 11) (0 : Int32).toNatClampNeg).toInt64 (1 : Int64) (h22.1 (h22.2 x0 2) (0 : Int32).toNatClampNeg).toInt64) <| fun r28 h29 =>
      if r28 = 0 then
        some ((0 : Int32), h29)
      else
        gd (kd (h29.2 x0 11) = 16) <|
        gd (inr (1 : Int32) (ln (h29.2 x0 11)) = true) <|
        gd (kd (h29.2 x0 2) = 16) <|
        gd (inr (1 : Int32) (ln (h29.2 x0 2)) = true) <|
        if (h29.1 (h29.2 x0 11) (1 : Int32).toNatClampNeg) < (h29.1 (h29.2 x0 2) (1 : Int32).toNatClampNeg) then
          gd (kd (h29.2 x0 2) = 16) <|
          gd (kd (h29.2 x0 11) = 16) <|
          gd (inr (0 : Int32) (ln (h29.2 x0 11)) = true) <|
          gd (kd (h29.2 x0 11) = 16) <|
          gd (inr (1 : Int32) (ln (h29.2 x0 11)) = true) <|
          gd (inr ((28 : Int32) + (h29.1 (h29.2 x0 11) (0 : Int32).toNatClampNeg)) (ln (h29.2 x0 2)) = true) <|
          lt ((si h29 (h29.2 x0 2) ((28 : Int32) + (h29.1 (h29.2 x0 11) (0 : Int32).toNatClampNeg)).toNatClampNeg (h29.1 (h29.2 x0 11) (1 : Int32).toNatClampNeg))) <| fun h41 =>
          some ((1 : Int32), h41)
        else
          some ((0 : Int32), h29)
  else if x1 = (107 : Int32) then
    bd (f_X12_areNumbers h x0 (3 : Int32)) <| fun r43 h44 =>
    if r43 = 0 then
      some ((0 : Int32), h44)
    else
      gd (kd (h44.2 x0 11) = 16) <|
      gd (inr (0 : Int32) (ln (h44.2 x0 11)) = true) <|
      if (3 : Int32) < (h44.1 (h44.2 x0 11) (0 : Int32).toNatClampNeg) then
        some ((0 : Int32), h44)
      else
        gd (kd (h44.2 x0 11) = 16) <|
        gd (inr (1 : Int32) (ln (h44.2 x0 11)) = true) <|
        if (9 : Int32) < (h44.1 (h44.2 x0 11) (1 : Int32).toNatClampNeg) then
          some ((0 : Int32), h44)
        else
          gd (kd (h44.2 x0 11) = 16) <|
          gd (inr (2 : Int32) (ln (h44.2 x0 11)) = true) <|
          if (h44.1 (h44.2 x0 11) (2 : Int32).toNatClampNeg) ≤ (9 : Int32) then
            f_X12_readItem_354 FU h44 x0 (0 : Int32)
          else
            some ((0 : Int32), h44)
  else if x1 = (110 : Int32) then
    if x2 = 0 then
      some ((0 : Int32), h)
    else
      bd (f_X12_areNumbers h x0 (1 : Int32)) <| fun r52 h53 =>
      if r52 = 0 then
        some ((0 : Int32), h53)
      else
        gd (kd (h53.2 x0 11) = 16) <|
        gd (inr (0 : Int32) (ln (h53.2 x0 11)) = true) <|
        bd (f_X12_in h53 (h53.1 (h53.2 x0 11) (0 : Int32).toNatClampNeg).toInt64 (1 : Int64) (24 : Int64)) <| fun r57 h58 =>
        if r57 = 0 then
          some ((0 : Int32), h58)
        else
          gd (kd (h58.2 x0 2) = 16) <|
          gd (kd (h58.2 x0 11) = 16) <|
          gd (inr (0 : Int32) (ln (h58.2 x0 11)) = true) <|
          gd (inr (0 : Int32) (ln (h58.2 x0 2)) = true) <|
          lt ((si h58 (h58.2 x0 2) (0 : Int32).toNatClampNeg (h58.1 (h58.2 x0 11) (0 : Int32).toNatClampNeg))) <| fun h64 =>
          some ((1 : Int32), h64)
  else if x1 = (112 : Int32) then
    gd (kd (h.2 x0 2) = 16) <|
    gd (inr (1 : Int32) (ln (h.2 x0 2)) = true) <|
    if (h.1 (h.2 x0 2) (1 : Int32).toNatClampNeg) = (6 : Int32) then
      some ((0 : Int32), h)
    else
      bd (f_X12_areNumbers h x0 (1 : Int32)) <| fun r68 h69 =>
      if r68 = 0 then
        some ((0 : Int32), h69)
      else
        gd (kd (h69.2 x0 11) = 16) <|
        gd (inr (0 : Int32) (ln (h69.2 x0 11)) = true) <|
        if (h69.1 (h69.2 x0 11) (0 : Int32).toNatClampNeg) = 0 then
          some ((0 : Int32), h69)
        else
          gd (kd (h69.2 x0 2) = 16) <|
          gd (kd (h69.2 x0 2) = 16) <|
          gd (inr (1 : Int32) (ln (h69.2 x0 2)) = true) <|
          gd (kd (h69.2 x0 11) = 16) <|
          gd (inr (0 : Int32) (ln (h69.2 x0 11)) = true) <|
          gd (inr ((53 : Int32) + (h69.1 (h69.2 x0 2) (1 : Int32).toNatClampNeg)) (ln (h69.2 x0 2)) = true) <|
          lt ((si h69 (h69.2 x0 2) ((53 : Int32) + (h69.1 (h69.2 x0 2) (1 : Int32).toNatClampNeg)).toNatClampNeg (h69.1 (h69.2 x0 11) (0 : Int32).toNatClampNeg))) <| fun h79 =>
          gd (kd (h79.2 x0 2) = 16) <|
          gd (inr (1 : Int32) (ln (h79.2 x0 2)) = true) <|
          gd (inr (1 : Int32) (ln (h79.2 x0 2)) = true) <|
          lt ((si h79 (h79.2 x0 2) (1 : Int32).toNatClampNeg ((h79.1 (h79.2 x0 2) (1 : Int32).toNatClampNeg) + (1 : Int32)))) <| fun h84 =>
          some ((1 : Int32), h84)
  else 
    some ((0 : Int32), h)
def f_X12_readAll_11 : Nat → Hp → Nat → Int32 → Option (Int32 × Hp)
  | 0 => fun _ _ _ => none
  | fu + 1 => fun h x0 x1 =>
    if (h.1 x0 9) ≤ (h.1 x0 10) then
      some ((-4 : Int32), h)
    else
      gd (kd (h.2 x0 8) = 16) <|
      gd (inr (h.1 x0 10) (ln (h.2 x0 8)) = true) <|
      lt ((si h x0 10 ((h.1 x0 10) + (1 : Int32)))) <| fun h3 =>
      bd (f_X12_readItem h3 x0 (h.1 (h.2 x0 8) (h.1 x0 10).toNatClampNeg) x1) <| fun r5 h6 =>
      if r5 = 0 then
        some ((h.1 x0 10), h6)
      else
        if x1 = 0 then
          f_X12_readAll_11 fu h6 x0 (0 : Int32)
        else
          if (h.1 (h.2 x0 8) (h.1 x0 10).toNatClampNeg) = (110 : Int32) then
            f_X12_readAll_11 fu h6 x0 (1 : Int32)
          else
            f_X12_readAll_11 fu h6 x0 (0 : Int32)
def f_X12_readAll (h : Hp) (x0 : Nat) : Option (Int32 × Hp) :=
  gd (kd x0 = 12) <|
  bd (f_X12_begin h x0) <| fun r1 h2 =>
  lt ((si h2 x0 10 (0 : Int32))) <| fun h4 =>
  f_X12_readAll_11 FU h4 x0 (1 : Int32)
def f_X12_fault (h : Hp) (x0 : Nat) : Option (Int32 × Hp) :=
  gd (kd x0 = 12) <|
  lt ((si h x0 0 (0 : Int32))) <| fun h1 =>
  bd (f_X12_readAll h1 x0) <| fun r3 h4 =>
  some (r3, h4)
def f_X12_lay_28 : Nat → Hp → Nat → Int32 → Option (Int32 × Hp)
  | 0 => fun _ _ _ => none
  | fu + 1 => fun h x0 x1 =>
    if (59 : Int32) ≤ x1 then
      bd (f_X12_dawn h x0 (0 : Int32)) <| fun r1 h2 =>
      lt ((si h2 x0 14 (0 : Int32))) <| fun h4 =>
      lt ((si h4 x0 27 (0 : Int32))) <| fun h6 =>
      lt ((si h6 x0 5 (0 : Int32))) <| fun h8 =>
      lt ((si h8 x0 7 (0 : Int32))) <| fun h10 =>
      gd (kd (h10.2 x0 1) = 16) <|
      gd (inr (0 : Int32) (ln (h10.2 x0 1)) = true) <|
      some ((h10.1 (h10.2 x0 1) (0 : Int32).toNatClampNeg), h10)
    else
      gd (kd (h.2 x0 1) = 16) <|
      gd (kd (h.2 x0 2) = 16) <|
      gd (inr x1 (ln (h.2 x0 2)) = true) <|
      gd (inr x1 (ln (h.2 x0 1)) = true) <|
      lt ((si h (h.2 x0 1) x1.toNatClampNeg (h.1 (h.2 x0 2) x1.toNatClampNeg))) <| fun h18 =>
      f_X12_lay_28 fu h18 x0 (x1 + (1 : Int32))
def f_X12_lay (h : Hp) (x0 : Nat) : Option (Int32 × Hp) :=
  gd (kd x0 = 12) <|
  lt ((si h x0 0 (0 : Int32))) <| fun h1 =>
  bd (f_X12_readAll h1 x0) <| fun r3 h4 =>
  if r3 = (-4 : Int32) then
    gd (kd (h4.2 x0 2) = 16) <|
    gd (inr (1 : Int32) (ln (h4.2 x0 2)) = true) <|
    if (h4.1 (h4.2 x0 2) (1 : Int32).toNatClampNeg) = 0 then
      some ((-2 : Int32), h4)
    else
      f_X12_lay_28 FU h4 x0 (0 : Int32)
  else
    some ((-2 : Int32), h4)
def f_X12_number (h : Hp) (x0 : Nat) (x1 : Int32) (x2 : Int32) : Option (Int32 × Hp) :=
  gd (kd x0 = 12) <|
  lt ((si h x0 0 (0 : Int32))) <| fun h1 =>
  bd (f_X12_noNumber h1 x0 x1) <| fun r3 h4 =>
  if r3 = 0 then
    if x2 = (0 : Int32) then
      gd (kd (h4.2 x0 1) = 16) <|
      gd (inr ((4 : Int32) + x1) (ln (h4.2 x0 1)) = true) <|
      some ((h4.1 (h4.2 x0 1) ((4 : Int32) + x1).toNatClampNeg), h4)
    else if x2 = (1 : Int32) then
      gd (kd (h4.2 x0 1) = 16) <|
      gd (inr ((28 : Int32) + x1) (ln (h4.2 x0 1)) = true) <|
      some ((h4.1 (h4.2 x0 1) ((28 : Int32) + x1).toNatClampNeg), h4)
    else if x2 = (2 : Int32) then
      gd (kd (h4.2 x0 3) = 16) <|
      gd (inr ((2 : Int32) + x1) (ln (h4.2 x0 3)) = true) <|
      some ((h4.1 (h4.2 x0 3) ((2 : Int32) + x1).toNatClampNeg), h4)
    else if x2 = (3 : Int32) then
      gd (kd (h4.2 x0 3) = 16) <|
      gd (inr ((26 : Int32) + x1) (ln (h4.2 x0 3)) = true) <|
      some ((h4.1 (h4.2 x0 3) ((26 : Int32) + x1).toNatClampNeg), h4)
    else 
      some ((-1 : Int32), h4)
  else
    some ((-1 : Int32), h4)
def f_X12_taken_4 : Nat → Hp → Nat → Int32 → Int32 → Option (Int32 × Hp)
  | 0 => fun _ _ _ _ => none
  | fu + 1 => fun h x0 x1 x2 =>
    gd (kd (h.2 x0 1) = 16) <|
    gd (inr (0 : Int32) (ln (h.2 x0 1)) = true) <|
    if (h.1 (h.2 x0 1) (0 : Int32).toNatClampNeg) < x2 then
      some (x1, h)
    else
      gd (kd (h.2 x0 3) = 16) <|
      gd (inr ((2 : Int32) + x2) (ln (h.2 x0 3)) = true) <|
      if (h.1 (h.2 x0 3) ((2 : Int32) + x2).toNatClampNeg) = (-4 : Int32) then
        f_X12_taken_4 fu h x0 (x1 ||| (0 : Int32)) (x2 + (1 : Int32))
      else
        f_X12_taken_4 fu h x0 (x1 ||| ((1 : Int32) <<< ((x2 - (1 : Int32)) &&& 31))) (x2 + (1 : Int32))
def f_X12_taken (h : Hp) (x0 : Nat) : Option (Int32 × Hp) :=
  gd (kd x0 = 12) <|
  f_X12_taken_4 FU h x0 (0 : Int32) (1 : Int32)
def f_X12_ofOne_67 (k4 : Hp → Nat → Int32 → Int32 → Int32 → Option (Int32 × Hp)) (h : Hp) (x0 : Nat) (x1 : Int32) (x2 : Int32) (x3 : Int32) (t0 : Int32) : Option (Int32 × Hp) :=
  if t0 = 0 then
    k4 h x0 x1 (x2 ||| (0 : Int32)) (x3 + (1 : Int32))
  else
    k4 h x0 x1 (x2 ||| ((1 : Int32) <<< ((x3 - (1 : Int32)) &&& 31))) (x3 + (1 : Int32))
def f_X12_ofOne_62 (k4 : Hp → Nat → Int32 → Int32 → Int32 → Option (Int32 × Hp)) (h : Hp) (x0 : Nat) (x1 : Int32) (x2 : Int32) (x3 : Int32) : Option (Int32 × Hp) :=
  f_X12_ofOne_67 k4 h x0 x1 x2 x3 (1 : Int32)
def f_X12_ofOne_4 : Nat → Hp → Nat → Int32 → Int32 → Int32 → Option (Int32 × Hp)
  | 0 => fun _ _ _ _ _ => none
  | fu + 1 => fun h x0 x1 x2 x3 =>
    gd (kd (h.2 x0 1) = 16) <|
    gd (inr (0 : Int32) (ln (h.2 x0 1)) = true) <|
    if (h.1 (h.2 x0 1) (0 : Int32).toNatClampNeg) < x3 then
      some (x2, h)
    else
      gd (kd (h.2 x0 1) = 16) <|
      gd (inr ((28 : Int32) + x3) (ln (h.2 x0 1)) = true) <|
      if (h.1 (h.2 x0 1) ((28 : Int32) + x3).toNatClampNeg) = (-4 : Int32) then
        f_X12_ofOne_62 (f_X12_ofOne_4 fu) h x0 x1 x2 x3
      else
        gd (kd (h.2 x0 1) = 16) <|
        gd (inr ((28 : Int32) + x3) (ln (h.2 x0 1)) = true) <|
        if (h.1 (h.2 x0 1) ((28 : Int32) + x3).toNatClampNeg) = x1 then
          f_X12_ofOne_62 (f_X12_ofOne_4 fu) h x0 x1 x2 x3
        else
          gd (kd (h.2 x0 3) = 16) <|
          gd (inr ((26 : Int32) + x3) (ln (h.2 x0 3)) = true) <|
          if (h.1 (h.2 x0 3) ((26 : Int32) + x3).toNatClampNeg) = x1 then
            f_X12_ofOne_62 (f_X12_ofOne_4 fu) h x0 x1 x2 x3
          else
            if x3 = (h.1 x0 12) then
              f_X12_ofOne_62 (f_X12_ofOne_4 fu) h x0 x1 x2 x3
            else
              f_X12_ofOne_67 (f_X12_ofOne_4 fu) h x0 x1 x2 x3 (0 : Int32)
def f_X12_ofOne (h : Hp) (x0 : Nat) (x1 : Int32) : Option (Int32 × Hp) :=
  gd (kd x0 = 12) <|
  f_X12_ofOne_4 FU h x0 x1 (0 : Int32) (1 : Int32)
def f_X12_mayOf (h : Hp) (x0 : Nat) (x1 : Int32) : Option (Int32 × Hp) :=
  gd (kd x0 = 12) <|
  bd (f_X12_ofOne h x0 x1) <| fun r1 h2 =>
  bd (f_X12_taken h2 x0) <| fun r4 h5 =>
  some ((r1 &&& (r4 ^^^ (-1 : Int32))), h5)
def f_X12_person (h : Hp) (x0 : Nat) (x1 : Int32) (x2 : Int32) : Option (Int32 × Hp) :=
  gd (kd x0 = 12) <|
  lt ((si h x0 0 (0 : Int32))) <| fun h1 =>
  bd (f_X12_noOne h1 x0 x1) <| fun r3 h4 =>
  if r3 = 0 then
    if x2 = (0 : Int32) then
      gd (kd (h4.2 x0 1) = 16) <|
      gd (inr ((53 : Int32) + x1) (ln (h4.2 x0 1)) = true) <|
      some ((h4.1 (h4.2 x0 1) ((53 : Int32) + x1).toNatClampNeg), h4)
    else if x2 = (1 : Int32) then
      gd (kd (h4.2 x0 3) = 16) <|
      gd (inr (2 : Int32) (ln (h4.2 x0 3)) = true) <|
      some ((((h4.1 (h4.2 x0 3) (2 : Int32).toNatClampNeg) >>> (x1 &&& 31)) &&& (1 : Int32)), h4)
    else if x2 = (2 : Int32) then
      bd (f_X12_mayOf h4 x0 x1) <| fun r10 h11 =>
      some (r10, h11)
    else 
      some ((-1 : Int32), h4)
  else
    some ((-1 : Int32), h4)
def f_X12_law (h : Hp) (x0 : Nat) (x1 : Int32) : Option (Int32 × Hp) :=
  gd (kd x0 = 12) <|
  lt ((si h x0 0 (0 : Int32))) <| fun h1 =>
  bd (f_X12_in h1 x1.toInt64 (0 : Int64) (2 : Int64)) <| fun r3 h4 =>
  if r3 = 0 then
    some ((-1 : Int32), h4)
  else
    gd (kd (h4.2 x0 1) = 16) <|
    gd (inr ((2 : Int32) + x1) (ln (h4.2 x0 1)) = true) <|
    some ((h4.1 (h4.2 x0 1) ((2 : Int32) + x1).toNatClampNeg), h4)
def f_X12_counts (h : Hp) (x0 : Int32) (x1 : Int32) : Option (Int32 × Hp) :=
  if x1 = (1 : Int32) then
    some (x0, h)
  else
    if x1 = (2 : Int32) then
      some ((-x0), h)
    else
      some ((x0 / (2 : Int32)), h)
def f_X12_priceOf (h : Hp) (x0 : Nat) (x1 : Int32) (x2 : Int32) : Option (Int32 × Hp) :=
  gd (kd x0 = 12) <|
  gd (kd (h.2 x0 1) = 16) <|
  gd (inr ((4 : Int32) + x1) (ln (h.2 x0 1)) = true) <|
  if x2 = (2 : Int32) then
    gd (kd (h.2 x0 1) = 16) <|
    gd (inr (3 : Int32) (ln (h.2 x0 1)) = true) <|
    some (((h.1 (h.2 x0 1) ((4 : Int32) + x1).toNatClampNeg) + (h.1 (h.2 x0 1) (3 : Int32).toNatClampNeg)), h)
  else
    if x2 = (3 : Int32) then
      gd (kd (h.2 x0 1) = 16) <|
      gd (inr (4 : Int32) (ln (h.2 x0 1)) = true) <|
      some (((h.1 (h.2 x0 1) ((4 : Int32) + x1).toNatClampNeg) + (h.1 (h.2 x0 1) (4 : Int32).toNatClampNeg)), h)
    else
      some (((h.1 (h.2 x0 1) ((4 : Int32) + x1).toNatClampNeg) + (0 : Int32)), h)
def f_X12_tell_73 (h : Hp) (x0 : Nat) (x1 : Int32) (x2 : Int32) : Option (Int32 × Hp) :=
  if (h.1 x0 14) = (10 : Int32) then
    some ((-3 : Int32), h)
  else
    gd (kd (h.2 x0 13) = 16) <|
    gd (inr ((2 : Int32) * (h.1 x0 14)) (ln (h.2 x0 13)) = true) <|
    lt ((si h (h.2 x0 13) ((2 : Int32) * (h.1 x0 14)).toNatClampNeg x1)) <| fun h3 =>
    gd (kd (h3.2 x0 13) = 16) <|
    gd (inr (((2 : Int32) * (h3.1 x0 14)) + (1 : Int32)) (ln (h3.2 x0 13)) = true) <|
    lt ((si h3 (h3.2 x0 13) (((2 : Int32) * (h3.1 x0 14)) + (1 : Int32)).toNatClampNeg x2)) <| fun h7 =>
    lt ((si h7 x0 14 ((h7.1 x0 14) + (1 : Int32)))) <| fun h9 =>
    some ((h9.1 x0 14), h9)
def f_X12_tell_29 : Nat → Hp → Nat → Int32 → Int32 → Int32 → Option (Int32 × Hp)
  | 0 => fun _ _ _ _ _ => none
  | fu + 1 => fun h x0 x1 x2 x3 =>
    if (h.1 x0 14) ≤ x3 then
      if x2 = (3 : Int32) then
        if (x1 - x1 / (2 : Int32) * (2 : Int32)) = (1 : Int32) then
          some ((-2 : Int32), h)
        else
          f_X12_tell_73 h x0 x1 x2
      else
        f_X12_tell_73 h x0 x1 x2
    else
      gd (kd (h.2 x0 13) = 16) <|
      gd (inr ((2 : Int32) * x3) (ln (h.2 x0 13)) = true) <|
      if (h.1 (h.2 x0 13) ((2 : Int32) * x3).toNatClampNeg) = x1 then
        some ((-2 : Int32), h)
      else
        f_X12_tell_29 fu h x0 x1 x2 (x3 + (1 : Int32))
def f_X12_tell (h : Hp) (x0 : Nat) (x1 : Int32) (x2 : Int32) : Option (Int32 × Hp) :=
  gd (kd x0 = 12) <|
  lt ((si h x0 0 (0 : Int32))) <| fun h1 =>
  bd (f_X12_noNumber h1 x0 x1) <| fun r3 h4 =>
  if r3 = 0 then
    bd (f_X12_in h4 x2.toInt64 (1 : Int64) (3 : Int64)) <| fun r6 h7 =>
    if r6 = 0 then
      some ((-1 : Int32), h7)
    else
      f_X12_tell_29 FU h7 x0 x1 x2 (0 : Int32)
  else
    some ((-1 : Int32), h4)
def f_X12_hush (h : Hp) (x0 : Nat) : Option (Int32 × Hp) :=
  gd (kd x0 = 12) <|
  lt ((si h x0 0 (0 : Int32))) <| fun h1 =>
  lt ((si h1 x0 14 (0 : Int32))) <| fun h3 =>
  some ((h1.1 x0 14), h3)
def f_X12_sumOfWords_4 : Nat → Hp → Nat → Int32 → Int32 → Option (Int32 × Hp)
  | 0 => fun _ _ _ _ => none
  | fu + 1 => fun h x0 x1 x2 =>
    if (h.1 x0 14) ≤ x2 then
      some (x1, h)
    else
      gd (kd (h.2 x0 13) = 16) <|
      gd (inr ((2 : Int32) * x2) (ln (h.2 x0 13)) = true) <|
      gd (kd (h.2 x0 13) = 16) <|
      gd (inr (((2 : Int32) * x2) + (1 : Int32)) (ln (h.2 x0 13)) = true) <|
      bd (f_X12_counts h (h.1 (h.2 x0 13) ((2 : Int32) * x2).toNatClampNeg) (h.1 (h.2 x0 13) (((2 : Int32) * x2) + (1 : Int32)).toNatClampNeg)) <| fun r5 h6 =>
      f_X12_sumOfWords_4 fu h6 x0 (x1 + r5) (x2 + (1 : Int32))
def f_X12_sumOfWords (h : Hp) (x0 : Nat) : Option (Int32 × Hp) :=
  gd (kd x0 = 12) <|
  f_X12_sumOfWords_4 FU h x0 (0 : Int32) (0 : Int32)
def f_X12_priceOfWords_4 : Nat → Hp → Nat → Int32 → Int32 → Option (Int32 × Hp)
  | 0 => fun _ _ _ _ => none
  | fu + 1 => fun h x0 x1 x2 =>
    if (h.1 x0 14) ≤ x2 then
      some (x1, h)
    else
      gd (kd (h.2 x0 13) = 16) <|
      gd (inr ((2 : Int32) * x2) (ln (h.2 x0 13)) = true) <|
      gd (kd (h.2 x0 13) = 16) <|
      gd (inr (((2 : Int32) * x2) + (1 : Int32)) (ln (h.2 x0 13)) = true) <|
      bd (f_X12_priceOf h x0 (h.1 (h.2 x0 13) ((2 : Int32) * x2).toNatClampNeg) (h.1 (h.2 x0 13) (((2 : Int32) * x2) + (1 : Int32)).toNatClampNeg)) <| fun r5 h6 =>
      f_X12_priceOfWords_4 fu h6 x0 (x1 + r5) (x2 + (1 : Int32))
def f_X12_priceOfWords (h : Hp) (x0 : Nat) : Option (Int32 × Hp) :=
  gd (kd x0 = 12) <|
  f_X12_priceOfWords_4 FU h x0 (0 : Int32) (0 : Int32)
def f_X12_isSaying_75 (k34 : Hp → Nat → Int32 → Int32 → Int32 → Option (Int32 × Hp)) (h : Hp) (x0 : Nat) (x1 : Int32) (x3 : Int32) (x4 : Int32) : Option (Int32 × Hp) :=
  if x4 = (3 : Int32) then
    if x1 = (3 : Int32) then
      k34 h x0 x1 (1 : Int32) (x3 + (1 : Int32))
    else
      k34 h x0 x1 (0 : Int32) (x3 + (1 : Int32))
  else
    k34 h x0 x1 (0 : Int32) (x3 + (1 : Int32))
def f_X12_isSaying_34 : Nat → Hp → Nat → Int32 → Int32 → Int32 → Option (Int32 × Hp)
  | 0 => fun _ _ _ _ _ => none
  | fu + 1 => fun h x0 x1 x2 x3 =>
    if (h.1 x0 14) ≤ x3 then
      gd (x2 = 0 ∨ x2 = 1) <|
      some (x2, h)
    else
      gd (kd (h.2 x0 13) = 16) <|
      gd (inr (((2 : Int32) * x3) + (1 : Int32)) (ln (h.2 x0 13)) = true) <|
      if x2 = 0 then
        f_X12_isSaying_34 fu h x0 x1 (0 : Int32) (x3 + (1 : Int32))
      else
        if (h.1 (h.2 x0 13) (((2 : Int32) * x3) + (1 : Int32)).toNatClampNeg) = (1 : Int32) then
          f_X12_isSaying_34 fu h x0 x1 (1 : Int32) (x3 + (1 : Int32))
        else
          if (h.1 (h.2 x0 13) (((2 : Int32) * x3) + (1 : Int32)).toNatClampNeg) = (2 : Int32) then
            if (2 : Int32) ≤ x1 then
              f_X12_isSaying_34 fu h x0 x1 (1 : Int32) (x3 + (1 : Int32))
            else
              f_X12_isSaying_75 (f_X12_isSaying_34 fu) h x0 x1 x3 (h.1 (h.2 x0 13) (((2 : Int32) * x3) + (1 : Int32)).toNatClampNeg)
          else
            f_X12_isSaying_75 (f_X12_isSaying_34 fu) h x0 x1 x3 (h.1 (h.2 x0 13) (((2 : Int32) * x3) + (1 : Int32)).toNatClampNeg)
def f_X12_isSaying (h : Hp) (x0 : Nat) : Option (Int32 × Hp) :=
  gd (kd x0 = 12) <|
  gd (kd (h.2 x0 1) = 16) <|
  gd (inr (2 : Int32) (ln (h.2 x0 1)) = true) <|
  if (h.1 x0 14) ≤ 0 then
    f_X12_isSaying_34 FU h x0 (h.1 (h.2 x0 1) (2 : Int32).toNatClampNeg) (0 : Int32) (0 : Int32)
  else
    if (h.1 (h.2 x0 1) (2 : Int32).toNatClampNeg) = 0 then
      if (h.1 x0 14) = (1 : Int32) then
        f_X12_isSaying_34 FU h x0 (h.1 (h.2 x0 1) (2 : Int32).toNatClampNeg) (1 : Int32) (0 : Int32)
      else
        f_X12_isSaying_34 FU h x0 (h.1 (h.2 x0 1) (2 : Int32).toNatClampNeg) (0 : Int32) (0 : Int32)
    else
      f_X12_isSaying_34 FU h x0 (h.1 (h.2 x0 1) (2 : Int32).toNatClampNeg) (1 : Int32) (0 : Int32)
def f_X12_words (h : Hp) (x0 : Nat) (x1 : Int32) : Option (Int32 × Hp) :=
  gd (kd x0 = 12) <|
  lt ((si h x0 0 (0 : Int32))) <| fun h1 =>
  if x1 = (0 : Int32) then
    bd (f_X12_sumOfWords h1 x0) <| fun r3 h4 =>
    some (((1000 : Int32) + r3), h4)
  else if x1 = (1 : Int32) then
    bd (f_X12_priceOfWords h1 x0) <| fun r6 h7 =>
    some (r6, h7)
  else if x1 = (2 : Int32) then
    bd (f_X12_isSaying h1 x0) <| fun r9 h10 =>
    if r9 = 0 then
      some ((0 : Int32), h10)
    else
      some ((1 : Int32), h10)
  else 
    some ((-1 : Int32), h1)
def f_X12_laid (h : Hp) (x0 : Nat) (x1 : Int32) (x2 : Int32) : Option (Int32 × Hp) :=
  gd (kd x0 = 12) <|
  bd (f_X12_in h x2.toInt64 (-300 : Int64) (300 : Int64)) <| fun r1 h2 =>
  if r1 = 0 then
    some ((1000000 : Int32), h2)
  else
    gd (kd (h2.2 x0 15) = 16) <|
    gd (inr ((((601 : Int32) * (x1 - (1 : Int32))) + x2) + (300 : Int32)) (ln (h2.2 x0 15)) = true) <|
    some ((h2.1 (h2.2 x0 15) ((((601 : Int32) * (x1 - (1 : Int32))) + x2) + (300 : Int32)).toNatClampNeg), h2)
def f_X12_by_38 (h : Hp) (x0 : Nat) (x1 : Int32) (x2 : Int32) (x3 : Int32) (t0 : Int32) : Option (Int32 × Hp) :=
  if t0 = 0 then
    some ((1000000 : Int32), h)
  else
    bd (f_X12_counts h x1 x2) <| fun r1 h2 =>
    bd (f_X12_laid h2 x0 (x1 + (1 : Int32)) (x3 - r1)) <| fun r4 h5 =>
    if r4 < (1000000 : Int32) then
      bd (f_X12_priceOf h5 x0 x1 x2) <| fun r7 h8 =>
      some (((r4 + (1000 : Int32)) + r7), h8)
    else
      some ((1000000 : Int32), h5)
def f_X12_by_37 (h : Hp) (x0 : Nat) (x1 : Int32) (x2 : Int32) (x3 : Int32) : Option (Int32 × Hp) :=
  f_X12_by_38 h x0 x1 x2 x3 (0 : Int32)
def f_X12_by_33 (h : Hp) (x0 : Nat) (x1 : Int32) (x2 : Int32) (x3 : Int32) : Option (Int32 × Hp) :=
  f_X12_by_38 h x0 x1 x2 x3 (1 : Int32)
def f_X12_by_16 (h : Hp) (x0 : Nat) (x1 : Int32) (x2 : Int32) (x3 : Int32) (x4 : Int32) : Option (Int32 × Hp) :=
  if x2 = (3 : Int32) then
    if x4 = (3 : Int32) then
      if (x1 - x1 / (2 : Int32) * (2 : Int32)) = 0 then
        f_X12_by_33 h x0 x1 x2 x3
      else
        f_X12_by_37 h x0 x1 x2 x3
    else
      f_X12_by_37 h x0 x1 x2 x3
  else
    f_X12_by_37 h x0 x1 x2 x3
def f_X12_by (h : Hp) (x0 : Nat) (x1 : Int32) (x2 : Int32) (x3 : Int32) (x4 : Int32) : Option (Int32 × Hp) :=
  gd (kd x0 = 12) <|
  if x2 = (1 : Int32) then
    f_X12_by_33 h x0 x1 x2 x3
  else
    if x2 = (2 : Int32) then
      if (2 : Int32) ≤ x4 then
        f_X12_by_33 h x0 x1 x2 x3
      else
        f_X12_by_16 h x0 x1 x2 x3 x4
    else
      f_X12_by_16 h x0 x1 x2 x3 x4
def f_X12_layTable_139 (k54 : Hp → Nat → Int32 → Int32 → Int32 → Option (Unit × Hp)) (k64 : Hp → Nat → Int32 → Int32 → Int32 → Int32 → Option (Unit × Hp)) (h : Hp) (x0 : Nat) (x1 : Int32) (x2 : Int32) (x4 : Int32) (x5 : Int32) (x6 : Int32) : Option (Unit × Hp) :=
  gd (kd (h.2 x0 15) = 16) <|
  gd (inr ((((601 : Int32) * (x4 - (1 : Int32))) + x5) + (300 : Int32)) (ln (h.2 x0 15)) = true) <|
  lt ((si h (h.2 x0 15) ((((601 : Int32) * (x4 - (1 : Int32))) + x5) + (300 : Int32)).toNatClampNeg x6)) <| fun h3 =>
  k64 h3 x0 x1 x2 x4 (x5 + (1 : Int32))
def f_X12_layTable_87 (k54 : Hp → Nat → Int32 → Int32 → Int32 → Option (Unit × Hp)) (k64 : Hp → Nat → Int32 → Int32 → Int32 → Int32 → Option (Unit × Hp)) : Nat → Hp → Nat → Int32 → Int32 → Int32 → Int32 → Int32 → Int32 → Option (Unit × Hp)
  | 0 => fun _ _ _ _ _ _ _ _ => none
  | fu + 1 => fun h x0 x1 x2 x4 x5 x6 x7 =>
    if (3 : Int32) < x7 then
      f_X12_layTable_139 k54 k64 h x0 x1 x2 x4 x5 x6
    else
      bd (f_X12_has h x1 (x4 - (1 : Int32))) <| fun r1 h2 =>
      if r1 = 0 then
        f_X12_layTable_139 k54 k64 h2 x0 x1 x2 x4 x5 x6
      else
        bd (f_X12_by h2 x0 x4 x7 x5 x2) <| fun r4 h5 =>
        if x6 ≤ r4 then
          f_X12_layTable_87 k54 k64 fu h5 x0 x1 x2 x4 x5 x6 (x7 + (1 : Int32))
        else
          f_X12_layTable_87 k54 k64 fu h5 x0 x1 x2 x4 x5 r4 (x7 + (1 : Int32))
def f_X12_layTable_64 (k54 : Hp → Nat → Int32 → Int32 → Int32 → Option (Unit × Hp)) : Nat → Hp → Nat → Int32 → Int32 → Int32 → Int32 → Option (Unit × Hp)
  | 0 => fun _ _ _ _ _ _ => none
  | fu + 1 => fun h x0 x1 x2 x4 x5 =>
    if (300 : Int32) < x5 then
      k54 h x0 x1 x2 (x4 + (-1 : Int32))
    else
      bd (f_X12_laid h x0 (x4 + (1 : Int32)) x5) <| fun r1 h2 =>
      f_X12_layTable_87 k54 (f_X12_layTable_64 k54 fu) FU h2 x0 x1 x2 x4 x5 r1 (1 : Int32)
def f_X12_layTable_54 : Nat → Hp → Nat → Int32 → Int32 → Int32 → Option (Unit × Hp)
  | 0 => fun _ _ _ _ _ => none
  | fu + 1 => fun h x0 x1 x2 x4 =>
    if x4 ≤ 0 then
      some ((), h)
    else
      f_X12_layTable_64 (f_X12_layTable_54 fu) FU h x0 x1 x2 x4 (-300 : Int32)
def f_X12_layTable_44 (k10 : Hp → Nat → Int32 → Int32 → Int32 → Int32 → Option (Unit × Hp)) (h : Hp) (x0 : Nat) (x1 : Int32) (x2 : Int32) (x3 : Int32) (x4 : Int32) (t0 : Nat) (t1 : Int32) (t2 : Int32) : Option (Unit × Hp) :=
  gd (inr t1 (ln t0) = true) <|
  lt ((si h t0 t1.toNatClampNeg t2)) <| fun h2 =>
  k10 h2 x0 x1 x2 x3 (x4 + (1 : Int32))
def f_X12_layTable_10 : Nat → Hp → Nat → Int32 → Int32 → Int32 → Int32 → Option (Unit × Hp)
  | 0 => fun _ _ _ _ _ _ => none
  | fu + 1 => fun h x0 x1 x2 x3 x4 =>
    if (601 : Int32) ≤ x4 then
      f_X12_layTable_54 FU h x0 x1 x2 x3
    else
      gd (kd (h.2 x0 15) = 16) <|
      if x4 = (300 : Int32) then
        f_X12_layTable_44 (f_X12_layTable_10 fu) h x0 x1 x2 x3 x4 (h.2 x0 15) (((601 : Int32) * x3) + x4) (0 : Int32)
      else
        f_X12_layTable_44 (f_X12_layTable_10 fu) h x0 x1 x2 x3 x4 (h.2 x0 15) (((601 : Int32) * x3) + x4) (1000000 : Int32)
def f_X12_layTable (h : Hp) (x0 : Nat) (x1 : Int32) (x2 : Int32) : Option (Unit × Hp) :=
  gd (kd x0 = 12) <|
  gd (kd (h.2 x0 1) = 16) <|
  gd (inr (0 : Int32) (ln (h.2 x0 1)) = true) <|
  f_X12_layTable_10 FU h x0 x1 x2 (h.1 (h.2 x0 1) (0 : Int32).toNatClampNeg) (0 : Int32)
def f_X12_bestOf_273 (k121 : Hp → Nat → Int32 → Int32 → Int32 → Int32 → Int32 → Int32 → Option (Int32 × Hp)) (h : Hp) (x0 : Nat) (x1 : Int32) (x3 : Int32) (x4 : Int32) (x5 : Int32) (x7 : Int32) (x8 : Int32) (t0 : Int32) (t1 : Int32) : Option (Int32 × Hp) :=
  if (3 : Int32) < x8 then
    k121 h x0 x1 x3 x4 (x5 - (0 : Int32)) (t0 - t1) (x7 + (1 : Int32))
  else
    bd (f_X12_counts h x7 x8) <| fun r1 h2 =>
    k121 h2 x0 x1 x3 x4 (x5 - r1) (t0 - t1) (x7 + (1 : Int32))
def f_X12_bestOf_245 (k121 : Hp → Nat → Int32 → Int32 → Int32 → Int32 → Int32 → Int32 → Option (Int32 × Hp)) (h : Hp) (x0 : Nat) (x1 : Int32) (x3 : Int32) (x4 : Int32) (x5 : Int32) (x6 : Int32) (x7 : Int32) (x8 : Int32) (t0 : Nat) (t1 : Int32) (t2 : Int32) : Option (Int32 × Hp) :=
  lt ((si h t0 18 (t1 ||| t2))) <| fun h1 =>
  if (3 : Int32) < x8 then
    f_X12_bestOf_273 k121 h1 x0 x1 x3 x4 x5 x7 x8 x6 (0 : Int32)
  else
    bd (f_X12_priceOf h1 x0 x7 x8) <| fun r3 h4 =>
    f_X12_bestOf_273 k121 h4 x0 x1 x3 x4 x5 x7 x8 x6 ((1000 : Int32) + r3)
def f_X12_bestOf_220 (k121 : Hp → Nat → Int32 → Int32 → Int32 → Int32 → Int32 → Int32 → Option (Int32 × Hp)) (h : Hp) (x0 : Nat) (x1 : Int32) (x3 : Int32) (x4 : Int32) (x5 : Int32) (x6 : Int32) (x7 : Int32) (x8 : Int32) (t0 : Nat) (t1 : Int32) (t2 : Int32) : Option (Int32 × Hp) :=
  lt ((si h t0 17 (t1 ||| t2))) <| fun h1 =>
  if x8 = (3 : Int32) then
    f_X12_bestOf_245 k121 h1 x0 x1 x3 x4 x5 x6 x7 x8 x0 (h1.1 x0 18) ((1 : Int32) <<< ((x7 - (1 : Int32)) &&& 31))
  else
    f_X12_bestOf_245 k121 h1 x0 x1 x3 x4 x5 x6 x7 x8 x0 (h1.1 x0 18) (0 : Int32)
def f_X12_bestOf_195 (k121 : Hp → Nat → Int32 → Int32 → Int32 → Int32 → Int32 → Int32 → Option (Int32 × Hp)) (h : Hp) (x0 : Nat) (x1 : Int32) (x3 : Int32) (x4 : Int32) (x5 : Int32) (x6 : Int32) (x7 : Int32) (x8 : Int32) (t0 : Nat) (t1 : Int32) (t2 : Int32) : Option (Int32 × Hp) :=
  lt ((si h t0 16 (t1 ||| t2))) <| fun h1 =>
  if x8 = (2 : Int32) then
    f_X12_bestOf_220 k121 h1 x0 x1 x3 x4 x5 x6 x7 x8 x0 (h1.1 x0 17) ((1 : Int32) <<< ((x7 - (1 : Int32)) &&& 31))
  else
    f_X12_bestOf_220 k121 h1 x0 x1 x3 x4 x5 x6 x7 x8 x0 (h1.1 x0 17) (0 : Int32)
def f_X12_bestOf_174 (k121 : Hp → Nat → Int32 → Int32 → Int32 → Int32 → Int32 → Int32 → Option (Int32 × Hp)) (h : Hp) (x0 : Nat) (x1 : Int32) (x3 : Int32) (x4 : Int32) (x5 : Int32) (x6 : Int32) (x7 : Int32) (x8 : Int32) : Option (Int32 × Hp) :=
  if x8 = (1 : Int32) then
    f_X12_bestOf_195 k121 h x0 x1 x3 x4 x5 x6 x7 x8 x0 (h.1 x0 16) ((1 : Int32) <<< ((x7 - (1 : Int32)) &&& 31))
  else
    f_X12_bestOf_195 k121 h x0 x1 x3 x4 x5 x6 x7 x8 x0 (h.1 x0 16) (0 : Int32)
def f_X12_bestOf_135 (k121 : Hp → Nat → Int32 → Int32 → Int32 → Int32 → Int32 → Int32 → Option (Int32 × Hp)) : Nat → Hp → Nat → Int32 → Int32 → Int32 → Int32 → Int32 → Int32 → Int32 → Option (Int32 × Hp)
  | 0 => fun _ _ _ _ _ _ _ _ _ => none
  | fu + 1 => fun h x0 x1 x3 x4 x5 x6 x7 x8 =>
    if (3 : Int32) < x8 then
      f_X12_bestOf_174 k121 h x0 x1 x3 x4 x5 x6 x7 x8
    else
      bd (f_X12_has h x1 (x7 - (1 : Int32))) <| fun r1 h2 =>
      if r1 = 0 then
        f_X12_bestOf_135 k121 fu h2 x0 x1 x3 x4 x5 x6 x7 (x8 + (1 : Int32))
      else
        bd (f_X12_by h2 x0 x7 x8 x5 x3) <| fun r4 h5 =>
        if r4 = x6 then
          f_X12_bestOf_174 k121 h5 x0 x1 x3 x4 x5 x6 x7 x8
        else
          f_X12_bestOf_135 k121 fu h5 x0 x1 x3 x4 x5 x6 x7 (x8 + (1 : Int32))
def f_X12_bestOf_121 : Nat → Hp → Nat → Int32 → Int32 → Int32 → Int32 → Int32 → Int32 → Option (Int32 × Hp)
  | 0 => fun _ _ _ _ _ _ _ _ => none
  | fu + 1 => fun h x0 x1 x3 x4 x5 x6 x7 =>
    gd (kd (h.2 x0 1) = 16) <|
    gd (inr (0 : Int32) (ln (h.2 x0 1)) = true) <|
    if (h.1 (h.2 x0 1) (0 : Int32).toNatClampNeg) < x7 then
      some (x4, h)
    else
      f_X12_bestOf_135 (f_X12_bestOf_121 fu) FU h x0 x1 x3 x4 x5 x6 x7 (1 : Int32)
def f_X12_bestOf_61 (h : Hp) (x0 : Nat) (x2 : Int32) (x4 : Int32) (t0 : Nat) (t1 : Int32) : Option (Int32 × Hp) :=
  lt ((si h t0 16 t1)) <| fun h1 =>
  if x4 = 0 then
    some ((-4 : Int32), h1)
  else
    gd (kd (h1.2 x0 1) = 16) <|
    gd (inr ((4 : Int32) + x2) (ln (h1.2 x0 1)) = true) <|
    some (((1000 : Int32) + (h1.1 (h1.2 x0 1) ((4 : Int32) + x2).toNatClampNeg)), h1)
def f_X12_bestOf_44 (h : Hp) (x0 : Nat) (x2 : Int32) (t0 : Int32) : Option (Int32 × Hp) :=
  if t0 = 0 then
    f_X12_bestOf_61 h x0 x2 t0 x0 (0 : Int32)
  else
    f_X12_bestOf_61 h x0 x2 t0 x0 ((1 : Int32) <<< ((x2 - (1 : Int32)) &&& 31))
def f_X12_bestOf_43 (h : Hp) (x0 : Nat) (x2 : Int32) : Option (Int32 × Hp) :=
  f_X12_bestOf_44 h x0 x2 (0 : Int32)
def f_X12_bestOf (h : Hp) (x0 : Nat) (x1 : Int32) (x2 : Int32) (x3 : Int32) : Option (Int32 × Hp) :=
  gd (kd x0 = 12) <|
  lt ((si h x0 16 (0 : Int32))) <| fun h1 =>
  lt ((si h1 x0 17 (0 : Int32))) <| fun h3 =>
  lt ((si h3 x0 18 (0 : Int32))) <| fun h5 =>
  if x3 = 0 then
    gd (kd (h5.2 x0 1) = 16) <|
    gd (inr (0 : Int32) (ln (h5.2 x0 1)) = true) <|
    if (h5.1 (h5.2 x0 1) (0 : Int32).toNatClampNeg) < x2 then
      f_X12_bestOf_43 h5 x0 x2
    else
      bd (f_X12_has h5 x1 (x2 - (1 : Int32))) <| fun r15 h16 =>
      if r15 = 0 then
        f_X12_bestOf_43 h16 x0 x2
      else
        f_X12_bestOf_44 h16 x0 x2 (1 : Int32)
  else
    bd (f_X12_layTable h5 x0 x1 x3) <| fun r7 h8 =>
    bd (f_X12_laid h8 x0 (1 : Int32) x2) <| fun r10 h11 =>
    if r10 < (1000000 : Int32) then
      f_X12_bestOf_121 FU h11 x0 x1 x3 r10 x2 r10 (1 : Int32)
    else
      some ((-4 : Int32), h11)
def f_X12_hasBest (h : Hp) (x0 : Nat) (x1 : Int32) (x2 : Int32) (x3 : Int32) : Option (Int32 × Hp) :=
  gd (kd x0 = 12) <|
  bd (f_X12_ofOne h x0 x1) <| fun r1 h2 =>
  gd (kd (h2.2 x0 1) = 16) <|
  gd (inr ((53 : Int32) + x1) (ln (h2.2 x0 1)) = true) <|
  bd (f_X12_bestOf h2 x0 (r1 &&& (x2 ^^^ (-1 : Int32))) (h2.1 (h2.2 x0 1) ((53 : Int32) + x1).toNatClampNeg) x3) <| fun r6 h7 =>
  if r6 = (-4 : Int32) then
    some ((0 : Int32), h7)
  else
    some ((1 : Int32), h7)
def f_X12_usedSet (h : Hp) (x0 : Nat) : Option (Int32 × Hp) :=
  gd (kd x0 = 12) <|
  some ((((h.1 x0 16) ||| (h.1 x0 17)) ||| (h.1 x0 18)), h)
def f_X12_keepDay_51 : Nat → Hp → Nat → Int32 → Option (Unit × Hp)
  | 0 => fun _ _ _ => none
  | fu + 1 => fun h x0 x1 =>
    if (51 : Int32) ≤ x1 then
      lt ((si h x0 5 ((h.1 x0 5) + (1 : Int32)))) <| fun h1 =>
      some ((), h1)
    else
      gd (kd (h.2 x0 4) = 16) <|
      gd (kd (h.2 x0 3) = 16) <|
      gd (inr x1 (ln (h.2 x0 3)) = true) <|
      gd (inr (((51 : Int32) * (h.1 x0 5)) + x1) (ln (h.2 x0 4)) = true) <|
      lt ((si h (h.2 x0 4) (((51 : Int32) * (h.1 x0 5)) + x1).toNatClampNeg (h.1 (h.2 x0 3) x1.toNatClampNeg))) <| fun h7 =>
      f_X12_keepDay_51 fu h7 x0 (x1 + (1 : Int32))
def f_X12_keepDay_11 : Nat → Hp → Nat → Int32 → Option (Unit × Hp)
  | 0 => fun _ _ _ => none
  | fu + 1 => fun h x0 x1 =>
    if (357 : Int32) ≤ x1 then
      lt ((si h x0 5 ((h.1 x0 5) - (1 : Int32)))) <| fun h1 =>
      f_X12_keepDay_51 FU h1 x0 (0 : Int32)
    else
      gd (kd (h.2 x0 4) = 16) <|
      gd (kd (h.2 x0 4) = 16) <|
      gd (inr (x1 + (51 : Int32)) (ln (h.2 x0 4)) = true) <|
      gd (inr x1 (ln (h.2 x0 4)) = true) <|
      lt ((si h (h.2 x0 4) x1.toNatClampNeg (h.1 (h.2 x0 4) (x1 + (51 : Int32)).toNatClampNeg))) <| fun h7 =>
      f_X12_keepDay_11 fu h7 x0 (x1 + (1 : Int32))
def f_X12_keepDay (h : Hp) (x0 : Nat) : Option (Unit × Hp) :=
  gd (kd x0 = 12) <|
  if (h.1 x0 5) = (8 : Int32) then
    f_X12_keepDay_11 FU h x0 (0 : Int32)
  else
    f_X12_keepDay_51 FU h x0 (0 : Int32)
def f_X12_take_2 : Nat → Hp → Nat → Int32 → Int32 → Int32 → Option (Unit × Hp)
  | 0 => fun _ _ _ _ _ => none
  | fu + 1 => fun h x0 x1 x2 x3 =>
    gd (kd (h.2 x0 1) = 16) <|
    gd (inr (0 : Int32) (ln (h.2 x0 1)) = true) <|
    if (h.1 (h.2 x0 1) (0 : Int32).toNatClampNeg) < x3 then
      gd (kd (h.2 x0 3) = 16) <|
      gd (inr (2 : Int32) (ln (h.2 x0 3)) = true) <|
      gd (inr (2 : Int32) (ln (h.2 x0 3)) = true) <|
      lt ((si h (h.2 x0 3) (2 : Int32).toNatClampNeg ((h.1 (h.2 x0 3) (2 : Int32).toNatClampNeg) ||| ((1 : Int32) <<< (x1 &&& 31))))) <| fun h6 =>
      some ((), h6)
    else
      bd (f_X12_has h x2 (x3 - (1 : Int32))) <| fun r8 h9 =>
      if r8 = 0 then
        f_X12_take_2 fu h9 x0 x1 x2 (x3 + (1 : Int32))
      else
        gd (kd (h9.2 x0 3) = 16) <|
        gd (inr ((2 : Int32) + x3) (ln (h9.2 x0 3)) = true) <|
        lt ((si h9 (h9.2 x0 3) ((2 : Int32) + x3).toNatClampNeg x1)) <| fun h13 =>
        f_X12_take_2 fu h13 x0 x1 x2 (x3 + (1 : Int32))
def f_X12_take (h : Hp) (x0 : Nat) (x1 : Int32) (x2 : Int32) : Option (Unit × Hp) :=
  gd (kd x0 = 12) <|
  f_X12_take_2 FU h x0 x1 x2 (1 : Int32)
def f_X12_say_19 : Nat → Hp → Nat → Int32 → Int32 → Int32 → Option (Int32 × Hp)
  | 0 => fun _ _ _ _ _ => none
  | fu + 1 => fun h x0 x1 x2 x3 =>
    if (h.1 x0 14) ≤ x3 then
      bd (f_X12_isSaying h x0) <| fun r1 h2 =>
      if r1 = 0 then
        some ((-2 : Int32), h2)
      else
        bd (f_X12_sumOfWords h2 x0) <| fun r4 h5 =>
        gd (kd (h5.2 x0 1) = 16) <|
        gd (inr ((53 : Int32) + x1) (ln (h5.2 x0 1)) = true) <|
        if r4 = (h5.1 (h5.2 x0 1) ((53 : Int32) + x1).toNatClampNeg) then
          bd (f_X12_mayOf h5 x0 x1) <| fun r9 h10 =>
          if (x2 &&& (r9 ^^^ (-1 : Int32))) = 0 then
            gd (kd (h10.2 x0 3) = 16) <|
            gd (inr (2 : Int32) (ln (h10.2 x0 3)) = true) <|
            bd (f_X12_has h10 (h10.1 (h10.2 x0 3) (2 : Int32).toNatClampNeg) x1) <| fun r14 h15 =>
            if r14 = 0 then
              bd (f_X12_keepDay h15 x0) <| fun r17 h18 =>
              bd (f_X12_take h18 x0 x1 x2) <| fun r20 h21 =>
              bd (f_X12_priceOfWords h21 x0) <| fun r23 h24 =>
              some (r23, h24)
            else
              some ((-2 : Int32), h15)
          else
            some ((-2 : Int32), h10)
        else
          some ((-2 : Int32), h5)
    else
      gd (kd (h.2 x0 13) = 16) <|
      gd (inr ((2 : Int32) * x3) (ln (h.2 x0 13)) = true) <|
      f_X12_say_19 fu h x0 x1 (x2 ||| ((1 : Int32) <<< (((h.1 (h.2 x0 13) ((2 : Int32) * x3).toNatClampNeg) - (1 : Int32)) &&& 31))) (x3 + (1 : Int32))
def f_X12_say (h : Hp) (x0 : Nat) (x1 : Int32) : Option (Int32 × Hp) :=
  gd (kd x0 = 12) <|
  lt ((si h x0 0 (0 : Int32))) <| fun h1 =>
  bd (f_X12_noOne h1 x0 x1) <| fun r3 h4 =>
  if r3 = 0 then
    f_X12_say_19 FU h4 x0 x1 (0 : Int32) (0 : Int32)
  else
    some ((-1 : Int32), h4)
def f_X12_speak (h : Hp) (x0 : Nat) (x1 : Int32) : Option (Int32 × Hp) :=
  gd (kd x0 = 12) <|
  lt ((si h x0 0 (0 : Int32))) <| fun h1 =>
  bd (f_X12_noOne h1 x0 x1) <| fun r3 h4 =>
  if r3 = 0 then
    gd (kd (h4.2 x0 3) = 16) <|
    gd (inr (2 : Int32) (ln (h4.2 x0 3)) = true) <|
    bd (f_X12_has h4 (h4.1 (h4.2 x0 3) (2 : Int32).toNatClampNeg) x1) <| fun r8 h9 =>
    if r8 = 0 then
      bd (f_X12_mayOf h9 x0 x1) <| fun r11 h12 =>
      gd (kd (h12.2 x0 1) = 16) <|
      gd (inr ((53 : Int32) + x1) (ln (h12.2 x0 1)) = true) <|
      gd (kd (h12.2 x0 1) = 16) <|
      gd (inr (2 : Int32) (ln (h12.2 x0 1)) = true) <|
      bd (f_X12_bestOf h12 x0 r11 (h12.1 (h12.2 x0 1) ((53 : Int32) + x1).toNatClampNeg) (h12.1 (h12.2 x0 1) (2 : Int32).toNatClampNeg)) <| fun r18 h19 =>
      if r18 = (-4 : Int32) then
        some ((-4 : Int32), h19)
      else
        bd (f_X12_keepDay h19 x0) <| fun r21 h22 =>
        bd (f_X12_usedSet h22 x0) <| fun r24 h25 =>
        bd (f_X12_take h25 x0 x1 r24) <| fun r27 h28 =>
        some ((r18 / (1000 : Int32)), h28)
    else
      some ((-2 : Int32), h9)
  else
    some ((-1 : Int32), h4)
def f_X12_lend_94 : Nat → Hp → Nat → Int32 → Int32 → Option (Int32 × Hp)
  | 0 => fun _ _ _ _ => none
  | fu + 1 => fun h x0 x4 x5 =>
    gd (kd (h.2 x0 1) = 16) <|
    gd (inr (0 : Int32) (ln (h.2 x0 1)) = true) <|
    if (h.1 (h.2 x0 1) (0 : Int32).toNatClampNeg) < x5 then
      some (x4, h)
    else
      gd (kd (h.2 x0 3) = 16) <|
      gd (inr ((26 : Int32) + x5) (ln (h.2 x0 3)) = true) <|
      if (h.1 (h.2 x0 3) ((26 : Int32) + x5).toNatClampNeg) = (-4 : Int32) then
        f_X12_lend_94 fu h x0 (x4 + (0 : Int32)) (x5 + (1 : Int32))
      else
        f_X12_lend_94 fu h x0 (x4 + (1 : Int32)) (x5 + (1 : Int32))
def f_X12_lend (h : Hp) (x0 : Nat) (x1 : Int32) (x2 : Int32) : Option (Int32 × Hp) :=
  gd (kd x0 = 12) <|
  lt ((si h x0 0 (0 : Int32))) <| fun h1 =>
  bd (f_X12_noNumber h1 x0 x1) <| fun r3 h4 =>
  if r3 = 0 then
    bd (f_X12_noOne h4 x0 x2) <| fun r6 h7 =>
    if r6 = 0 then
      gd (kd (h7.2 x0 1) = 16) <|
      gd (inr ((28 : Int32) + x1) (ln (h7.2 x0 1)) = true) <|
      if (h7.1 (h7.2 x0 1) ((28 : Int32) + x1).toNatClampNeg) = (-4 : Int32) then
        some ((-2 : Int32), h7)
      else
        if (h7.1 (h7.2 x0 1) ((28 : Int32) + x1).toNatClampNeg) = x2 then
          some ((-2 : Int32), h7)
        else
          gd (kd (h7.2 x0 3) = 16) <|
          gd (inr ((2 : Int32) + x1) (ln (h7.2 x0 3)) = true) <|
          if (h7.1 (h7.2 x0 3) ((2 : Int32) + x1).toNatClampNeg) = (-4 : Int32) then
            gd (kd (h7.2 x0 3) = 16) <|
            gd (inr ((26 : Int32) + x1) (ln (h7.2 x0 3)) = true) <|
            if (h7.1 (h7.2 x0 3) ((26 : Int32) + x1).toNatClampNeg) = (-4 : Int32) then
              bd (f_X12_keepDay h7 x0) <| fun r15 h16 =>
              gd (kd (h16.2 x0 3) = 16) <|
              gd (inr ((26 : Int32) + x1) (ln (h16.2 x0 3)) = true) <|
              lt ((si h16 (h16.2 x0 3) ((26 : Int32) + x1).toNatClampNeg x2)) <| fun h20 =>
              f_X12_lend_94 FU h20 x0 (0 : Int32) (1 : Int32)
            else
              some ((-2 : Int32), h7)
          else
            some ((-2 : Int32), h7)
    else
      some ((-1 : Int32), h7)
  else
    some ((-1 : Int32), h4)
def f_X12_born (h : Hp) (x0 : Nat) : Option (Int32 × Hp) :=
  gd (kd x0 = 12) <|
  lt ((si h x0 0 (0 : Int32))) <| fun h1 =>
  gd (kd (h1.2 x0 3) = 16) <|
  gd (inr (0 : Int32) (ln (h1.2 x0 3)) = true) <|
  gd (kd (h1.2 x0 3) = 16) <|
  gd (inr (1 : Int32) (ln (h1.2 x0 3)) = true) <|
  if (h1.1 (h1.2 x0 3) (1 : Int32).toNatClampNeg) = (1 : Int32) then
    some ((-2 : Int32), h1)
  else
    bd (f_X12_noNumber h1 x0 ((h1.1 (h1.2 x0 3) (0 : Int32).toNatClampNeg) + (1 : Int32))) <| fun r7 h8 =>
    if r7 = 0 then
      gd (kd (h8.2 x0 3) = 16) <|
      gd (inr ((2 : Int32) + ((h1.1 (h1.2 x0 3) (0 : Int32).toNatClampNeg) + (1 : Int32))) (ln (h8.2 x0 3)) = true) <|
      if (h8.1 (h8.2 x0 3) ((2 : Int32) + ((h1.1 (h1.2 x0 3) (0 : Int32).toNatClampNeg) + (1 : Int32))).toNatClampNeg) = (-4 : Int32) then
        bd (f_X12_keepDay h8 x0) <| fun r12 h13 =>
        gd (kd (h13.2 x0 3) = 16) <|
        gd (inr (0 : Int32) (ln (h13.2 x0 3)) = true) <|
        lt ((si h13 (h13.2 x0 3) (0 : Int32).toNatClampNeg ((h1.1 (h1.2 x0 3) (0 : Int32).toNatClampNeg) + (1 : Int32)))) <| fun h17 =>
        gd (kd (h17.2 x0 3) = 16) <|
        gd (inr ((2 : Int32) + ((h1.1 (h1.2 x0 3) (0 : Int32).toNatClampNeg) + (1 : Int32))) (ln (h17.2 x0 3)) = true) <|
        lt ((si h17 (h17.2 x0 3) ((2 : Int32) + ((h1.1 (h1.2 x0 3) (0 : Int32).toNatClampNeg) + (1 : Int32))).toNatClampNeg (7 : Int32))) <| fun h21 =>
        some (((h1.1 (h1.2 x0 3) (0 : Int32).toNatClampNeg) + (1 : Int32)), h21)
      else
        some ((-2 : Int32), h8)
    else
      some ((-2 : Int32), h8)
def f_X12_dusk (h : Hp) (x0 : Nat) (x1 : Int32) : Option (Int32 × Hp) :=
  gd (kd x0 = 12) <|
  lt ((si h x0 0 (0 : Int32))) <| fun h1 =>
  bd (f_X12_taken h1 x0) <| fun r3 h4 =>
  bd (f_X12_bits h4 r3) <| fun r6 h7 =>
  bd (f_X12_keepDay h7 x0) <| fun r9 h10 =>
  bd (f_X12_dawn h10 x0 x1) <| fun r12 h13 =>
  some (r6, h13)
def f_X12_undo_27 : Nat → Hp → Nat → Int32 → Option (Int32 × Hp)
  | 0 => fun _ _ _ => none
  | fu + 1 => fun h x0 x1 =>
    if (51 : Int32) ≤ x1 then
      some ((h.1 x0 5), h)
    else
      gd (kd (h.2 x0 3) = 16) <|
      gd (kd (h.2 x0 4) = 16) <|
      gd (inr (((51 : Int32) * (h.1 x0 5)) + x1) (ln (h.2 x0 4)) = true) <|
      gd (inr x1 (ln (h.2 x0 3)) = true) <|
      lt ((si h (h.2 x0 3) x1.toNatClampNeg (h.1 (h.2 x0 4) (((51 : Int32) * (h.1 x0 5)) + x1).toNatClampNeg))) <| fun h5 =>
      f_X12_undo_27 fu h5 x0 (x1 + (1 : Int32))
def f_X12_undo (h : Hp) (x0 : Nat) : Option (Int32 × Hp) :=
  gd (kd x0 = 12) <|
  lt ((si h x0 0 (0 : Int32))) <| fun h1 =>
  if (h1.1 x0 5) = 0 then
    some ((-2 : Int32), h1)
  else
    lt ((si h1 x0 5 ((h1.1 x0 5) - (1 : Int32)))) <| fun h3 =>
    f_X12_undo_27 FU h3 x0 (0 : Int32)
def f_X12_best (h : Hp) (x0 : Nat) (x1 : Int32) (x2 : Int32) (x3 : Int32) : Option (Int32 × Hp) :=
  gd (kd x0 = 12) <|
  lt ((si h x0 0 (0 : Int32))) <| fun h1 =>
  bd (f_X12_noOne h1 x0 x1) <| fun r3 h4 =>
  if r3 = 0 then
    bd (f_X12_in h4 x2.toInt64 (1 : Int64) (99 : Int64)) <| fun r6 h7 =>
    if r6 = 0 then
      some ((-1 : Int32), h7)
    else
      bd (f_X12_in h7 x3.toInt64 (0 : Int64) (4 : Int64)) <| fun r9 h10 =>
      if r9 = 0 then
        some ((-1 : Int32), h10)
      else
        bd (f_X12_mayOf h10 x0 x1) <| fun r12 h13 =>
        gd (kd (h13.2 x0 1) = 16) <|
        gd (inr (2 : Int32) (ln (h13.2 x0 1)) = true) <|
        bd (f_X12_bestOf h13 x0 r12 x2 (h13.1 (h13.2 x0 1) (2 : Int32).toNatClampNeg)) <| fun r17 h18 =>
        if r17 = (-4 : Int32) then
          some ((-4 : Int32), h18)
        else
          if x3 = 0 then
            some ((r17 / (1000 : Int32)), h18)
          else
            if x3 = (1 : Int32) then
              some ((r17 - r17 / (1000 : Int32) * (1000 : Int32)), h18)
            else
              if x3 = (2 : Int32) then
                some ((h18.1 x0 16), h18)
              else
                if x3 = (3 : Int32) then
                  some ((h18.1 x0 17), h18)
                else
                  some ((h18.1 x0 18), h18)
  else
    some ((-1 : Int32), h4)
def f_X12_stuckOf_55 (k9 : Hp → Nat → Int32 → Int32 → Int32 → Int32 → Int32 → Option (Int32 × Hp)) (h : Hp) (x0 : Nat) (x1 : Int32) (x3 : Int32) (x5 : Int32) (x6 : Int32) (x7 : Int32) (t0 : Int32) (t1 : Int32) : Option (Int32 × Hp) :=
  if x7 = 0 then
    k9 h x0 x1 x3 (t0 ||| t1) (x5 ||| ((1 : Int32) <<< (x6 &&& 31))) (x6 + (1 : Int32))
  else
    k9 h x0 x1 x3 (t0 ||| t1) (x5 ||| (0 : Int32)) (x6 + (1 : Int32))
def f_X12_stuckOf_9 : Nat → Hp → Nat → Int32 → Int32 → Int32 → Int32 → Int32 → Option (Int32 × Hp)
  | 0 => fun _ _ _ _ _ _ _ => none
  | fu + 1 => fun h x0 x1 x3 x4 x5 x6 =>
    gd (kd (h.2 x0 1) = 16) <|
    gd (inr (1 : Int32) (ln (h.2 x0 1)) = true) <|
    if (h.1 (h.2 x0 1) (1 : Int32).toNatClampNeg) ≤ x6 then
      some (x5, h)
    else
      bd (f_X12_has h x1 x6) <| fun r3 h4 =>
      if r3 = 0 then
        f_X12_stuckOf_9 fu h4 x0 x1 x3 x4 x5 (x6 + (1 : Int32))
      else
        bd (f_X12_hasBest h4 x0 x6 x4 x3) <| fun r6 h7 =>
        if r6 = 0 then
          f_X12_stuckOf_55 (f_X12_stuckOf_9 fu) h7 x0 x1 x3 x5 x6 r6 x4 (0 : Int32)
        else
          bd (f_X12_usedSet h7 x0) <| fun r9 h10 =>
          f_X12_stuckOf_55 (f_X12_stuckOf_9 fu) h10 x0 x1 x3 x5 x6 r6 x4 r9
def f_X12_stuckOf (h : Hp) (x0 : Nat) (x1 : Int32) (x2 : Int32) (x3 : Int32) : Option (Int32 × Hp) :=
  gd (kd x0 = 12) <|
  f_X12_stuckOf_9 FU h x0 x1 x3 x2 (0 : Int32) (0 : Int32)
def f_X12_silent (h : Hp) (x0 : Nat) : Option (Int32 × Hp) :=
  gd (kd x0 = 12) <|
  gd (kd (h.2 x0 1) = 16) <|
  gd (inr (1 : Int32) (ln (h.2 x0 1)) = true) <|
  gd (kd (h.2 x0 3) = 16) <|
  gd (inr (2 : Int32) (ln (h.2 x0 3)) = true) <|
  some (((((1 : Int32) <<< ((h.1 (h.2 x0 1) (1 : Int32).toNatClampNeg) &&& 31)) - (1 : Int32)) &&& ((h.1 (h.2 x0 3) (2 : Int32).toNatClampNeg) ^^^ (-1 : Int32))), h)
def f_X12_stuck (h : Hp) (x0 : Nat) : Option (Int32 × Hp) :=
  gd (kd x0 = 12) <|
  lt ((si h x0 0 (0 : Int32))) <| fun h1 =>
  bd (f_X12_silent h1 x0) <| fun r3 h4 =>
  bd (f_X12_taken h4 x0) <| fun r6 h7 =>
  gd (kd (h7.2 x0 1) = 16) <|
  gd (inr (2 : Int32) (ln (h7.2 x0 1)) = true) <|
  bd (f_X12_stuckOf h7 x0 r3 r6 (h7.1 (h7.2 x0 1) (2 : Int32).toNatClampNeg)) <| fun r11 h12 =>
  some (r11, h12)
def f_X12_freed_53 : Nat → Hp → Nat → Int32 → Int32 → Int32 → Option (Int32 × Hp)
  | 0 => fun _ _ _ _ _ => none
  | fu + 1 => fun h x0 x1 x2 x3 =>
    gd (kd (h.2 x0 1) = 16) <|
    gd (inr (0 : Int32) (ln (h.2 x0 1)) = true) <|
    if (h.1 (h.2 x0 1) (0 : Int32).toNatClampNeg) < x3 then
      some ((-4 : Int32), h)
    else
      bd (f_X12_has h x2 (x3 - (1 : Int32))) <| fun r3 h4 =>
      if r3 = 0 then
        f_X12_freed_53 fu h4 x0 x1 x2 (x3 + (1 : Int32))
      else
        gd (kd (h4.2 x0 1) = 16) <|
        gd (inr (2 : Int32) (ln (h4.2 x0 1)) = true) <|
        bd (f_X12_hasBest h4 x0 x1 (x2 &&& (((1 : Int32) <<< ((x3 - (1 : Int32)) &&& 31)) ^^^ (-1 : Int32))) (h4.1 (h4.2 x0 1) (2 : Int32).toNatClampNeg)) <| fun r8 h9 =>
        if r8 = 0 then
          f_X12_freed_53 fu h9 x0 x1 x2 (x3 + (1 : Int32))
        else
          some (x3, h9)
def f_X12_freed (h : Hp) (x0 : Nat) (x1 : Int32) : Option (Int32 × Hp) :=
  gd (kd x0 = 12) <|
  lt ((si h x0 0 (0 : Int32))) <| fun h1 =>
  bd (f_X12_noOne h1 x0 x1) <| fun r3 h4 =>
  if r3 = 0 then
    bd (f_X12_taken h4 x0) <| fun r6 h7 =>
    gd (kd (h7.2 x0 3) = 16) <|
    gd (inr (2 : Int32) (ln (h7.2 x0 3)) = true) <|
    bd (f_X12_has h7 (h7.1 (h7.2 x0 3) (2 : Int32).toNatClampNeg) x1) <| fun r11 h12 =>
    if r11 = 0 then
      gd (kd (h12.2 x0 1) = 16) <|
      gd (inr (2 : Int32) (ln (h12.2 x0 1)) = true) <|
      bd (f_X12_hasBest h12 x0 x1 r6 (h12.1 (h12.2 x0 1) (2 : Int32).toNatClampNeg)) <| fun r16 h17 =>
      if r16 = 0 then
        f_X12_freed_53 FU h17 x0 x1 r6 (1 : Int32)
      else
        some ((-4 : Int32), h17)
    else
      some ((-4 : Int32), h12)
  else
    some ((-1 : Int32), h4)
def f_X12_isAhead_5 : Nat → Hp → Nat → Int32 → Int32 → Int32 → Int32 → Option (Int32 × Hp)
  | 0 => fun _ _ _ _ _ _ => none
  | fu + 1 => fun h x0 x1 x2 x3 x4 =>
    if x2 ≤ x4 then
      gd (x3 = 0 ∨ x3 = 1) <|
      some (x3, h)
    else
      if x3 = 0 then
        gd (kd (h.2 x0 19) = 16) <|
        gd (inr x4 (ln (h.2 x0 19)) = true) <|
        if (h.1 (h.2 x0 19) x4.toNatClampNeg) = x1 then
          f_X12_isAhead_5 fu h x0 x1 x2 (1 : Int32) (x4 + (1 : Int32))
        else
          f_X12_isAhead_5 fu h x0 x1 x2 (0 : Int32) (x4 + (1 : Int32))
      else
        f_X12_isAhead_5 fu h x0 x1 x2 (1 : Int32) (x4 + (1 : Int32))
def f_X12_isAhead (h : Hp) (x0 : Nat) (x1 : Int32) (x2 : Int32) : Option (Int32 × Hp) :=
  gd (kd x0 = 12) <|
  f_X12_isAhead_5 FU h x0 x1 x2 (0 : Int32) (0 : Int32)
def f_X12_layOrder_258 (k41 : Hp → Nat → Int32 → Int32 → Int32 → Option (Unit × Hp)) (h : Hp) (x0 : Nat) (x1 : Int32) (x2 : Int32) (x3 : Int32) (t0 : Nat) (t1 : Int32) (t2 : Int32) (t3 : Int32) : Option (Unit × Hp) :=
  gd (inr t1 (ln t0) = true) <|
  lt ((si h t0 t1.toNatClampNeg (t2 + t3))) <| fun h2 =>
  gd (kd (h2.2 x0 19) = 16) <|
  gd (inr (x3 + (1 : Int32)) (ln (h2.2 x0 19)) = true) <|
  lt ((si h2 (h2.2 x0 19) (x3 + (1 : Int32)).toNatClampNeg (-1 : Int32))) <| fun h6 =>
  k41 h6 x0 x1 x2 (x3 + (1 : Int32))
def f_X12_layOrder_233 (k41 : Hp → Nat → Int32 → Int32 → Int32 → Option (Unit × Hp)) (h : Hp) (x0 : Nat) (x1 : Int32) (x2 : Int32) (x3 : Int32) (x5 : Int32) (t0 : Nat) (t1 : Int32) (t2 : Int32) (t3 : Int32) : Option (Unit × Hp) :=
  gd (inr t1 (ln t0) = true) <|
  lt ((si h t0 t1.toNatClampNeg (t2 ||| t3))) <| fun h2 =>
  gd (kd (h2.2 x0 21) = 16) <|
  gd (kd (h2.2 x0 21) = 16) <|
  gd (inr x3 (ln (h2.2 x0 21)) = true) <|
  if x5 = 0 then
    f_X12_layOrder_258 k41 h2 x0 x1 x2 x3 (h2.2 x0 21) (x3 + (1 : Int32)) (h2.1 (h2.2 x0 21) x3.toNatClampNeg) (0 : Int32)
  else
    f_X12_layOrder_258 k41 h2 x0 x1 x2 x3 (h2.2 x0 21) (x3 + (1 : Int32)) (h2.1 (h2.2 x0 21) x3.toNatClampNeg) (1 : Int32)
def f_X12_layOrder_162 (k41 : Hp → Nat → Int32 → Int32 → Int32 → Option (Unit × Hp)) (h : Hp) (x0 : Nat) (x1 : Int32) (x2 : Int32) (x3 : Int32) (x4 : Int32) : Option (Unit × Hp) :=
  gd (kd (h.2 x0 19) = 16) <|
  gd (inr x3 (ln (h.2 x0 19)) = true) <|
  lt ((si h (h.2 x0 19) x3.toNatClampNeg x4)) <| fun h3 =>
  gd (kd (h3.2 x0 1) = 16) <|
  gd (inr (1 : Int32) (ln (h3.2 x0 1)) = true) <|
  if x4 = (h3.1 (h3.2 x0 1) (1 : Int32).toNatClampNeg) then
    k41 h3 x0 x1 x2 (x3 + (-1 : Int32))
  else
    gd (kd (h3.2 x0 20) = 16) <|
    gd (inr x3 (ln (h3.2 x0 20)) = true) <|
    gd (kd (h3.2 x0 1) = 16) <|
    gd (inr (2 : Int32) (ln (h3.2 x0 1)) = true) <|
    bd (f_X12_hasBest h3 x0 x4 (h3.1 (h3.2 x0 20) x3.toNatClampNeg) (h3.1 (h3.2 x0 1) (2 : Int32).toNatClampNeg)) <| fun r11 h12 =>
    gd (kd (h12.2 x0 20) = 16) <|
    gd (kd (h12.2 x0 20) = 16) <|
    gd (inr x3 (ln (h12.2 x0 20)) = true) <|
    if r11 = 0 then
      f_X12_layOrder_233 k41 h12 x0 x1 x2 x3 r11 (h12.2 x0 20) (x3 + (1 : Int32)) (h12.1 (h12.2 x0 20) x3.toNatClampNeg) (0 : Int32)
    else
      bd (f_X12_usedSet h12 x0) <| fun r17 h18 =>
      f_X12_layOrder_233 k41 h18 x0 x1 x2 x3 r11 (h12.2 x0 20) (x3 + (1 : Int32)) (h12.1 (h12.2 x0 20) x3.toNatClampNeg) r17
def f_X12_layOrder_126 (k41 : Hp → Nat → Int32 → Int32 → Int32 → Option (Unit × Hp)) : Nat → Hp → Nat → Int32 → Int32 → Int32 → Int32 → Option (Unit × Hp)
  | 0 => fun _ _ _ _ _ _ => none
  | fu + 1 => fun h x0 x1 x2 x3 x4 =>
    gd (kd (h.2 x0 1) = 16) <|
    gd (inr (1 : Int32) (ln (h.2 x0 1)) = true) <|
    if (h.1 (h.2 x0 1) (1 : Int32).toNatClampNeg) ≤ x4 then
      f_X12_layOrder_162 k41 h x0 x1 x2 x3 x4
    else
      bd (f_X12_has h x1 x4) <| fun r3 h4 =>
      if r3 = 0 then
        f_X12_layOrder_126 k41 fu h4 x0 x1 x2 x3 (x4 + (1 : Int32))
      else
        bd (f_X12_isAhead h4 x0 x4 x3) <| fun r6 h7 =>
        if r6 = 0 then
          f_X12_layOrder_162 k41 h7 x0 x1 x2 x3 x4
        else
          f_X12_layOrder_126 k41 fu h7 x0 x1 x2 x3 (x4 + (1 : Int32))
def f_X12_layOrder_84 (k41 : Hp → Nat → Int32 → Int32 → Int32 → Option (Unit × Hp)) : Nat → Hp → Nat → Int32 → Int32 → Int32 → Int32 → Option (Unit × Hp)
  | 0 => fun _ _ _ _ _ _ => none
  | fu + 1 => fun h x0 x1 x2 x3 x4 =>
    if x2 ≤ x4 then
      k41 h x0 x1 x2 (x3 + (-1 : Int32))
    else
      gd (kd (h.2 x0 22) = 16) <|
      gd (kd (h.2 x0 19) = 16) <|
      gd (inr x4 (ln (h.2 x0 19)) = true) <|
      gd (inr x4 (ln (h.2 x0 22)) = true) <|
      lt ((si h (h.2 x0 22) x4.toNatClampNeg (h.1 (h.2 x0 19) x4.toNatClampNeg))) <| fun h5 =>
      f_X12_layOrder_84 k41 fu h5 x0 x1 x2 x3 (x4 + (1 : Int32))
def f_X12_layOrder_41 : Nat → Hp → Nat → Int32 → Int32 → Int32 → Option (Unit × Hp)
  | 0 => fun _ _ _ _ _ => none
  | fu + 1 => fun h x0 x1 x2 x3 =>
    if x3 < 0 then
      some ((), h)
    else
      if x2 ≤ (h.1 x0 23) then
        some ((), h)
      else
        if x3 = x2 then
          gd (kd (h.2 x0 21) = 16) <|
          gd (inr x3 (ln (h.2 x0 21)) = true) <|
          if (h.1 (h.2 x0 21) x3.toNatClampNeg) ≤ (h.1 x0 23) then
            f_X12_layOrder_41 fu h x0 x1 x2 (x3 + (-1 : Int32))
          else
            gd (kd (h.2 x0 21) = 16) <|
            gd (inr x3 (ln (h.2 x0 21)) = true) <|
            lt ((si h x0 23 (h.1 (h.2 x0 21) x3.toNatClampNeg))) <| fun h7 =>
            f_X12_layOrder_84 (f_X12_layOrder_41 fu) FU h7 x0 x1 x2 x3 (0 : Int32)
        else
          gd (kd (h.2 x0 19) = 16) <|
          gd (inr x3 (ln (h.2 x0 19)) = true) <|
          f_X12_layOrder_126 (f_X12_layOrder_41 fu) FU h x0 x1 x2 x3 ((h.1 (h.2 x0 19) x3.toNatClampNeg) + (1 : Int32))
def f_X12_layOrder (h : Hp) (x0 : Nat) : Option (Unit × Hp) :=
  gd (kd x0 = 12) <|
  bd (f_X12_silent h x0) <| fun r1 h2 =>
  bd (f_X12_bits h2 r1) <| fun r4 h5 =>
  lt ((si h5 x0 23 (-1 : Int32))) <| fun h7 =>
  gd (kd (h7.2 x0 19) = 16) <|
  gd (inr (0 : Int32) (ln (h7.2 x0 19)) = true) <|
  lt ((si h7 (h7.2 x0 19) (0 : Int32).toNatClampNeg (-1 : Int32))) <| fun h11 =>
  gd (kd (h11.2 x0 20) = 16) <|
  bd (f_X12_taken h11 x0) <| fun r14 h15 =>
  gd (inr (0 : Int32) (ln (h11.2 x0 20)) = true) <|
  lt ((si h15 (h11.2 x0 20) (0 : Int32).toNatClampNeg r14)) <| fun h18 =>
  gd (kd (h18.2 x0 21) = 16) <|
  gd (inr (0 : Int32) (ln (h18.2 x0 21)) = true) <|
  lt ((si h18 (h18.2 x0 21) (0 : Int32).toNatClampNeg (0 : Int32))) <| fun h22 =>
  f_X12_layOrder_41 FU h22 x0 r1 r4 (0 : Int32)
def f_X12_order (h : Hp) (x0 : Nat) (x1 : Int32) : Option (Int32 × Hp) :=
  gd (kd x0 = 12) <|
  lt ((si h x0 0 (0 : Int32))) <| fun h1 =>
  bd (f_X12_in h1 x1.toInt64 (-1 : Int64) (5 : Int64)) <| fun r3 h4 =>
  if r3 = 0 then
    some ((-1 : Int32), h4)
  else
    bd (f_X12_layOrder h4 x0) <| fun r6 h7 =>
    if 0 ≤ x1 then
      bd (f_X12_silent h7 x0) <| fun r9 h10 =>
      bd (f_X12_bits h10 r9) <| fun r12 h13 =>
      if r12 ≤ x1 then
        some ((-4 : Int32), h13)
      else
        gd (kd (h13.2 x0 22) = 16) <|
        gd (inr x1 (ln (h13.2 x0 22)) = true) <|
        some ((h13.1 (h13.2 x0 22) x1.toNatClampNeg), h13)
    else
      some ((h7.1 x0 23), h7)
def f_X12_deny_184 (k50 : Hp → Nat → Int32 → Int32 → Int32 → Int32 → Int32 → Int32 → Int32 → Option (Int32 × Hp)) (k77 : Hp → Nat → Int32 → Int32 → Int32 → Int32 → Int32 → Int32 → Int32 → Int32 → Option (Int32 × Hp)) (h : Hp) (x0 : Nat) (x1 : Int32) (x2 : Int32) (x3 : Int32) (x4 : Int32) (x5 : Int32) (x7 : Int32) (x8 : Int32) (x9 : Int32) (t0 : Int32) : Option (Int32 × Hp) :=
  if x9 ≤ x4 then
    k77 h x0 x1 x2 x3 x4 x5 t0 x7 (x8 + (1 : Int32))
  else
    k77 h x0 x1 x2 x3 x9 x5 t0 x7 (x8 + (1 : Int32))
def f_X12_deny_168 (k50 : Hp → Nat → Int32 → Int32 → Int32 → Int32 → Int32 → Int32 → Int32 → Option (Int32 × Hp)) (k77 : Hp → Nat → Int32 → Int32 → Int32 → Int32 → Int32 → Int32 → Int32 → Int32 → Option (Int32 × Hp)) (h : Hp) (x0 : Nat) (x1 : Int32) (x2 : Int32) (x3 : Int32) (x4 : Int32) (x6 : Int32) (x7 : Int32) (x8 : Int32) (x9 : Int32) (t0 : Int32) : Option (Int32 × Hp) :=
  if x9 ≤ x4 then
    f_X12_deny_184 k50 k77 h x0 x1 x2 x3 x4 t0 x7 x8 x9 x6
  else
    f_X12_deny_184 k50 k77 h x0 x1 x2 x3 x4 t0 x7 x8 x9 x8
def f_X12_deny_95 (k50 : Hp → Nat → Int32 → Int32 → Int32 → Int32 → Int32 → Int32 → Int32 → Option (Int32 × Hp)) (k77 : Hp → Nat → Int32 → Int32 → Int32 → Int32 → Int32 → Int32 → Int32 → Int32 → Option (Int32 × Hp)) (h : Hp) (x0 : Nat) (x1 : Int32) (x2 : Int32) (x3 : Int32) (x4 : Int32) (x5 : Int32) (x6 : Int32) (x7 : Int32) (x8 : Int32) (t0 : Int32) (t1 : Int32) : Option (Int32 × Hp) :=
  if t1 < t0 then
    k50 h x0 x1 x2 x3 x4 x5 x6 (x7 + (1 : Int32))
  else
    bd (f_X12_has h x3 (x7 - (1 : Int32))) <| fun r1 h2 =>
    if r1 = 0 then
      bd (f_X12_has h2 x3 (x8 - (1 : Int32))) <| fun r4 h5 =>
      if r4 = 0 then
        bd (f_X12_silent h5 x0) <| fun r7 h8 =>
        gd (kd (h8.2 x0 1) = 16) <|
        gd (inr (2 : Int32) (ln (h8.2 x0 1)) = true) <|
        bd (f_X12_stuckOf h8 x0 r7 ((x3 ||| ((1 : Int32) <<< ((x7 - (1 : Int32)) &&& 31))) ||| ((1 : Int32) <<< ((x8 - (1 : Int32)) &&& 31))) (h8.1 (h8.2 x0 1) (2 : Int32).toNatClampNeg)) <| fun r12 h13 =>
        bd (f_X12_bits h13 r12) <| fun r15 h16 =>
        if r15 ≤ x4 then
          f_X12_deny_168 k50 k77 h16 x0 x1 x2 x3 x4 x6 x7 x8 r15 x5
        else
          f_X12_deny_168 k50 k77 h16 x0 x1 x2 x3 x4 x6 x7 x8 r15 x7
      else
        k77 h5 x0 x1 x2 x3 x4 x5 x6 x7 (x8 + (1 : Int32))
    else
      k77 h2 x0 x1 x2 x3 x4 x5 x6 x7 (x8 + (1 : Int32))
def f_X12_deny_77 (k50 : Hp → Nat → Int32 → Int32 → Int32 → Int32 → Int32 → Int32 → Int32 → Option (Int32 × Hp)) : Nat → Hp → Nat → Int32 → Int32 → Int32 → Int32 → Int32 → Int32 → Int32 → Int32 → Option (Int32 × Hp)
  | 0 => fun _ _ _ _ _ _ _ _ _ _ => none
  | fu + 1 => fun h x0 x1 x2 x3 x4 x5 x6 x7 x8 =>
    if x1 = (1 : Int32) then
      f_X12_deny_95 k50 (f_X12_deny_77 k50 fu) h x0 x1 x2 x3 x4 x5 x6 x7 x8 x8 x7
    else
      gd (kd (h.2 x0 1) = 16) <|
      gd (inr (0 : Int32) (ln (h.2 x0 1)) = true) <|
      f_X12_deny_95 k50 (f_X12_deny_77 k50 fu) h x0 x1 x2 x3 x4 x5 x6 x7 x8 x8 (h.1 (h.2 x0 1) (0 : Int32).toNatClampNeg)
def f_X12_deny_50 : Nat → Hp → Nat → Int32 → Int32 → Int32 → Int32 → Int32 → Int32 → Int32 → Option (Int32 × Hp)
  | 0 => fun _ _ _ _ _ _ _ _ _ => none
  | fu + 1 => fun h x0 x1 x2 x3 x4 x5 x6 x7 =>
    gd (kd (h.2 x0 1) = 16) <|
    gd (inr (0 : Int32) (ln (h.2 x0 1)) = true) <|
    if (h.1 (h.2 x0 1) (0 : Int32).toNatClampNeg) < x7 then
      if x5 = (-4 : Int32) then
        some ((-4 : Int32), h)
      else
        if x2 = 0 then
          some (x4, h)
        else
          if x2 = (1 : Int32) then
            some (x5, h)
          else
            some (x6, h)
    else
      if x1 = (1 : Int32) then
        f_X12_deny_77 (f_X12_deny_50 fu) FU h x0 x1 x2 x3 x4 x5 x6 x7 x7
      else
        f_X12_deny_77 (f_X12_deny_50 fu) FU h x0 x1 x2 x3 x4 x5 x6 x7 (x7 + (1 : Int32))
def f_X12_deny (h : Hp) (x0 : Nat) (x1 : Int32) (x2 : Int32) : Option (Int32 × Hp) :=
  gd (kd x0 = 12) <|
  lt ((si h x0 0 (0 : Int32))) <| fun h1 =>
  bd (f_X12_in h1 x1.toInt64 (1 : Int64) (2 : Int64)) <| fun r3 h4 =>
  if r3 = 0 then
    some ((-1 : Int32), h4)
  else
    bd (f_X12_in h4 x2.toInt64 (0 : Int64) (2 : Int64)) <| fun r6 h7 =>
    if r6 = 0 then
      some ((-1 : Int32), h7)
    else
      bd (f_X12_taken h7 x0) <| fun r9 h10 =>
      f_X12_deny_50 FU h10 x0 x1 x2 r9 (-1 : Int32) (-4 : Int32) (-4 : Int32) (1 : Int32)
def f_X12_guard_79 (k19 : Hp → Nat → Int32 → Int32 → Int32 → Int32 → Option (Int32 × Hp)) (h : Hp) (x0 : Nat) (x1 : Int32) (x3 : Int32) (x4 : Int32) (x5 : Int32) (t0 : Int32) : Option (Int32 × Hp) :=
  if x3 ≤ x5 then
    k19 h x0 x1 t0 x3 (x4 + (1 : Int32))
  else
    k19 h x0 x1 t0 x5 (x4 + (1 : Int32))
def f_X12_guard_19 : Nat → Hp → Nat → Int32 → Int32 → Int32 → Int32 → Option (Int32 × Hp)
  | 0 => fun _ _ _ _ _ _ => none
  | fu + 1 => fun h x0 x1 x2 x3 x4 =>
    gd (kd (h.2 x0 1) = 16) <|
    gd (inr (0 : Int32) (ln (h.2 x0 1)) = true) <|
    if (h.1 (h.2 x0 1) (0 : Int32).toNatClampNeg) < x4 then
      lt ((si h x0 12 (0 : Int32))) <| fun h3 =>
      some (x2, h3)
    else
      bd (f_X12_has h x1 (x4 - (1 : Int32))) <| fun r5 h6 =>
      if r5 = 0 then
        lt ((si h6 x0 12 x4)) <| fun h8 =>
        bd (f_X12_silent h8 x0) <| fun r10 h11 =>
        gd (kd (h11.2 x0 1) = 16) <|
        gd (inr (2 : Int32) (ln (h11.2 x0 1)) = true) <|
        bd (f_X12_stuckOf h11 x0 r10 x1 (h11.1 (h11.2 x0 1) (2 : Int32).toNatClampNeg)) <| fun r15 h16 =>
        bd (f_X12_bits h16 r15) <| fun r18 h19 =>
        if x3 ≤ r18 then
          f_X12_guard_79 (f_X12_guard_19 fu) h19 x0 x1 x3 x4 r18 x2
        else
          f_X12_guard_79 (f_X12_guard_19 fu) h19 x0 x1 x3 x4 r18 x4
      else
        f_X12_guard_19 fu h6 x0 x1 x2 x3 (x4 + (1 : Int32))
def f_X12_guard (h : Hp) (x0 : Nat) : Option (Int32 × Hp) :=
  gd (kd x0 = 12) <|
  lt ((si h x0 0 (0 : Int32))) <| fun h1 =>
  bd (f_X12_taken h1 x0) <| fun r3 h4 =>
  f_X12_guard_19 FU h4 x0 r3 (-4 : Int32) (99 : Int32) (1 : Int32)
def f_X12_value_38 : Nat → Hp → Nat → Int32 → Int32 → Int32 → Int32 → Option (Int32 × Hp)
  | 0 => fun _ _ _ _ _ _ => none
  | fu + 1 => fun h x0 x1 x2 x3 x4 =>
    gd (kd (h.2 x0 1) = 16) <|
    gd (inr (1 : Int32) (ln (h.2 x0 1)) = true) <|
    if (h.1 (h.2 x0 1) (1 : Int32).toNatClampNeg) ≤ x4 then
      some (x3, h)
    else
      gd (kd (h.2 x0 1) = 16) <|
      gd (inr (2 : Int32) (ln (h.2 x0 1)) = true) <|
      bd (f_X12_hasBest h x0 x4 x2 (h.1 (h.2 x0 1) (2 : Int32).toNatClampNeg)) <| fun r5 h6 =>
      if r5 = 0 then
        f_X12_value_38 fu h6 x0 x1 x2 (x3 + (0 : Int32)) (x4 + (1 : Int32))
      else
        gd (kd (h6.2 x0 1) = 16) <|
        gd (inr (2 : Int32) (ln (h6.2 x0 1)) = true) <|
        bd (f_X12_hasBest h6 x0 x4 (x2 ||| ((1 : Int32) <<< ((x1 - (1 : Int32)) &&& 31))) (h6.1 (h6.2 x0 1) (2 : Int32).toNatClampNeg)) <| fun r10 h11 =>
        if r10 = 0 then
          f_X12_value_38 fu h11 x0 x1 x2 (x3 + (1 : Int32)) (x4 + (1 : Int32))
        else
          f_X12_value_38 fu h11 x0 x1 x2 (x3 + (0 : Int32)) (x4 + (1 : Int32))
def f_X12_value (h : Hp) (x0 : Nat) (x1 : Int32) : Option (Int32 × Hp) :=
  gd (kd x0 = 12) <|
  lt ((si h x0 0 (0 : Int32))) <| fun h1 =>
  bd (f_X12_noNumber h1 x0 x1) <| fun r3 h4 =>
  if r3 = 0 then
    bd (f_X12_taken h4 x0) <| fun r6 h7 =>
    bd (f_X12_has h7 r6 (x1 - (1 : Int32))) <| fun r9 h10 =>
    if r9 = 0 then
      f_X12_value_38 FU h10 x0 x1 r6 (0 : Int32) (0 : Int32)
    else
      some ((-2 : Int32), h10)
  else
    some ((-1 : Int32), h4)
def f_X12_changed_46 (k12 : Hp → Nat → Int32 → Int32 → Int32 → Option (Int32 × Hp)) (h : Hp) (x0 : Nat) (x2 : Int32) (x3 : Int32) (x4 : Int32) (t0 : Int32) : Option (Int32 × Hp) :=
  if x2 ≤ x4 then
    k12 h x0 t0 x2 (x3 + (1 : Int32))
  else
    k12 h x0 t0 x4 (x3 + (1 : Int32))
def f_X12_changed_12 : Nat → Hp → Nat → Int32 → Int32 → Int32 → Option (Int32 × Hp)
  | 0 => fun _ _ _ _ _ => none
  | fu + 1 => fun h x0 x1 x2 x3 =>
    if (3 : Int32) < x3 then
      some (x1, h)
    else
      bd (f_X12_silent h x0) <| fun r1 h2 =>
      bd (f_X12_taken h2 x0) <| fun r4 h5 =>
      bd (f_X12_stuckOf h5 x0 r1 r4 x3) <| fun r7 h8 =>
      bd (f_X12_bits h8 r7) <| fun r10 h11 =>
      if x2 ≤ r10 then
        f_X12_changed_46 (f_X12_changed_12 fu) h11 x0 x2 x3 r10 x1
      else
        f_X12_changed_46 (f_X12_changed_12 fu) h11 x0 x2 x3 r10 x3
def f_X12_changed (h : Hp) (x0 : Nat) : Option (Int32 × Hp) :=
  gd (kd x0 = 12) <|
  lt ((si h x0 0 (0 : Int32))) <| fun h1 =>
  f_X12_changed_12 FU h1 x0 (0 : Int32) (99 : Int32) (0 : Int32)
def f_X12_waysOf_249 (k75 : Hp → Nat → Int32 → Int32 → Int32 → Int32 → Option (Int32 × Hp)) : Nat → Hp → Nat → Int32 → Int32 → Int32 → Int32 → Int32 → Option (Int32 × Hp)
  | 0 => fun _ _ _ _ _ _ _ => none
  | fu + 1 => fun h x0 x1 x2 x3 x4 x5 =>
    if (601 : Int32) ≤ x5 then
      k75 h x0 x1 x2 x3 (x4 + (1 : Int32))
    else
      gd (kd (h.2 x0 24) = 16) <|
      gd (kd (h.2 x0 25) = 16) <|
      gd (inr x5 (ln (h.2 x0 25)) = true) <|
      gd (inr x5 (ln (h.2 x0 24)) = true) <|
      lt ((si h (h.2 x0 24) x5.toNatClampNeg (h.1 (h.2 x0 25) x5.toNatClampNeg))) <| fun h5 =>
      f_X12_waysOf_249 k75 fu h5 x0 x1 x2 x3 x4 (x5 + (1 : Int32))
def f_X12_waysOf_228 (k75 : Hp → Nat → Int32 → Int32 → Int32 → Int32 → Option (Int32 × Hp)) (k100 : Hp → Nat → Int32 → Int32 → Int32 → Int32 → Int32 → Option (Int32 × Hp)) (h : Hp) (x0 : Nat) (x1 : Int32) (x2 : Int32) (x3 : Int32) (x4 : Int32) (x5 : Int32) (t0 : Int32) (t1 : Int32) : Option (Int32 × Hp) :=
  gd (kd (h.2 x0 25) = 16) <|
  gd (inr x5 (ln (h.2 x0 25)) = true) <|
  lt ((si h (h.2 x0 25) x5.toNatClampNeg (t0 + t1))) <| fun h3 =>
  k100 h3 x0 x1 x2 x3 x4 (x5 + (1 : Int32))
def f_X12_waysOf_227 (k75 : Hp → Nat → Int32 → Int32 → Int32 → Int32 → Option (Int32 × Hp)) (k100 : Hp → Nat → Int32 → Int32 → Int32 → Int32 → Int32 → Option (Int32 × Hp)) (h : Hp) (x0 : Nat) (x1 : Int32) (x2 : Int32) (x3 : Int32) (x4 : Int32) (x5 : Int32) (t0 : Int32) : Option (Int32 × Hp) :=
  f_X12_waysOf_228 k75 k100 h x0 x1 x2 x3 x4 x5 t0 (0 : Int32)
def f_X12_waysOf_177 (k75 : Hp → Nat → Int32 → Int32 → Int32 → Int32 → Option (Int32 × Hp)) (k100 : Hp → Nat → Int32 → Int32 → Int32 → Int32 → Int32 → Option (Int32 × Hp)) (h : Hp) (x0 : Nat) (x1 : Int32) (x2 : Int32) (x3 : Int32) (x4 : Int32) (x5 : Int32) (t0 : Int32) (t1 : Int32) : Option (Int32 × Hp) :=
  if x3 = (3 : Int32) then
    if (x4 - x4 / (2 : Int32) * (2 : Int32)) = 0 then
      bd (f_X12_in h (x5 - (x4 / (2 : Int32))).toInt64 (0 : Int64) (600 : Int64)) <| fun r1 h2 =>
      if r1 = 0 then
        f_X12_waysOf_227 k75 k100 h2 x0 x1 x2 x3 x4 x5 (t0 + t1)
      else
        gd (kd (h2.2 x0 24) = 16) <|
        gd (inr (x5 - (x4 / (2 : Int32))) (ln (h2.2 x0 24)) = true) <|
        f_X12_waysOf_228 k75 k100 h2 x0 x1 x2 x3 x4 x5 (t0 + t1) (h2.1 (h2.2 x0 24) (x5 - (x4 / (2 : Int32))).toNatClampNeg)
    else
      f_X12_waysOf_227 k75 k100 h x0 x1 x2 x3 x4 x5 (t0 + t1)
  else
    f_X12_waysOf_227 k75 k100 h x0 x1 x2 x3 x4 x5 (t0 + t1)
def f_X12_waysOf_176 (k75 : Hp → Nat → Int32 → Int32 → Int32 → Int32 → Option (Int32 × Hp)) (k100 : Hp → Nat → Int32 → Int32 → Int32 → Int32 → Int32 → Option (Int32 × Hp)) (h : Hp) (x0 : Nat) (x1 : Int32) (x2 : Int32) (x3 : Int32) (x4 : Int32) (x5 : Int32) (t0 : Int32) : Option (Int32 × Hp) :=
  f_X12_waysOf_177 k75 k100 h x0 x1 x2 x3 x4 x5 t0 (0 : Int32)
def f_X12_waysOf_138 (k75 : Hp → Nat → Int32 → Int32 → Int32 → Int32 → Option (Int32 × Hp)) (k100 : Hp → Nat → Int32 → Int32 → Int32 → Int32 → Int32 → Option (Int32 × Hp)) (h : Hp) (x0 : Nat) (x1 : Int32) (x2 : Int32) (x3 : Int32) (x4 : Int32) (x5 : Int32) (t0 : Int32) : Option (Int32 × Hp) :=
  if x3 < (2 : Int32) then
    f_X12_waysOf_176 k75 k100 h x0 x1 x2 x3 x4 x5 t0
  else
    bd (f_X12_in h (x5 + x4).toInt64 (0 : Int64) (600 : Int64)) <| fun r1 h2 =>
    if r1 = 0 then
      f_X12_waysOf_176 k75 k100 h2 x0 x1 x2 x3 x4 x5 t0
    else
      gd (kd (h2.2 x0 24) = 16) <|
      gd (inr (x5 + x4) (ln (h2.2 x0 24)) = true) <|
      f_X12_waysOf_177 k75 k100 h2 x0 x1 x2 x3 x4 x5 t0 (h2.1 (h2.2 x0 24) (x5 + x4).toNatClampNeg)
def f_X12_waysOf_100 (k75 : Hp → Nat → Int32 → Int32 → Int32 → Int32 → Option (Int32 × Hp)) : Nat → Hp → Nat → Int32 → Int32 → Int32 → Int32 → Int32 → Option (Int32 × Hp)
  | 0 => fun _ _ _ _ _ _ _ => none
  | fu + 1 => fun h x0 x1 x2 x3 x4 x5 =>
    if (601 : Int32) ≤ x5 then
      f_X12_waysOf_249 k75 FU h x0 x1 x2 x3 x4 (0 : Int32)
    else
      bd (f_X12_in h (x5 - x4).toInt64 (0 : Int64) (600 : Int64)) <| fun r1 h2 =>
      if r1 = 0 then
        f_X12_waysOf_138 k75 (f_X12_waysOf_100 k75 fu) h2 x0 x1 x2 x3 x4 x5 (0 : Int32)
      else
        gd (kd (h2.2 x0 24) = 16) <|
        gd (inr (x5 - x4) (ln (h2.2 x0 24)) = true) <|
        f_X12_waysOf_138 k75 (f_X12_waysOf_100 k75 fu) h2 x0 x1 x2 x3 x4 x5 (h2.1 (h2.2 x0 24) (x5 - x4).toNatClampNeg)
def f_X12_waysOf_75 : Nat → Hp → Nat → Int32 → Int32 → Int32 → Int32 → Option (Int32 × Hp)
  | 0 => fun _ _ _ _ _ _ => none
  | fu + 1 => fun h x0 x1 x2 x3 x4 =>
    gd (kd (h.2 x0 1) = 16) <|
    gd (inr (0 : Int32) (ln (h.2 x0 1)) = true) <|
    if (h.1 (h.2 x0 1) (0 : Int32).toNatClampNeg) < x4 then
      gd (kd (h.2 x0 24) = 16) <|
      gd (inr ((300 : Int32) + x2) (ln (h.2 x0 24)) = true) <|
      some ((h.1 (h.2 x0 24) ((300 : Int32) + x2).toNatClampNeg), h)
    else
      bd (f_X12_has h x1 (x4 - (1 : Int32))) <| fun r5 h6 =>
      if r5 = 0 then
        f_X12_waysOf_75 fu h6 x0 x1 x2 x3 (x4 + (1 : Int32))
      else
        f_X12_waysOf_100 (f_X12_waysOf_75 fu) FU h6 x0 x1 x2 x3 x4 (0 : Int32)
def f_X12_waysOf_65 (k38 : Hp → Nat → Int32 → Int32 → Int32 → Int32 → Option (Int32 × Hp)) (h : Hp) (x0 : Nat) (x1 : Int32) (x2 : Int32) (x3 : Int32) (x4 : Int32) (t0 : Nat) (t1 : Int32) (t2 : Int32) : Option (Int32 × Hp) :=
  gd (inr t1 (ln t0) = true) <|
  lt ((si h t0 t1.toNatClampNeg t2)) <| fun h2 =>
  k38 h2 x0 x1 x2 x3 (x4 + (1 : Int32))
def f_X12_waysOf_38 : Nat → Hp → Nat → Int32 → Int32 → Int32 → Int32 → Option (Int32 × Hp)
  | 0 => fun _ _ _ _ _ _ => none
  | fu + 1 => fun h x0 x1 x2 x3 x4 =>
    if (601 : Int32) ≤ x4 then
      f_X12_waysOf_75 FU h x0 x1 x2 x3 (1 : Int32)
    else
      gd (kd (h.2 x0 24) = 16) <|
      if x4 = (300 : Int32) then
        f_X12_waysOf_65 (f_X12_waysOf_38 fu) h x0 x1 x2 x3 x4 (h.2 x0 24) x4 (1 : Int32)
      else
        f_X12_waysOf_65 (f_X12_waysOf_38 fu) h x0 x1 x2 x3 x4 (h.2 x0 24) x4 (0 : Int32)
def f_X12_waysOf (h : Hp) (x0 : Nat) (x1 : Int32) (x2 : Int32) (x3 : Int32) : Option (Int32 × Hp) :=
  gd (kd x0 = 12) <|
  if x3 = 0 then
    gd (kd (h.2 x0 1) = 16) <|
    gd (inr (0 : Int32) (ln (h.2 x0 1)) = true) <|
    bd (f_X12_in h x2.toInt64 (1 : Int64) (h.1 (h.2 x0 1) (0 : Int32).toNatClampNeg).toInt64) <| fun r3 h4 =>
    if r3 = 0 then
      some ((0 : Int32), h4)
    else
      if x1 = ((1 : Int32) <<< ((x2 - (1 : Int32)) &&& 31)) then
        some ((1 : Int32), h4)
      else
        some ((0 : Int32), h4)
  else
    f_X12_waysOf_38 FU h x0 x1 x2 x3 (0 : Int32)
def f_X12_ways (h : Hp) (x0 : Nat) (x1 : Int32) (x2 : Int32) (x3 : Int32) : Option (Int32 × Hp) :=
  gd (kd x0 = 12) <|
  lt ((si h x0 0 (0 : Int32))) <| fun h1 =>
  bd (f_X12_noSet h1 x0 x1) <| fun r3 h4 =>
  if r3 = 0 then
    if x1 = 0 then
      some ((-1 : Int32), h4)
    else
      bd (f_X12_in h4 x2.toInt64 (0 : Int64) (99 : Int64)) <| fun r6 h7 =>
      if r6 = 0 then
        some ((-1 : Int32), h7)
      else
        bd (f_X12_in h7 x3.toInt64 (0 : Int64) (3 : Int64)) <| fun r9 h10 =>
        if r9 = 0 then
          some ((-1 : Int32), h10)
        else
          bd (f_X12_waysOf h10 x0 x1 x2 x3) <| fun r12 h13 =>
          some (r12, h13)
  else
    some ((-1 : Int32), h4)
def f_X12_lowest_17 : Nat → Hp → Nat → Int32 → Int32 → Option (Int32 × Hp)
  | 0 => fun _ _ _ _ => none
  | fu + 1 => fun h x0 x1 x2 =>
    if (100 : Int32) ≤ x2 then
      some ((-4 : Int32), h)
    else
      bd (f_X12_mayOf h x0 x1) <| fun r1 h2 =>
      gd (kd (h2.2 x0 1) = 16) <|
      gd (inr (2 : Int32) (ln (h2.2 x0 1)) = true) <|
      bd (f_X12_bestOf h2 x0 r1 x2 (h2.1 (h2.2 x0 1) (2 : Int32).toNatClampNeg)) <| fun r6 h7 =>
      if r6 = (-4 : Int32) then
        some (x2, h7)
      else
        f_X12_lowest_17 fu h7 x0 x1 (x2 + (1 : Int32))
def f_X12_lowest (h : Hp) (x0 : Nat) (x1 : Int32) : Option (Int32 × Hp) :=
  gd (kd x0 = 12) <|
  lt ((si h x0 0 (0 : Int32))) <| fun h1 =>
  bd (f_X12_noOne h1 x0 x1) <| fun r3 h4 =>
  if r3 = 0 then
    f_X12_lowest_17 FU h4 x0 x1 (1 : Int32)
  else
    some ((-1 : Int32), h4)
def f_X12_enter (h : Hp) (x0 : Nat) (x1 : Int32) : Option (Int32 × Hp) :=
  gd (kd x0 = 12) <|
  lt ((si h x0 0 (0 : Int32))) <| fun h1 =>
  bd (f_X12_noSet h1 x0 x1) <| fun r3 h4 =>
  if r3 = 0 then
    if x1 = 0 then
      some ((-1 : Int32), h4)
    else
      if (h4.1 x0 27) = (6 : Int32) then
        some ((-3 : Int32), h4)
      else
        gd (kd (h4.2 x0 26) = 16) <|
        gd (inr (h4.1 x0 27) (ln (h4.2 x0 26)) = true) <|
        lt ((si h4 (h4.2 x0 26) (h4.1 x0 27).toNatClampNeg x1)) <| fun h8 =>
        lt ((si h8 x0 27 ((h8.1 x0 27) + (1 : Int32)))) <| fun h10 =>
        some ((h10.1 x0 27), h10)
  else
    some ((-1 : Int32), h4)
def f_X12_close (h : Hp) (x0 : Nat) : Option (Int32 × Hp) :=
  gd (kd x0 = 12) <|
  lt ((si h x0 0 (0 : Int32))) <| fun h1 =>
  lt ((si h1 x0 27 (0 : Int32))) <| fun h3 =>
  some ((h1.1 x0 27), h3)
def f_X12_readingsBy_160 : Nat → Hp → Nat → Int32 → Int32 → Option (Int32 × Hp)
  | 0 => fun _ _ _ _ => none
  | fu + 1 => fun h x0 x3 x4 =>
    if (64 : Int32) ≤ x4 then
      some (x3, h)
    else
      gd (kd (h.2 x0 29) = 16) <|
      gd (inr x4 (ln (h.2 x0 29)) = true) <|
      f_X12_readingsBy_160 fu h x0 (x3 + (h.1 (h.2 x0 29) x4.toNatClampNeg)) (x4 + (1 : Int32))
def f_X12_readingsBy_78 (k31 : Hp → Nat → Int32 → Int32 → Int32 → Option (Int32 × Hp)) (k67 : Hp → Nat → Int32 → Int32 → Int32 → Int32 → Int32 → Option (Int32 × Hp)) : Nat → Hp → Nat → Int32 → Int32 → Int32 → Int32 → Int32 → Int32 → Int32 → Option (Int32 × Hp)
  | 0 => fun _ _ _ _ _ _ _ _ _ => none
  | fu + 1 => fun h x0 x1 x2 x3 x4 x5 x6 x7 =>
    if (6 : Int32) ≤ x7 then
      gd (kd (h.2 x0 29) = 16) <|
      gd (inr x5 (ln (h.2 x0 29)) = true) <|
      lt ((si h (h.2 x0 29) x5.toNatClampNeg x6)) <| fun h3 =>
      k67 h3 x0 x1 x2 x3 x4 (x5 + (-1 : Int32))
    else
      bd (f_X12_has h x5 x7) <| fun r5 h6 =>
      if r5 = 0 then
        f_X12_readingsBy_78 k31 k67 fu h6 x0 x1 x2 x3 x4 x5 (x6 + (0 : Int32)) (x7 + (1 : Int32))
      else
        bd (f_X12_has h6 x4 x7) <| fun r8 h9 =>
        if r8 = 0 then
          f_X12_readingsBy_78 k31 k67 fu h9 x0 x1 x2 x3 x4 x5 (x6 + (0 : Int32)) (x7 + (1 : Int32))
        else
          gd (kd (h9.2 x0 29) = 16) <|
          gd (inr (x5 &&& (((1 : Int32) <<< (x7 &&& 31)) ^^^ (-1 : Int32))) (ln (h9.2 x0 29)) = true) <|
          f_X12_readingsBy_78 k31 k67 fu h9 x0 x1 x2 x3 x4 x5 (x6 + (h9.1 (h9.2 x0 29) (x5 &&& (((1 : Int32) <<< (x7 &&& 31)) ^^^ (-1 : Int32))).toNatClampNeg)) (x7 + (1 : Int32))
def f_X12_readingsBy_67 (k31 : Hp → Nat → Int32 → Int32 → Int32 → Option (Int32 × Hp)) : Nat → Hp → Nat → Int32 → Int32 → Int32 → Int32 → Int32 → Option (Int32 × Hp)
  | 0 => fun _ _ _ _ _ _ _ => none
  | fu + 1 => fun h x0 x1 x2 x3 x4 x5 =>
    if x5 < 0 then
      k31 h x0 x1 x2 (x3 + (1 : Int32))
    else
      f_X12_readingsBy_78 k31 (f_X12_readingsBy_67 k31 fu) FU h x0 x1 x2 x3 x4 x5 (0 : Int32) (0 : Int32)
def f_X12_readingsBy_31 : Nat → Hp → Nat → Int32 → Int32 → Int32 → Option (Int32 × Hp)
  | 0 => fun _ _ _ _ _ => none
  | fu + 1 => fun h x0 x1 x2 x3 =>
    if (h.1 x0 27) ≤ x3 then
      f_X12_readingsBy_160 FU h x0 (0 : Int32) (0 : Int32)
    else
      if x3 = x1 then
        gd (kd (h.2 x0 28) = 16) <|
        gd (inr x3 (ln (h.2 x0 28)) = true) <|
        f_X12_readingsBy_67 (f_X12_readingsBy_31 fu) FU h x0 x1 x2 x3 ((h.1 (h.2 x0 28) x3.toNatClampNeg) &&& x2) (63 : Int32)
      else
        gd (kd (h.2 x0 28) = 16) <|
        gd (inr x3 (ln (h.2 x0 28)) = true) <|
        f_X12_readingsBy_67 (f_X12_readingsBy_31 fu) FU h x0 x1 x2 x3 (h.1 (h.2 x0 28) x3.toNatClampNeg) (63 : Int32)
def f_X12_readingsBy_22 (k2 : Hp → Nat → Int32 → Int32 → Int32 → Option (Int32 × Hp)) (h : Hp) (x0 : Nat) (x1 : Int32) (x2 : Int32) (x3 : Int32) (t0 : Nat) (t1 : Int32) (t2 : Int32) : Option (Int32 × Hp) :=
  gd (inr t1 (ln t0) = true) <|
  lt ((si h t0 t1.toNatClampNeg t2)) <| fun h2 =>
  k2 h2 x0 x1 x2 (x3 + (1 : Int32))
def f_X12_readingsBy_2 : Nat → Hp → Nat → Int32 → Int32 → Int32 → Option (Int32 × Hp)
  | 0 => fun _ _ _ _ _ => none
  | fu + 1 => fun h x0 x1 x2 x3 =>
    if (64 : Int32) ≤ x3 then
      f_X12_readingsBy_31 FU h x0 x1 x2 (0 : Int32)
    else
      gd (kd (h.2 x0 29) = 16) <|
      if x3 = 0 then
        f_X12_readingsBy_22 (f_X12_readingsBy_2 fu) h x0 x1 x2 x3 (h.2 x0 29) x3 (1 : Int32)
      else
        f_X12_readingsBy_22 (f_X12_readingsBy_2 fu) h x0 x1 x2 x3 (h.2 x0 29) x3 (0 : Int32)
def f_X12_readingsBy (h : Hp) (x0 : Nat) (x1 : Int32) (x2 : Int32) : Option (Int32 × Hp) :=
  gd (kd x0 = 12) <|
  f_X12_readingsBy_2 FU h x0 x1 x2 (0 : Int32)
def f_X12_book_126 : Nat → Hp → Nat → Int32 → Int32 → Int32 → Option (Int32 × Hp)
  | 0 => fun _ _ _ _ _ => none
  | fu + 1 => fun h x0 x1 x2 x3 =>
    gd (kd (h.2 x0 1) = 16) <|
    gd (inr (1 : Int32) (ln (h.2 x0 1)) = true) <|
    if (h.1 (h.2 x0 1) (1 : Int32).toNatClampNeg) ≤ x3 then
      some ((-4 : Int32), h)
    else
      if x2 ≤ 0 then
        some ((-4 : Int32), h)
      else
        bd (f_X12_readingsBy h x0 x1 ((1 : Int32) <<< (x3 &&& 31))) <| fun r3 h4 =>
        if r3 = x2 then
          some (x3, h4)
        else
          f_X12_book_126 fu h4 x0 x1 x2 (x3 + (1 : Int32))
def f_X12_book_96 (k27 : Hp → Nat → Int32 → Int32 → Option (Int32 × Hp)) (k44 : Hp → Nat → Int32 → Int32 → Int32 → Option (Int32 × Hp)) (h : Hp) (x0 : Nat) (x1 : Int32) (x2 : Int32) (x3 : Int32) (t0 : Nat) (t1 : Int32) (t2 : Int32) (t3 : Int32) : Option (Int32 × Hp) :=
  gd (inr t1 (ln t0) = true) <|
  lt ((si h t0 t1.toNatClampNeg (t2 ||| t3))) <| fun h2 =>
  k44 h2 x0 x1 x2 (x3 + (1 : Int32))
def f_X12_book_44 (k27 : Hp → Nat → Int32 → Int32 → Option (Int32 × Hp)) : Nat → Hp → Nat → Int32 → Int32 → Int32 → Option (Int32 × Hp)
  | 0 => fun _ _ _ _ _ => none
  | fu + 1 => fun h x0 x1 x2 x3 =>
    gd (kd (h.2 x0 1) = 16) <|
    gd (inr (1 : Int32) (ln (h.2 x0 1)) = true) <|
    if (h.1 (h.2 x0 1) (1 : Int32).toNatClampNeg) ≤ x3 then
      k27 h x0 x1 (x2 + (1 : Int32))
    else
      gd (kd (h.2 x0 28) = 16) <|
      gd (inr x2 (ln (h.2 x0 28)) = true) <|
      gd (kd (h.2 x0 26) = 16) <|
      gd (inr x2 (ln (h.2 x0 26)) = true) <|
      gd (kd (h.2 x0 1) = 16) <|
      gd (inr ((53 : Int32) + x3) (ln (h.2 x0 1)) = true) <|
      gd (kd (h.2 x0 1) = 16) <|
      gd (inr (2 : Int32) (ln (h.2 x0 1)) = true) <|
      bd (f_X12_waysOf h x0 (h.1 (h.2 x0 26) x2.toNatClampNeg) (h.1 (h.2 x0 1) ((53 : Int32) + x3).toNatClampNeg) (h.1 (h.2 x0 1) (2 : Int32).toNatClampNeg)) <| fun r11 h12 =>
      if r11 ≤ 0 then
        f_X12_book_96 k27 (f_X12_book_44 k27 fu) h12 x0 x1 x2 x3 (h.2 x0 28) x2 (h.1 (h.2 x0 28) x2.toNatClampNeg) (0 : Int32)
      else
        f_X12_book_96 k27 (f_X12_book_44 k27 fu) h12 x0 x1 x2 x3 (h.2 x0 28) x2 (h.1 (h.2 x0 28) x2.toNatClampNeg) ((1 : Int32) <<< (x3 &&& 31))
def f_X12_book_27 : Nat → Hp → Nat → Int32 → Int32 → Option (Int32 × Hp)
  | 0 => fun _ _ _ _ => none
  | fu + 1 => fun h x0 x1 x2 =>
    if (h.1 x0 27) ≤ x2 then
      bd (f_X12_readingsBy h x0 (-4 : Int32) (0 : Int32)) <| fun r1 h2 =>
      if 0 ≤ x1 then
        f_X12_book_126 FU h2 x0 x1 r1 (0 : Int32)
      else
        some (r1, h2)
    else
      gd (kd (h.2 x0 28) = 16) <|
      gd (inr x2 (ln (h.2 x0 28)) = true) <|
      lt ((si h (h.2 x0 28) x2.toNatClampNeg (0 : Int32))) <| fun h6 =>
      f_X12_book_44 (f_X12_book_27 fu) FU h6 x0 x1 x2 (0 : Int32)
def f_X12_book (h : Hp) (x0 : Nat) (x1 : Int32) : Option (Int32 × Hp) :=
  gd (kd x0 = 12) <|
  lt ((si h x0 0 (0 : Int32))) <| fun h1 =>
  bd (f_X12_in h1 x1.toInt64 (-1 : Int64) ((h1.1 x0 27) - (1 : Int32)).toInt64) <| fun r3 h4 =>
  if r3 = 0 then
    some ((-1 : Int32), h4)
  else
    f_X12_book_27 FU h4 x0 x1 (0 : Int32)
def f_X12_twice_21 (k7 : Hp → Nat → Int32 → Option (Int32 × Hp)) : Nat → Hp → Nat → Int32 → Int32 → Int32 → Option (Int32 × Hp)
  | 0 => fun _ _ _ _ _ => none
  | fu + 1 => fun h x0 x1 x2 x3 =>
    if (h.1 x0 27) ≤ x3 then
      if x2 ≤ (1 : Int32) then
        k7 h x0 (x1 + (1 : Int32))
      else
        some (x1, h)
    else
      gd (kd (h.2 x0 26) = 16) <|
      gd (inr x3 (ln (h.2 x0 26)) = true) <|
      f_X12_twice_21 k7 fu h x0 x1 (x2 + (((h.1 (h.2 x0 26) x3.toNatClampNeg) >>> ((x1 - (1 : Int32)) &&& 31)) &&& (1 : Int32))) (x3 + (1 : Int32))
def f_X12_twice_7 : Nat → Hp → Nat → Int32 → Option (Int32 × Hp)
  | 0 => fun _ _ _ => none
  | fu + 1 => fun h x0 x1 =>
    gd (kd (h.2 x0 1) = 16) <|
    gd (inr (0 : Int32) (ln (h.2 x0 1)) = true) <|
    if (h.1 (h.2 x0 1) (0 : Int32).toNatClampNeg) < x1 then
      some ((-4 : Int32), h)
    else
      f_X12_twice_21 (f_X12_twice_7 fu) FU h x0 x1 (0 : Int32) (0 : Int32)
def f_X12_twice (h : Hp) (x0 : Nat) : Option (Int32 × Hp) :=
  gd (kd x0 = 12) <|
  lt ((si h x0 0 (0 : Int32))) <| fun h1 =>
  f_X12_twice_7 FU h1 x0 (1 : Int32)
def f_X12_corner_126 (k50 : Hp → Nat → Int32 → Int32 → Int32 → Int32 → Int32 → Option (Int32 × Hp)) (h : Hp) (x0 : Nat) (x1 : Int32) (x2 : Int32) (x4 : Int32) (x5 : Int32) (x6 : Int32) (t0 : Int32) : Option (Int32 × Hp) :=
  if x6 ≤ x4 then
    k50 h x0 x1 x2 t0 x4 (x5 + (1 : Int32))
  else
    k50 h x0 x1 x2 t0 x6 (x5 + (1 : Int32))
def f_X12_corner_50 : Nat → Hp → Nat → Int32 → Int32 → Int32 → Int32 → Int32 → Option (Int32 × Hp)
  | 0 => fun _ _ _ _ _ _ _ => none
  | fu + 1 => fun h x0 x1 x2 x3 x4 x5 =>
    if (100 : Int32) ≤ x5 then
      if x3 = (-4 : Int32) then
        some (x3, h)
      else
        if x2 = 0 then
          some (x3, h)
        else
          some (x4, h)
    else
      bd (f_X12_mayOf h x0 x1) <| fun r1 h2 =>
      gd (kd (h2.2 x0 1) = 16) <|
      gd (inr (2 : Int32) (ln (h2.2 x0 1)) = true) <|
      bd (f_X12_bestOf h2 x0 r1 x5 (h2.1 (h2.2 x0 1) (2 : Int32).toNatClampNeg)) <| fun r6 h7 =>
      if r6 = (-4 : Int32) then
        f_X12_corner_50 fu h7 x0 x1 x2 x3 x4 (x5 + (1 : Int32))
      else
        bd (f_X12_silent h7 x0) <| fun r9 h10 =>
        bd (f_X12_taken h10 x0) <| fun r12 h13 =>
        bd (f_X12_usedSet h13 x0) <| fun r15 h16 =>
        gd (kd (h16.2 x0 1) = 16) <|
        gd (inr (2 : Int32) (ln (h16.2 x0 1)) = true) <|
        bd (f_X12_stuckOf h16 x0 (r9 &&& (((1 : Int32) <<< (x1 &&& 31)) ^^^ (-1 : Int32))) (r12 ||| r15) (h16.1 (h16.2 x0 1) (2 : Int32).toNatClampNeg)) <| fun r20 h21 =>
        bd (f_X12_bits h21 r20) <| fun r23 h24 =>
        if r23 ≤ x4 then
          f_X12_corner_126 (f_X12_corner_50 fu) h24 x0 x1 x2 x4 x5 r23 x3
        else
          f_X12_corner_126 (f_X12_corner_50 fu) h24 x0 x1 x2 x4 x5 r23 x5
def f_X12_corner (h : Hp) (x0 : Nat) (x1 : Int32) (x2 : Int32) : Option (Int32 × Hp) :=
  gd (kd x0 = 12) <|
  lt ((si h x0 0 (0 : Int32))) <| fun h1 =>
  bd (f_X12_noOne h1 x0 x1) <| fun r3 h4 =>
  if r3 = 0 then
    bd (f_X12_in h4 x2.toInt64 (0 : Int64) (1 : Int64)) <| fun r6 h7 =>
    if r6 = 0 then
      some ((-1 : Int32), h7)
    else
      gd (kd (h7.2 x0 3) = 16) <|
      gd (inr (2 : Int32) (ln (h7.2 x0 3)) = true) <|
      bd (f_X12_has h7 (h7.1 (h7.2 x0 3) (2 : Int32).toNatClampNeg) x1) <| fun r11 h12 =>
      if r11 = 0 then
        f_X12_corner_50 FU h12 x0 x1 x2 (-4 : Int32) (-1 : Int32) (1 : Int32)
      else
        some ((-2 : Int32), h12)
  else
    some ((-1 : Int32), h4)
def f_X12_year_234 (k50 : Hp → Nat → Int32 → Int32 → Int32 → Int32 → Int32 → Int32 → Option (Int32 × Hp)) (k65 : Hp → Nat → Int32 → Int32 → Int32 → Int32 → Int32 → Int32 → Int32 → Int32 → Int32 → Option (Int32 × Hp)) (h : Hp) (x0 : Nat) (x1 : Int32) (x2 : Int32) (x3 : Int32) (x4 : Int32) (x5 : Int32) (x6 : Int32) (x8 : Int32) (x9 : Int32) (x14 : Int32) (t0 : Int32) (t1 : Int32) : Option (Int32 × Hp) :=
  if x14 = 0 then
    k65 h x0 x1 x2 x3 x4 x5 x6 (t0 ||| t1) (x8 + (0 : Int32)) (x9 + (1 : Int32))
  else
    k65 h x0 x1 x2 x3 x4 x5 x6 (t0 ||| t1) (x8 + (1 : Int32)) (x9 + (1 : Int32))
def f_X12_year_217 (k50 : Hp → Nat → Int32 → Int32 → Int32 → Int32 → Int32 → Int32 → Option (Int32 × Hp)) (k65 : Hp → Nat → Int32 → Int32 → Int32 → Int32 → Int32 → Int32 → Int32 → Int32 → Int32 → Option (Int32 × Hp)) (h : Hp) (x0 : Nat) (x1 : Int32) (x2 : Int32) (x3 : Int32) (x4 : Int32) (x5 : Int32) (x6 : Int32) (x7 : Int32) (x8 : Int32) (x9 : Int32) (t0 : Int32) : Option (Int32 × Hp) :=
  if t0 = 0 then
    f_X12_year_234 k50 k65 h x0 x1 x2 x3 x4 x5 x6 x8 x9 t0 x7 (0 : Int32)
  else
    bd (f_X12_usedSet h x0) <| fun r1 h2 =>
    f_X12_year_234 k50 k65 h2 x0 x1 x2 x3 x4 x5 x6 x8 x9 t0 x7 r1
def f_X12_year_169 (k50 : Hp → Nat → Int32 → Int32 → Int32 → Int32 → Int32 → Int32 → Option (Int32 × Hp)) (k65 : Hp → Nat → Int32 → Int32 → Int32 → Int32 → Int32 → Int32 → Int32 → Int32 → Int32 → Option (Int32 × Hp)) (k126 : Hp → Nat → Int32 → Int32 → Int32 → Int32 → Int32 → Int32 → Int32 → Int32 → Int32 → Int32 → Int32 → Int32 → Option (Int32 × Hp)) (h : Hp) (x0 : Nat) (x1 : Int32) (x2 : Int32) (x3 : Int32) (x4 : Int32) (x5 : Int32) (x6 : Int32) (x7 : Int32) (x8 : Int32) (x9 : Int32) (x12 : Int32) (x14 : Int32) (t0 : Int32) : Option (Int32 × Hp) :=
  k126 h x0 x1 x2 x3 x4 x5 x6 x7 x8 x9 x12 (t0 ||| ((1 : Int32) <<< ((x14 - (1 : Int32)) &&& 31))) (x14 + (1 : Int32))
def f_X12_year_126 (k50 : Hp → Nat → Int32 → Int32 → Int32 → Int32 → Int32 → Int32 → Option (Int32 × Hp)) (k65 : Hp → Nat → Int32 → Int32 → Int32 → Int32 → Int32 → Int32 → Int32 → Int32 → Int32 → Option (Int32 × Hp)) : Nat → Hp → Nat → Int32 → Int32 → Int32 → Int32 → Int32 → Int32 → Int32 → Int32 → Int32 → Int32 → Int32 → Int32 → Option (Int32 × Hp)
  | 0 => fun _ _ _ _ _ _ _ _ _ _ _ _ _ _ => none
  | fu + 1 => fun h x0 x1 x2 x3 x4 x5 x6 x7 x8 x9 x12 x13 x14 =>
    gd (kd (h.2 x0 1) = 16) <|
    gd (inr (0 : Int32) (ln (h.2 x0 1)) = true) <|
    if (h.1 (h.2 x0 1) (0 : Int32).toNatClampNeg) < x14 then
      gd (kd (h.2 x0 1) = 16) <|
      gd (inr (2 : Int32) (ln (h.2 x0 1)) = true) <|
      bd (f_X12_bestOf h x0 (x13 &&& (x7 ^^^ (-1 : Int32))) x12 (h.1 (h.2 x0 1) (2 : Int32).toNatClampNeg)) <| fun r5 h6 =>
      if r5 = (-4 : Int32) then
        f_X12_year_217 k50 k65 h6 x0 x1 x2 x3 x4 x5 x6 x7 x8 x9 (0 : Int32)
      else
        f_X12_year_217 k50 k65 h6 x0 x1 x2 x3 x4 x5 x6 x7 x8 x9 (1 : Int32)
    else
      gd (kd (h.2 x0 1) = 16) <|
      gd (inr ((28 : Int32) + x14) (ln (h.2 x0 1)) = true) <|
      if (h.1 (h.2 x0 1) ((28 : Int32) + x14).toNatClampNeg) = (-4 : Int32) then
        f_X12_year_169 k50 k65 (f_X12_year_126 k50 k65 fu) h x0 x1 x2 x3 x4 x5 x6 x7 x8 x9 x12 x14 x13
      else
        gd (kd (h.2 x0 1) = 16) <|
        gd (inr ((28 : Int32) + x14) (ln (h.2 x0 1)) = true) <|
        if (h.1 (h.2 x0 1) ((28 : Int32) + x14).toNatClampNeg) = x9 then
          f_X12_year_169 k50 k65 (f_X12_year_126 k50 k65 fu) h x0 x1 x2 x3 x4 x5 x6 x7 x8 x9 x12 x14 x13
        else
          f_X12_year_126 k50 k65 fu h x0 x1 x2 x3 x4 x5 x6 x7 x8 x9 x12 (x13 ||| (0 : Int32)) (x14 + (1 : Int32))
def f_X12_year_65 (k50 : Hp → Nat → Int32 → Int32 → Int32 → Int32 → Int32 → Int32 → Option (Int32 × Hp)) : Nat → Hp → Nat → Int32 → Int32 → Int32 → Int32 → Int32 → Int32 → Int32 → Int32 → Int32 → Option (Int32 × Hp)
  | 0 => fun _ _ _ _ _ _ _ _ _ _ _ => none
  | fu + 1 => fun h x0 x1 x2 x3 x4 x5 x6 x7 x8 x9 =>
    gd (kd (h.2 x0 1) = 16) <|
    gd (inr (1 : Int32) (ln (h.2 x0 1)) = true) <|
    if (h.1 (h.2 x0 1) (1 : Int32).toNatClampNeg) ≤ x9 then
      gd (kd (h.2 x0 1) = 16) <|
      gd (inr (1 : Int32) (ln (h.2 x0 1)) = true) <|
      gd (kd (h.2 x0 1) = 16) <|
      gd (inr (1 : Int32) (ln (h.2 x0 1)) = true) <|
      if x8 = (h.1 (h.2 x0 1) (1 : Int32).toNatClampNeg) then
        k50 h x0 x1 x2 x3 (x4 + ((h.1 (h.2 x0 1) (1 : Int32).toNatClampNeg) - x8)) (x5 + (1 : Int32)) (x6 + (1 : Int32))
      else
        k50 h x0 x1 x2 x3 (x4 + ((h.1 (h.2 x0 1) (1 : Int32).toNatClampNeg) - x8)) (x5 + (0 : Int32)) (x6 + (1 : Int32))
    else
      f_X12_year_126 k50 (f_X12_year_65 k50 fu) FU h x0 x1 x2 x3 x4 x5 x6 x7 x8 x9 (((((((((7919 : Int64) * x1.toInt64) + ((6151 : Int64) * x6.toInt64)) + ((101 : Int64) * x9.toInt64)) + (1 : Int64)) * (((((7919 : Int64) * x1.toInt64) + ((6151 : Int64) * x6.toInt64)) + ((101 : Int64) * x9.toInt64)) + (1 : Int64))) - ((((((7919 : Int64) * x1.toInt64) + ((6151 : Int64) * x6.toInt64)) + ((101 : Int64) * x9.toInt64)) + (1 : Int64)) * (((((7919 : Int64) * x1.toInt64) + ((6151 : Int64) * x6.toInt64)) + ((101 : Int64) * x9.toInt64)) + (1 : Int64))) / (65521 : Int64) * (65521 : Int64)) - (((((((7919 : Int64) * x1.toInt64) + ((6151 : Int64) * x6.toInt64)) + ((101 : Int64) * x9.toInt64)) + (1 : Int64)) * (((((7919 : Int64) * x1.toInt64) + ((6151 : Int64) * x6.toInt64)) + ((101 : Int64) * x9.toInt64)) + (1 : Int64))) - ((((((7919 : Int64) * x1.toInt64) + ((6151 : Int64) * x6.toInt64)) + ((101 : Int64) * x9.toInt64)) + (1 : Int64)) * (((((7919 : Int64) * x1.toInt64) + ((6151 : Int64) * x6.toInt64)) + ((101 : Int64) * x9.toInt64)) + (1 : Int64))) / (65521 : Int64) * (65521 : Int64)) / (99 : Int64) * (99 : Int64)).toInt32 + (1 : Int32)) (0 : Int32) (1 : Int32)
def f_X12_year_50 : Nat → Hp → Nat → Int32 → Int32 → Int32 → Int32 → Int32 → Int32 → Option (Int32 × Hp)
  | 0 => fun _ _ _ _ _ _ _ _ => none
  | fu + 1 => fun h x0 x1 x2 x3 x4 x5 x6 =>
    if x2 ≤ x6 then
      if x3 = 0 then
        some (x4, h)
      else
        some (x5, h)
    else
      f_X12_year_65 (f_X12_year_50 fu) FU h x0 x1 x2 x3 x4 x5 x6 (0 : Int32) (0 : Int32) (0 : Int32)
def f_X12_year (h : Hp) (x0 : Nat) (x1 : Int32) (x2 : Int32) (x3 : Int32) : Option (Int32 × Hp) :=
  gd (kd x0 = 12) <|
  lt ((si h x0 0 (0 : Int32))) <| fun h1 =>
  bd (f_X12_in h1 x1.toInt64 (0 : Int64) (9999 : Int64)) <| fun r3 h4 =>
  if r3 = 0 then
    some ((-1 : Int32), h4)
  else
    bd (f_X12_in h4 x2.toInt64 (1 : Int64) (30 : Int64)) <| fun r6 h7 =>
    if r6 = 0 then
      some ((-1 : Int32), h7)
    else
      bd (f_X12_in h7 x3.toInt64 (0 : Int64) (1 : Int64)) <| fun r9 h10 =>
      if r9 = 0 then
        some ((-1 : Int32), h10)
      else
        f_X12_year_50 FU h10 x0 x1 x2 x3 (0 : Int32) (0 : Int32) (0 : Int32)
def f_X12_keep_18 : Nat → Hp → Nat → Int32 → Option (Int32 × Hp)
  | 0 => fun _ _ _ => none
  | fu + 1 => fun h x0 x1 =>
    if (51 : Int32) ≤ x1 then
      lt ((si h x0 7 ((h.1 x0 7) + (1 : Int32)))) <| fun h1 =>
      some ((h1.1 x0 7), h1)
    else
      gd (kd (h.2 x0 6) = 16) <|
      gd (kd (h.2 x0 3) = 16) <|
      gd (inr x1 (ln (h.2 x0 3)) = true) <|
      gd (inr (((51 : Int32) * (h.1 x0 7)) + x1) (ln (h.2 x0 6)) = true) <|
      lt ((si h (h.2 x0 6) (((51 : Int32) * (h.1 x0 7)) + x1).toNatClampNeg (h.1 (h.2 x0 3) x1.toNatClampNeg))) <| fun h7 =>
      f_X12_keep_18 fu h7 x0 (x1 + (1 : Int32))
def f_X12_keep (h : Hp) (x0 : Nat) : Option (Int32 × Hp) :=
  gd (kd x0 = 12) <|
  lt ((si h x0 0 (0 : Int32))) <| fun h1 =>
  if (h1.1 x0 7) = (2 : Int32) then
    some ((-3 : Int32), h1)
  else
    f_X12_keep_18 FU h1 x0 (0 : Int32)
def f_X12_back_27 : Nat → Hp → Nat → Int32 → Option (Int32 × Hp)
  | 0 => fun _ _ _ => none
  | fu + 1 => fun h x0 x1 =>
    if (51 : Int32) ≤ x1 then
      lt ((si h x0 5 (0 : Int32))) <| fun h1 =>
      some ((h1.1 x0 7), h1)
    else
      gd (kd (h.2 x0 3) = 16) <|
      gd (kd (h.2 x0 6) = 16) <|
      gd (inr (((51 : Int32) * (h.1 x0 7)) + x1) (ln (h.2 x0 6)) = true) <|
      gd (inr x1 (ln (h.2 x0 3)) = true) <|
      lt ((si h (h.2 x0 3) x1.toNatClampNeg (h.1 (h.2 x0 6) (((51 : Int32) * (h.1 x0 7)) + x1).toNatClampNeg))) <| fun h7 =>
      f_X12_back_27 fu h7 x0 (x1 + (1 : Int32))
def f_X12_back (h : Hp) (x0 : Nat) : Option (Int32 × Hp) :=
  gd (kd x0 = 12) <|
  lt ((si h x0 0 (0 : Int32))) <| fun h1 =>
  if (h1.1 x0 7) = 0 then
    some ((-2 : Int32), h1)
  else
    lt ((si h1 x0 7 ((h1.1 x0 7) - (1 : Int32)))) <| fun h3 =>
    f_X12_back_27 FU h3 x0 (0 : Int32)
def f_X12_count (h : Hp) (x0 : Nat) (x1 : Int32) : Option (Int32 × Hp) :=
  gd (kd x0 = 12) <|
  lt ((si h x0 0 (0 : Int32))) <| fun h1 =>
  if x1 = (0 : Int32) then
    gd (kd (h1.2 x0 1) = 16) <|
    gd (inr (0 : Int32) (ln (h1.2 x0 1)) = true) <|
    some ((h1.1 (h1.2 x0 1) (0 : Int32).toNatClampNeg), h1)
  else if x1 = (1 : Int32) then
    gd (kd (h1.2 x0 1) = 16) <|
    gd (inr (1 : Int32) (ln (h1.2 x0 1)) = true) <|
    some ((h1.1 (h1.2 x0 1) (1 : Int32).toNatClampNeg), h1)
  else if x1 = (2 : Int32) then
    bd (f_X12_taken h1 x0) <| fun r7 h8 =>
    bd (f_X12_bits h8 r7) <| fun r10 h11 =>
    some (r10, h11)
  else if x1 = (3 : Int32) then
    gd (kd (h1.2 x0 3) = 16) <|
    gd (inr (2 : Int32) (ln (h1.2 x0 3)) = true) <|
    bd (f_X12_bits h1 (h1.1 (h1.2 x0 3) (2 : Int32).toNatClampNeg)) <| fun r15 h16 =>
    some (r15, h16)
  else if x1 = (4 : Int32) then
    gd (kd (h1.2 x0 3) = 16) <|
    gd (inr (0 : Int32) (ln (h1.2 x0 3)) = true) <|
    some ((h1.1 (h1.2 x0 3) (0 : Int32).toNatClampNeg), h1)
  else if x1 = (5 : Int32) then
    gd (kd (h1.2 x0 3) = 16) <|
    gd (inr (1 : Int32) (ln (h1.2 x0 3)) = true) <|
    some ((h1.1 (h1.2 x0 3) (1 : Int32).toNatClampNeg), h1)
  else if x1 = (6 : Int32) then
    some ((h1.1 x0 14), h1)
  else if x1 = (7 : Int32) then
    some ((h1.1 x0 27), h1)
  else if x1 = (8 : Int32) then
    some ((h1.1 x0 5), h1)
  else if x1 = (9 : Int32) then
    some ((h1.1 x0 7), h1)
  else if x1 = (10 : Int32) then
    some ((h1.1 x0 9), h1)
  else 
    some ((-1 : Int32), h1)
end
section
def tyAll : Nat → Nat → FieldType := fun ci => match ci with
  | 0 => tX0
  | 1 => tX1
  | 2 => tX2
  | 3 => tX3
  | 4 => tX4
  | 5 => tX5
  | 6 => tX6
  | 7 => tX7
  | 8 => tX8
  | 9 => tX9
  | 10 => tX10
  | 11 => tX11
  | _ => tX12
theorem lo_inst : Cond.instanceMethod Lib.objectInit ∈ TT := mt (i := 78) (by decide +kernel) (by decide +kernel)
theorem lo_code : Cond.code Lib.objectInit ⟨#[0xb1]⟩ 1 none ∈ TT := mt (i := 79) (by decide +kernel) (by decide +kernel)
/-! making cells; constructors -/
theorem cls_df : ∀ ci, ci < 13 → ∀ k, k < nf ci → defaultValue ((tyAll ci) k) = (if fr ci k = true then Value.null else .int 0) := by decide +kernel
theorem cls_ty (ci : Nat) (C : String) (T : u_T) (N : Nat) (h : cls[ci]? = some (C, T, N)) : ∀ k, k < N → parseFieldDescriptor (T k).2.2.1 = some ((tyAll ci) k) := by
  match ci, h with
  | 0, h => cases h; exact tX0_ok
  | 1, h => cases h; exact tX1_ok
  | 2, h => cases h; exact tX2_ok
  | 3, h => cases h; exact tX3_ok
  | 4, h => cases h; exact tX4_ok
  | 5, h => cases h; exact tX5_ok
  | 6, h => cases h; exact tX6_ok
  | 7, h => cases h; exact tX7_ok
  | 8, h => cases h; exact tX8_ok
  | 9, h => cases h; exact tX9_ok
  | 10, h => cases h; exact tX10_ok
  | 11, h => cases h; exact tX11_ok
  | 12, h => cases h; exact tX12_ok
  | k + 13, h => simp [cls] at h
def LN (own : String) (idx : Nat) (C : String) (N : Nat) : Prop := Cond.classLink own idx C ∈ TT ∧ Cond.instantiable C N ∈ TT ∧ Cond.initialized C ∈ TT
theorem wl_kept {G : GG} {n : Nat} {h : Hp} {H H1 : Heap} (hP : va_P G.1 cls (wl G n h) H) (o1 : ∀ q, q < H.size → H1[q]? = H[q]?) : va_P G.1 cls (wl G n h) H1 := hP.kept (fun k x hx => o1 x.1 ((hP k x hx).lt))
section INITS
variable {p : Program} {l : Launch} {e : Env} {R : Room} {s : State} {m : MethodId} {args : Array Value} {below : List Frame} {meth : Method} {c : Code} {H : Heap} {locs : List Loc} {cells slots cells1 slots1 : Nat} {Q : State → Prop}
variable {cc : ByteArray} {pc : Nat} {ls : Array Slot} {rest st1 : List Value} {G : GG} {n n1 : Nat} {h h' : Hp} {r : Option Value} {mc ms d d' mcR msR nL : Nat} {own : String} {idx : Nat} {y : MethodName} {bytes : ByteArray} {maxL np : Nat} {ret : Option FieldType} {As : List Value}
theorem n_ext (X : XW G n h s cells H locs) (hu : H.size ≤ s.heap.size + cells) {H1 : Heap} (z1 : H1.size = H.size + 1) (o1 : ∀ q, q < H.size → H1[q]? = H[q]?) (e1 : va_at G.1 cls (bs G + (n + 1), cE G (sz h (n + 1)) (n + 1)) H1) : XW G (n + 1) (sz h (n + 1)) s (cells + 1) H1 locs := by
  have hz := X.sz hu
  obtain ⟨x1, x2, x3, x4⟩ := X
  refine ⟨?_, ⟨Nat.le_trans x2.1 (by omega), fun q h1 h2 => (o1 q (Nat.lt_of_lt_of_le h1 x2.1)).trans (x2.2.1 q h1 h2), x2.2.2⟩, by omega, x4⟩
  rw [← wl_push G h (sz h (n + 1)) (fun b hb => cE_sz G h (n + 1) b (by omega))]
  refine (wl_kept x1 o1).app (fun k q hk => ?_)
  have hk0 : k = 0 := by
    have := (List.getElem?_eq_some_iff.mp hk).1
    simp at this
    omega
  subst hk0
  cases hk
  exact e1
theorem fv_sz (b : Nat) (h : Hp) (a ci k : Nat) : fv b (sz h a) a ci k = if fr ci k = true then Value.null else .int 0 := by simp [fv, sz, ro, va_rf]
theorem n_new {ci : Nat} {C : String} {T : u_T} {N : Nat} (hx : p.tables.exec = Jvm.exec) (hb : c.code = cc) (hts : ∀ w ∈ TT, w.before args s = true) (hown : s.vm.findClass own = some m.cls) (hK : Ks G s) (X : XW G n h s cells H locs) (hk : kd (n + 1) = ci) (hcl : cls[ci]? = some (C, T, N)) (hl : LN own idx C N)
    (hcs : cells + 1 = cells1) (hss : slots + N = slots1) (hn1 : n + 1 = n1) (hcR : cells1 ≤ R.cells) (hsR : slots1 ≤ R.slots) (hdg : decode cc pc = .ok (.new idx, 3))
    (kk : ∀ H1 : Heap, XW G n1 (sz h n1) s cells1 H1 locs → W p l e R s m args below meth c H1 locs cells1 slots1 Q (F0 m (pc + 3) ls (.ref (bs G + n1) :: rest))) : W p l e R s m args below meth c H locs cells slots Q (F0 m pc ls rest) := by
  subst hcs; subst hss; subst hn1
  have hc13 : ci < 13 := (List.getElem?_eq_some_iff.mp hcl).1
  have hok := cls_ok ci C T N hcl
  have hnf : nf ci = N := hok.2.1
  refine w_size (fun hu => ?_)
  have hz := X.sz hu
  have hKn := hK.1.1 ci _ hcl
  refine W.newcK hx hb hown (hts _ hl.1) (hts _ hl.2.1) (hts _ hl.2.2) rfl hdg hcR hsR hKn.2.1 (show H.size = bs G + (n + 1) by omega) fun H1 kC hkC e1 z1 o1 => ?_
  refine kk H1 (n_ext X hu (by omega) (fun q hq => o1 q (by omega)) ?_)
  rw [cE_o G _ hk hc13]
  refine ⟨_, hcl, (u_born (tyAll ci) hts hok.1 hKn hkC e1 (cls_ty ci C T N hcl)).to (fun j hj => ?_)⟩
  have hj : j < N := hj
  show defaultValue (tyAll ci j) = vp_V _ j
  rw [cls_df ci hc13 j (by omega), vp_V, List.getD_eq_getElem?_getD, List.getElem?_map, List.getElem?_range (by omega)]
  exact (fv_sz _ _ _ _ _).symm
theorem n_arr {at0 : ArrayType} {ty : FieldType} {t0 : Nat} {cA0 : ClassId} {v : Int32} {N : Nat} (hx : p.tables.exec = Jvm.exec) (hb : c.code = cc) (hts : ∀ w ∈ TT, w.before args s = true) (hK : Ks G s) (X : XW G n h s cells H locs) (hty : newarray.typeOf at0 = ty) (ht0 : (tyl G)[t0]? = some (cA0, ty)) (hra : ∀ U cA, va_RA U cA ty → U.vm.findClass ("[" ++ ty.toString) = some cA) (hw : Cond.arrayClass ty ∈ TT) (hdv : defaultValue ty = .int 0)
    (hE : cE G (sz h n1) n1 = .inl (cA0, N, .inl (fun _ => 0))) (hv : ¬ v < 0) (hvN : v.toNatClampNeg = N) (hby : N * componentBytes ty ≤ 536870912)
    (hcs : cells + 1 = cells1) (hss : slots + N = slots1) (hn1 : n + 1 = n1) (hcR : cells1 ≤ R.cells) (hsR : slots1 ≤ R.slots) (hdg : decode cc pc = .ok (.newarray at0, 2))
    (kk : ∀ H1 : Heap, XW G n1 (sz h n1) s cells1 H1 locs → W p l e R s m args below meth c H1 locs cells1 slots1 Q (F0 m (pc + 2) ls (.ref (bs G + n1) :: rest))) : W p l e R s m args below meth c H locs cells slots Q (F0 m pc ls (.int v :: rest)) := by
  subst hcs; subst hss; subst hn1; subst hty
  refine w_size (fun hu => ?_)
  have hz := X.sz hu
  refine va_newaK hx hb (hts _ hw) rfl hdg rfl hv hvN hby hcR hsR (show H.size = bs G + (n + 1) by omega) fun H1 cA e1 z1 o1 hAr hNm => ?_
  refine kk H1 (n_ext X hu (by omega) (fun q hq => o1 q (by omega)) ?_)
  rw [hE]
  have h1 := hra s cA0 (hK.1.2 t0 _ ht0).2
  have hAA : cA = cA0 := Option.some.inj (hNm.symm.trans h1)
  subst hAA
  show H1[bs G + (n + 1)]? = some (vp_cell _ _)
  rw [vp_cell_i, e1, hdv]
theorem n_arrD {v : Int32} {N : Nat} (hx : p.tables.exec = Jvm.exec) (hb : c.code = cc) (hown : s.vm.findClass own = some m.cls) (hts : ∀ w ∈ TT, w.before args s = true) (hK : Ks G s) (X : XW G n h s cells H locs) (hcl : Cond.classLink own idx RX2 ∈ TT) (hov : Cond.arrayOver (.object RX2) ∈ lw_tbl)
    (hk : kd n1 = 15) (hln : ln n1 = N) (hv : ¬ v < 0) (hvN : v.toNatClampNeg = N) (hby : N * 4 ≤ 536870912)
    (hcs : cells + 1 = cells1) (hss : slots + N = slots1) (hn1 : n + 1 = n1) (hcR : cells1 ≤ R.cells) (hsR : slots1 ≤ R.slots) (hdg : decode cc pc = .ok (.anewarray idx, 3))
    (kk : ∀ H1 : Heap, XW G n1 (sz h n1) s cells1 H1 locs → W p l e R s m args below meth c H1 locs cells1 slots1 Q (F0 m (pc + 3) ls (.ref (bs G + n1) :: rest))) : W p l e R s m args below meth c H locs cells slots Q (F0 m pc ls (.int v :: rest)) := by
  subst hcs; subst hss; subst hn1; subst hvN
  refine w_size (fun hu => ?_)
  have hz := X.sz hu
  refine W.anew hx hb hown (hts _ hcl) (va_AO.use (hK.2 _ hov rfl)) rfl hdg rfl hv hby hcR hsR fun cA kA comp f1 f2 f3 f4 => ?_
  have hza : H.size = bs G + (n + 1) := by omega
  rw [hza]
  generalize hH1 : H.push ({ cls := cA, slots := Array.replicate v.toNatClampNeg .null, vm := .none } : Cell) = H1
  have z1 : H1.size = H.size + 1 := by rw [← hH1, Array.size_push]
  have e1 : H1[H.size]? = some (arrV cA v.toNatClampNeg (fun _ => .null)) := by rw [← hH1, Array.getElem?_push_size, ← arrV_new]
  have o1 : ∀ q : Nat, q < H.size → H1[q]? = H[q]? := fun q hq => by rw [← hH1, Array.getElem?_push, if_neg (Nat.ne_of_lt hq)]
  refine kk H1 (n_ext X hu z1 o1 ?_)
  rw [cE_d G _ hk]
  obtain ⟨kA', comp', -, -, -, h4⟩ := (hK.1.2 2 _ rfl).2
  have hAA : cA = G.2.2.2.1 := Option.some.inj (f1.symm.trans h4)
  subst hAA
  show H1[bs G + (n + 1)]? = some (vp_cell _ _)
  rw [vp_cell_q, hln, ← hza, e1]
  congr 2
  funext j
  simp [sz, ro, va_rf]
theorem n_obj {a : Nat} (hx : p.tables.exec = Jvm.exec) (hb : c.code = cc) (hml : c.maxLocals = ls.size) (hown : s.vm.findClass own = some m.cls) (hts : ∀ w ∈ TT, w.before args s = true) (hl : Cond.methodLink own idx Lib.objectInit ∈ TT) (hd : 0 < d) (hrs : (rest.map fun v => v.category).sum ≤ 8) (hdg : decode cc pc = .ok (.invokespecial idx, 3))
    (kk : W p l e (rmC d mcR msR) s m args below meth c H locs cells slots Q (F0 m (pc + 3) ls rest)) : W p l e (rmC d mcR msR) s m args below meth c H locs cells slots Q (F0 m pc ls (.ref a :: rest)) :=
  W.objInit (R := rmC d mcR msR) hx hb hown (hts _ hl) (hts _ lo_inst) (hts _ lo_code) rfl hml.symm rfl hdg (show 1 ≤ (rmC d mcR msR).frames from hd) (by show 2 * 0 + _ + 12 ≤ 60 * d; omega) kk
theorem g_Ia (hx : p.tables.exec = Jvm.exec) (hb : c.code = cc) {ci k a : Nat} (hts : ∀ w ∈ TT, w.before args s = true) (hown : s.vm.findClass own = some m.cls) (hK : Ks G s) (X : XW G n h s cells H locs) (hk : kd a = ci) (ha : 1 ≤ a ∧ a ≤ n) (hl : FL own idx ci k) (hc : ci < 13) (hfr : fr ci k = false)
    (hdg : decode cc pc = .ok (.getfield idx, 3)) (kk : W p l e R s m args below meth c H locs cells slots Q (F0 m (pc + 3) ls (.int (h.1 a k) :: rest))) : W p l e R s m args below meth c H locs cells slots Q (F0 m pc ls (.ref (bs G + a) :: rest)) :=
  g_get hx hb hts hown hK X hk ha hl hc hdg (by rw [fv_int _ _ _ hfr]; exact kk)
theorem g_Ra (hx : p.tables.exec = Jvm.exec) (hb : c.code = cc) {ci k a K : Nat} (hts : ∀ w ∈ TT, w.before args s = true) (hown : s.vm.findClass own = some m.cls) (hK : Ks G s) (X : XW G n h s cells H locs) (hk : kd a = ci) (ha : 1 ≤ a ∧ a ≤ n) (hq : kd (h.2 a k) = K) (hl : FL own idx ci k) (hc : ci < 13) (hfr : fr ci k = true) (hK9 : K ≠ 99)
    (hdg : decode cc pc = .ok (.getfield idx, 3)) (kk : W p l e R s m args below meth c H locs cells slots Q (F0 m (pc + 3) ls (.ref (bs G + h.2 a k) :: rest))) : W p l e R s m args below meth c H locs cells slots Q (F0 m pc ls (.ref (bs G + a) :: rest)) :=
  g_get hx hb hts hown hK X hk ha hl hc hdg (by rw [fv_ref _ _ _ hfr (kd_n0 hq hK9)]; exact kk)
theorem g_PRa (hx : p.tables.exec = Jvm.exec) (hb : c.code = cc) {ci k a q : Nat} {ty : FieldType} (hts : ∀ w ∈ TT, w.before args s = true) (hown : s.vm.findClass own = some m.cls) (hK : Ks G s) (X : XW G n h s cells H locs) (hk : kd a = ci) (ha : 1 ≤ a ∧ a ≤ n) (hq : q ≠ 0) (hl : FL own idx ci k) (hty : FT ci k ty false) (hc : ci < 13) (hfr : fr ci k = true) (hnr : ∀ z : Nat, narrow ty (.ref z) = .ref z) (hfit : ∀ z : Nat, fits ty (.ref z) = true)
    (hdg : decode cc pc = .ok (.putfield idx, 3)) (kk : ∀ (H1 : Heap) (locs1 : List Loc), XW G n (sr h a k q) s cells H1 locs1 → W p l e R s m args below meth c H1 locs1 cells slots Q (F0 m (pc + 3) ls rest)) : W p l e R s m args below meth c H locs cells slots Q (F0 m pc ls (.ref (bs G + q) :: .ref (bs G + a) :: rest)) :=
  g_put hx hb hts hown hK X hk ha hl hty hc (hnr _) (hfit _) (cE_sr G h a k q) (fv_sr _ _ _ hq hfr) hdg kk
theorem g_PFa (hx : p.tables.exec = Jvm.exec) (hb : c.code = cc) {ci k a q : Nat} {ty : FieldType} (hts : ∀ w ∈ TT, w.before args s = true) (hown : s.vm.findClass own = some m.cls) (hK : Ks G s) (X : XW G n h s cells H locs) (hk : kd a = ci) (ha : 1 ≤ a ∧ a ≤ n) (hq : q ≠ 0) (hl : FL own idx ci k) (hty : FT ci k ty true) (hc : ci < 13) (hfr : fr ci k = true) (hin : meth.name = "<init>") (hdecl : FO ci k own) (hnr : ∀ z : Nat, narrow ty (.ref z) = .ref z) (hfit : ∀ z : Nat, fits ty (.ref z) = true)
    (hdg : decode cc pc = .ok (.putfield idx, 3)) (kk : ∀ (H1 : Heap) (locs1 : List Loc), XW G n (sr h a k q) s cells H1 locs1 → W p l e R s m args below meth c H1 locs1 cells slots Q (F0 m (pc + 3) ls rest)) : W p l e R s m args below meth c H locs cells slots Q (F0 m pc ls (.ref (bs G + q) :: .ref (bs G + a) :: rest)) :=
  g_putF hx hb hts hown hK X hk ha hl hty hc hin hdecl (hnr _) (hfit _) (cE_sr G h a k q) (fv_sr _ _ _ hq hfr) hdg kk
/-- calls of constructors, that make mc cells -/
theorem c_I1 {a : Nat} (hx : p.tables.exec = Jvm.exec) (hb : c.code = cc) (hml : c.maxLocals = nL) (hown : s.vm.findClass own = some m.cls) (hts : ∀ w ∈ TT, w.before args s = true) (hK : Ks G s) (X : XW G n h s cells H locs)
    (hM : CT l G n n1 y (.code y bytes maxL none) d' mc ms (.ref (bs G + a) :: As) h h' none) (hn : n1 = n + mc) (hc : LC y bytes maxL none np) (hl : LI own idx y) (hd : d' < d) (hAs : As.length = np) (hls : ls.size = nL) (hrs : (rest.map fun v => v.category).sum ≤ 8)
    (hdg : decode cc pc = .ok (.invokespecial idx, 3)) (hcs : cells + mc = cells1) (hss : slots + ms = slots1) (hf : cells1 ≤ mcR ∧ slots1 ≤ msR)
    (kk : ∀ (H1 : Heap) (locs1 : List Loc), XW G n1 h' s cells1 H1 locs1 → W p l e (rmC d mcR msR) s m args below meth c H1 locs1 cells1 slots1 Q (F0 m (pc + 3) ls rest)) :
    W p l e (rmC d mcR msR) s m args below meth c H locs cells slots Q (F0 m pc ls (As.reverse ++ .ref (bs G + a) :: rest)) := by
  subst hcs; subst hss
  exact c_I hx hb hml hown hts hK X hM hn hc hl hd hAs hls hrs hdg hf kk
theorem c_IN1 {a : Nat} (hx : p.tables.exec = Jvm.exec) (hb : c.code = cc) (hml : c.maxLocals = nL) (hown : s.vm.findClass own = some m.cls) (hts : ∀ w ∈ TT, w.before args s = true) (hK : Ks G s) (X : XW G n h s cells H locs)
    (hM : CT l G n n1 y (.code y bytes maxL none) d' mc ms (.ref (bs G + a) :: As) h h' none) (hn : n1 = n + mc) (hc : LC y bytes maxL none np) (hl : LIN own idx y) (hd : d' < d) (hAs : As.length = np) (hls : ls.size = nL) (hrs : (rest.map fun v => v.category).sum ≤ 8)
    (hdg : decode cc pc = .ok (.invokespecial idx, 3)) (hcs : cells + mc = cells1) (hss : slots + ms = slots1) (hf : cells1 ≤ mcR ∧ slots1 ≤ msR)
    (kk : ∀ (H1 : Heap) (locs1 : List Loc), XW G n1 h' s cells1 H1 locs1 → W p l e (rmC d mcR msR) s m args below meth c H1 locs1 cells1 slots1 Q (F0 m (pc + 3) ls rest)) :
    W p l e (rmC d mcR msR) s m args below meth c H locs cells slots Q (F0 m pc ls (As.reverse ++ .ref (bs G + a) :: rest)) := by
  subst hcs; subst hss
  exact c_IN hx hb hml hown hts hK X hM hn hc hl hd hAs hls hrs hdg hf kk
theorem c_V1 {a ci : Nat} {C : String} {T : u_T} {N : Nat} (hx : p.tables.exec = Jvm.exec) (hb : c.code = cc) (hml : c.maxLocals = nL) (hown : s.vm.findClass own = some m.cls) (hts : ∀ w ∈ TT, w.before args s = true) (hK : Ks G s) (X : XW G n h s cells H locs)
    (hM : CT l G n n y (.code y bytes maxL ret) d' 0 0 (.ref (bs G + a) :: As) h h' r) (hk : kd a = ci) (hn : kmx ci ≤ n) (hc : LC y bytes maxL ret np) (hl : LV own idx y) (hcl : cls[ci]? = some (C, T, N)) (hC : y.cls = C) (hd : d' < d) (hAs : As.length = np) (hls : ls.size = nL) (hrs : (rest.map fun v => v.category).sum ≤ 8)
    (hdg : decode cc pc = .ok (.invokevirtual idx, 3)) (hst : r.toList ++ rest = st1) (hf : cells ≤ mcR ∧ slots ≤ msR)
    (kk : ∀ (H1 : Heap) (locs1 : List Loc), XW G n h' s cells H1 locs1 → W p l e (rmC d mcR msR) s m args below meth c H1 locs1 cells slots Q (F0 m (pc + 3) ls st1)) :
    W p l e (rmC d mcR msR) s m args below meth c H locs cells slots Q (F0 m pc ls (As.reverse ++ .ref (bs G + a) :: rest)) := by
  subst hst
  have h99 : ci ≠ 99 := by
    have : ci < 13 := (List.getElem?_eq_some_iff.mp hcl).1
    omega
  exact c_V hx hb hml hown hts hK X hM rfl hk (kd_in hk hn h99) hc hl hcl hC hd hAs hls hrs hdg hf kk
end INITS
end
section
/-! the class's one String constant: String.length and charAt over it, by the JDK's own code -/
def txt0 : List Int32 := [110, 57, 59, 112, 52, 59, 112, 52, 59, 112, 55, 59, 112, 49, 50, 59, 99, 55, 44, 51, 59, 104, 53, 44, 48, 59]
def txl (j : Nat) : Int32 := txt0.getD j 0
theorem txl_b : ∀ j, j < 26 → ((txl j &&& 255).toUInt32 % 65536).toInt32 = txl j ∧ narrow .char (.int (txl j)) = .int (txl j) := by decide +kernel
def StrW (G : GG) (sK sV : Nat) (U : State) (H : Heap) : Prop :=
  va_O "java/lang/String" sK (Ab G) U H ∧ va_OF "java/lang/String" "coder" "B" (.int 0) sK (Ab G) U H ∧ va_OF "java/lang/String" "value" "[B" (.ref sV) sK (Ab G) U H ∧ va_T .byte sV 26 (fun j => .int (txl j)) (Ab G) U H ∧ va_Z "java/lang/String" "COMPACT_STRINGS" "Z" (.int 1) (Ab G) U H ∧ va_Zq "jdk/internal/util/Preconditions" "SIOOBE_FORMATTER" "Ljava/util/function/BiFunction;" (Ab G) U H
theorem StrW.moved {G : GG} {sK sV : Nat} {u U : State} {H : Heap} (hvm : u.vm.Alike U.vm) (h : StrW G sK sV u H) : StrW G sK sV U H := ⟨h.1.moved hvm, h.2.1.moved hvm, h.2.2.1.moved hvm, h.2.2.2.1.moved hvm, h.2.2.2.2.1.moved hvm, h.2.2.2.2.2.moved hvm⟩
theorem StrW.kept {G : GG} {sK sV : Nat} {U : State} {H H1 : Heap} (h : StrW G sK sV U H) (hq : ∀ a : Nat, a < H.size → ¬ Ab G a → H1[a]? = H[a]?) : StrW G sK sV U H1 := ⟨h.1.kept hq, h.2.1.kept hq, h.2.2.1.kept hq, h.2.2.2.1.kept hq, h.2.2.2.2.1.kept hq, h.2.2.2.2.2.kept hq⟩
def StrOK (G : GG) (sK sV : Nat) (s : State) : Prop := vk_R RX11 89 "n9;p4;p4;p7;p12;c7,3;h5,0;" sK s ∧ StrW G sK sV s s.heap
/-- a contract of a method that leaves the heap -/
def CJ (l : Launch) (y : MethodName) (cd : Cond) (d : Nat) (av : List Value) (P : State → Prop) (r : Option Value) : Prop := Met l y (cd :: TT) (rmC d 0 0) (va_Pc av P) (fun _ st o t => o = .returned r ∧ t.heap = st.heap) 0 0 (fun _ => False)
def Cj (p : Program) (s : State) (m : MethodId) (args : Array Value) (meth : Method) (c : Code) (bytes : ByteArray) (own : String) (nL : Nat) (ret : Option FieldType) : Prop :=
  p.tables.exec = Jvm.exec ∧ c.code = bytes ∧ meth.sig.returnType = ret ∧ c.maxLocals = nL ∧ s.vm.findClass own = some m.cls ∧ (∀ w ∈ TT, w.before args s = true) ∧ meth.locks = false
theorem cj_of {l : Launch} {y : MethodName} {bytes : ByteArray} {maxL : Nat} {ret : Option FieldType} {d : Nat} {av : List Value} {P : State → Prop} {r : Option Value} (hy : plainName y.cls = true) (hav : (lg_sl av).length ≤ maxL)
    (body : ∀ (p : Program) (e : Env) (s : State) (m : MethodId) (below : List Frame) (meth : Method) (c : Code), Cj p s m av.toArray meth c bytes y.cls maxL ret → P s → ∀ ls : Array Slot, lv_has ls maxL (lv_args 0 av) →
      W p l e (rmC d 0 0) s m av.toArray below meth c s.heap [] 0 0 (MQ below (fun _ st o t => o = .returned r ∧ t.heap = st.heap) av.toArray s 0 0 (fun _ => False)) (F0 m 0 ls [])) :
    CJ l y (.code y bytes maxL ret) d av P r := by
  refine Met.ofW (cc := bytes) (maxL := maxL) (ret := ret) hy rfl ?_
  intro p e s m args below meth c s₁ B hml hv
  obtain ⟨rfl, hP⟩ := hv
  have hts := atoms_spec (ws := Cond.code y bytes maxL ret :: TT) B.pre
  have hl := lv_entry av (n := maxL) hav
  rw [lg_entry_eq]
  exact body p e s m below meth c ⟨B.exec, B.bytes, B.returns, hml, findClass_of_methodNamed B.named, fun w hw => hts w (List.mem_cons_of_mem _ hw), B.notSynchronized⟩ hP _ hl
section STRS
variable {p : Program} {l : Launch} {e : Env} {R : Room} {s : State} {m : MethodId} {args : Array Value} {below : List Frame} {meth : Method} {c : Code} {H : Heap} {locs : List Loc} {cells slots : Nat} {Q : State → Prop}
variable {cc : ByteArray} {pc : Nat} {ls : Array Slot} {rest st1 : List Value} {G : GG} {n : Nat} {h : Hp} {r : Option Value} {d d' mcR msR nL : Nat} {own : String} {idx : Nat} {y : MethodName} {bytes : ByteArray} {maxL np : Nat} {ret : Option FieldType} {As : List Value} {P : State → Prop} {sK sV : Nat}
theorem cj_go {st0 : List Value} {Qa : State → Outcome → State → Prop} (hQ : ∀ st o t, Qa st o t → o = .returned r ∧ t.heap = st.heap) (hr : va_Run p l e R s m args below meth c H locs cells slots 0 0 (F0 m pc ls st0) rest Qa (fun _ => False))
    (kk : W p l e R s m args below meth c H locs cells slots Q (F0 m (pc + 3) ls (r.toList ++ rest))) : W p l e R s m args below meth c H locs cells slots Q (F0 m pc ls st0) := by
  intro T hT XS
  obtain ⟨v, st₀, t, T', L, h0, X', hL, e1, e2, hq, st⟩ := hr T hT XS
  obtain ⟨hv, hh⟩ := hQ _ _ _ hq
  cases hv
  have hLn : L = [] := by
    cases L with
    | nil => rfl
    | cons a L => exact absurd (hL a List.mem_cons_self) id
  subst hLn
  rw [List.append_nil] at X'
  obtain ⟨t2, a1, b1⟩ := kk T' (by rw [e1, hh, h0]) X'
  exact ⟨t2, st t2 a1, b1⟩
theorem cj_pre {av : List Value} (hbl : ∀ (U : State) (g : JFrame) (mk : MethodId) (a : Array Value), P U → P (U.calling g mk a)) (hP : ∀ U : State, U.heap = H → s.WarmedH U.vm → P U) : PreS s H (va_Pc av P) av := ⟨fun a U g mk q => ⟨q.1, hbl U g mk a q.2⟩, fun U hU hW => ⟨rfl, hP U hU hW⟩⟩
theorem cj_S (hx : p.tables.exec = Jvm.exec) (hb : c.code = cc) (hml : c.maxLocals = nL) (hown : s.vm.findClass own = some m.cls) (hts : ∀ w ∈ TT, w.before args s = true) (hM : CJ l y (.code y bytes maxL ret) d' As P r) (hbl : ∀ (U : State) (g : JFrame) (mk : MethodId) (a : Array Value), P U → P (U.calling g mk a)) (hP : ∀ U : State, U.heap = H → s.WarmedH U.vm → P U)
    (hc : LC y bytes maxL ret np) (hl : LSt own idx y) (hd : d' < d) (hAs : As.length = np) (hls : ls.size = nL) (hrs : (rest.map fun v => v.category).sum ≤ 8) (hdg : decode cc pc = .ok (.invokestatic idx, 3)) (hst : r.toList ++ rest = st1) (hf : cells ≤ mcR ∧ slots ≤ msR)
    (kk : W p l e (rmC d mcR msR) s m args below meth c H locs cells slots Q (F0 m (pc + 3) ls st1)) : W p l e (rmC d mcR msR) s m args below meth c H locs cells slots Q (F0 m pc ls (As.reverse ++ rest)) := by
  subst hst
  exact cj_go (fun _ _ _ q => q) (va_runS (As := As) (rest := rest) ⟨hx, hb, hml, hown, hts⟩ hM ⟨c_B hts hc hl.1 hd, hts _ hl.2⟩ (cj_pre hbl hP) rfl hAs hls rfl (lv_room hrs) hdg hf) kk
theorem cj_V {a : Nat} (hx : p.tables.exec = Jvm.exec) (hb : c.code = cc) (hml : c.maxLocals = nL) (hown : s.vm.findClass own = some m.cls) (hts : ∀ w ∈ TT, w.before args s = true) (hM : CJ l y (.code y bytes maxL ret) d' (.ref a :: As) P r) (hbl : ∀ (U : State) (g : JFrame) (mk : MethodId) (a : Array Value), P U → P (U.calling g mk a)) (hP : ∀ U : State, U.heap = H → s.WarmedH U.vm → P U)
    (hrc : ∃ cell : Cell, H[a]? = some cell ∧ cell.vm.isStatics = false ∧ s.vm.findClass y.cls = some cell.cls) (hc : LC y bytes maxL ret np) (hl : LV own idx y) (hd : d' < d) (hAs : As.length = np) (hls : ls.size = nL) (hrs : (rest.map fun v => v.category).sum ≤ 8) (hdg : decode cc pc = .ok (.invokevirtual idx, 3)) (hst : r.toList ++ rest = st1) (hf : cells ≤ mcR ∧ slots ≤ msR)
    (kk : W p l e (rmC d mcR msR) s m args below meth c H locs cells slots Q (F0 m (pc + 3) ls st1)) : W p l e (rmC d mcR msR) s m args below meth c H locs cells slots Q (F0 m pc ls (As.reverse ++ .ref a :: rest)) := by
  subst hst
  exact cj_go (fun _ _ _ q => q) (va_runV (C := y.cls) (As := As) (rest := rest) ⟨hx, hb, hml, hown, hts⟩ hM ⟨c_B hts hc hl.1 hd, hts _ hl.2.1, hts _ hl.2.2⟩ ⟨(cj_pre (av := .ref a :: As) hbl hP).1, hrc, (cj_pre (av := .ref a :: As) hbl hP).2⟩ rfl hAs hls rfl (lv_room hrs) hdg hf) kk
theorem StrW.blind (G : GG) (sK sV : Nat) : ∀ (U : State) (g : JFrame) (mk : MethodId) (a : Array Value), StrW G sK sV U U.heap → StrW G sK sV (U.calling g mk a) (U.calling g mk a).heap := fun U g mk a q => q.moved (u := U) (U := U.calling g mk a) (Vm.Alike.refl U.vm)
theorem StrW.at (hS : StrW G sK sV s s.heap) (hV : va_S (Ab G) s.heap H locs) : ∀ U : State, U.heap = H → s.WarmedH U.vm → StrW G sK sV U U.heap := fun U hU hW => by
  rw [hU]
  exact (hS.kept hV.2.1).moved hW.alike
theorem s_fin {v : Int32} {ty : FieldType} (hx : p.tables.exec = Jvm.exec) (hb : c.code = cc) (hr : meth.sig.returnType = some ty) (hlocks : meth.locks = false) (hz : narrow ty (.int v) = .int v) (hdg : decode cc pc = .ok (.ireturn, 1)) :
    W p l e R s m args below meth c s.heap [] 0 0 (MQ below (fun _ st o t => o = .returned (some (.int v)) ∧ t.heap = st.heap) args s 0 0 (fun _ => False)) (F0 m pc ls [.int v]) :=
  W.zret hx hb hr hz (fun t ht hW => ⟨rfl, ht⟩) (fun q hq => absurd hq List.not_mem_nil) hdg hlocks
end STRS
def yJ0_length : MethodName := ⟨"java/lang/String", "length", "()I"⟩
abbrev bJ0_length : ByteArray := prog_17_method_54_code
theorem dJ0_length_0 : decode bJ0_length 0 = .ok (.aload_n 0, 1) := by decide +kernel
theorem dJ0_length_1 : decode bJ0_length 1 = .ok (.getfield 9, 3) := by decide +kernel
theorem dJ0_length_4 : decode bJ0_length 4 = .ok (.arraylength, 1) := by decide +kernel
theorem dJ0_length_5 : decode bJ0_length 5 = .ok (.aload_n 0, 1) := by decide +kernel
theorem dJ0_length_6 : decode bJ0_length 6 = .ok (.invokevirtual 335, 3) := by decide +kernel
theorem dJ0_length_9 : decode bJ0_length 9 = .ok (.ishr, 1) := by decide +kernel
theorem dJ0_length_10 : decode bJ0_length 10 = .ok (.ireturn, 1) := by decide +kernel
def yJ0_coder : MethodName := ⟨"java/lang/String", "coder", "()B"⟩
abbrev bJ0_coder : ByteArray := prog_17_method_152_code
theorem dJ0_coder_0 : decode bJ0_coder 0 = .ok (.getstatic 38, 3) := by decide +kernel
theorem dJ0_coder_3 : decode bJ0_coder 3 = .ok (.ifCond .eq 10, 3) := by decide +kernel
theorem dJ0_coder_6 : decode bJ0_coder 6 = .ok (.aload_n 0, 1) := by decide +kernel
theorem dJ0_coder_7 : decode bJ0_coder 7 = .ok (.getfield 15, 3) := by decide +kernel
theorem dJ0_coder_10 : decode bJ0_coder 10 = .ok (.goto 4, 3) := by decide +kernel
theorem dJ0_coder_13 : decode bJ0_coder 13 = .ok (.iconst 1, 1) := by decide +kernel
theorem dJ0_coder_14 : decode bJ0_coder 14 = .ok (.ireturn, 1) := by decide +kernel
def yJ0_charAt : MethodName := ⟨"java/lang/String", "charAt", "(I)C"⟩
abbrev bJ0_charAt : ByteArray := prog_17_method_56_code
theorem dJ0_charAt_0 : decode bJ0_charAt 0 = .ok (.aload_n 0, 1) := by decide +kernel
theorem dJ0_charAt_1 : decode bJ0_charAt 1 = .ok (.invokevirtual 492, 3) := by decide +kernel
theorem dJ0_charAt_4 : decode bJ0_charAt 4 = .ok (.ifCond .eq 12, 3) := by decide +kernel
theorem dJ0_charAt_7 : decode bJ0_charAt 7 = .ok (.aload_n 0, 1) := by decide +kernel
theorem dJ0_charAt_8 : decode bJ0_charAt 8 = .ok (.getfield 9, 3) := by decide +kernel
theorem dJ0_charAt_11 : decode bJ0_charAt 11 = .ok (.iload_n 1, 1) := by decide +kernel
theorem dJ0_charAt_12 : decode bJ0_charAt 12 = .ok (.invokestatic 495, 3) := by decide +kernel
theorem dJ0_charAt_15 : decode bJ0_charAt 15 = .ok (.ireturn, 1) := by decide +kernel
theorem dJ0_charAt_16 : decode bJ0_charAt 16 = .ok (.aload_n 0, 1) := by decide +kernel
theorem dJ0_charAt_17 : decode bJ0_charAt 17 = .ok (.getfield 9, 3) := by decide +kernel
theorem dJ0_charAt_20 : decode bJ0_charAt 20 = .ok (.iload_n 1, 1) := by decide +kernel
theorem dJ0_charAt_21 : decode bJ0_charAt 21 = .ok (.invokestatic 498, 3) := by decide +kernel
theorem dJ0_charAt_24 : decode bJ0_charAt 24 = .ok (.ireturn, 1) := by decide +kernel
def yJ0_isLatin1 : MethodName := ⟨"java/lang/String", "isLatin1", "()Z"⟩
abbrev bJ0_isLatin1 : ByteArray := prog_17_method_154_code
theorem dJ0_isLatin1_0 : decode bJ0_isLatin1 0 = .ok (.getstatic 38, 3) := by decide +kernel
theorem dJ0_isLatin1_3 : decode bJ0_isLatin1 3 = .ok (.ifCond .eq 14, 3) := by decide +kernel
theorem dJ0_isLatin1_6 : decode bJ0_isLatin1 6 = .ok (.aload_n 0, 1) := by decide +kernel
theorem dJ0_isLatin1_7 : decode bJ0_isLatin1 7 = .ok (.getfield 15, 3) := by decide +kernel
theorem dJ0_isLatin1_10 : decode bJ0_isLatin1 10 = .ok (.ifCond .ne 7, 3) := by decide +kernel
theorem dJ0_isLatin1_13 : decode bJ0_isLatin1 13 = .ok (.iconst 1, 1) := by decide +kernel
theorem dJ0_isLatin1_14 : decode bJ0_isLatin1 14 = .ok (.goto 4, 3) := by decide +kernel
theorem dJ0_isLatin1_17 : decode bJ0_isLatin1 17 = .ok (.iconst 0, 1) := by decide +kernel
theorem dJ0_isLatin1_18 : decode bJ0_isLatin1 18 = .ok (.ireturn, 1) := by decide +kernel
def yJ1_charAt : MethodName := ⟨"java/lang/StringLatin1", "charAt", "([BI)C"⟩
abbrev bJ1_charAt : ByteArray := prog_18_method_2_code
theorem dJ1_charAt_0 : decode bJ1_charAt 0 = .ok (.iload_n 1, 1) := by decide +kernel
theorem dJ1_charAt_1 : decode bJ1_charAt 1 = .ok (.aload_n 0, 1) := by decide +kernel
theorem dJ1_charAt_2 : decode bJ1_charAt 2 = .ok (.arraylength, 1) := by decide +kernel
theorem dJ1_charAt_3 : decode bJ1_charAt 3 = .ok (.invokestatic 9, 3) := by decide +kernel
theorem dJ1_charAt_6 : decode bJ1_charAt 6 = .ok (.aload_n 0, 1) := by decide +kernel
theorem dJ1_charAt_7 : decode bJ1_charAt 7 = .ok (.iload_n 1, 1) := by decide +kernel
theorem dJ1_charAt_8 : decode bJ1_charAt 8 = .ok (.baload, 1) := by decide +kernel
theorem dJ1_charAt_9 : decode bJ1_charAt 9 = .ok (.sipush 255, 3) := by decide +kernel
theorem dJ1_charAt_12 : decode bJ1_charAt 12 = .ok (.iand, 1) := by decide +kernel
theorem dJ1_charAt_13 : decode bJ1_charAt 13 = .ok (.i2c, 1) := by decide +kernel
theorem dJ1_charAt_14 : decode bJ1_charAt 14 = .ok (.ireturn, 1) := by decide +kernel
def yJ0_checkIndex : MethodName := ⟨"java/lang/String", "checkIndex", "(II)V"⟩
abbrev bJ0_checkIndex : ByteArray := prog_17_method_155_code
theorem dJ0_checkIndex_0 : decode bJ0_checkIndex 0 = .ok (.iload_n 0, 1) := by decide +kernel
theorem dJ0_checkIndex_1 : decode bJ0_checkIndex 1 = .ok (.iload_n 1, 1) := by decide +kernel
theorem dJ0_checkIndex_2 : decode bJ0_checkIndex 2 = .ok (.getstatic 1053, 3) := by decide +kernel
theorem dJ0_checkIndex_5 : decode bJ0_checkIndex 5 = .ok (.invokestatic 1059, 3) := by decide +kernel
theorem dJ0_checkIndex_8 : decode bJ0_checkIndex 8 = .ok (.pop, 1) := by decide +kernel
theorem dJ0_checkIndex_9 : decode bJ0_checkIndex 9 = .ok (.return_, 1) := by decide +kernel
def yJ3_checkIndex : MethodName := ⟨"jdk/internal/util/Preconditions", "checkIndex", "(IILjava/util/function/BiFunction;)I"⟩
abbrev bJ3_checkIndex : ByteArray := prog_21_method_11_code
theorem dJ3_checkIndex_0 : decode bJ3_checkIndex 0 = .ok (.iload_n 0, 1) := by decide +kernel
theorem dJ3_checkIndex_1 : decode bJ3_checkIndex 1 = .ok (.ifCond .lt 8, 3) := by decide +kernel
theorem dJ3_checkIndex_4 : decode bJ3_checkIndex 4 = .ok (.iload_n 0, 1) := by decide +kernel
theorem dJ3_checkIndex_5 : decode bJ3_checkIndex 5 = .ok (.iload_n 1, 1) := by decide +kernel
theorem dJ3_checkIndex_6 : decode bJ3_checkIndex 6 = .ok (.if_icmp .lt 10, 3) := by decide +kernel
theorem dJ3_checkIndex_9 : decode bJ3_checkIndex 9 = .ok (.aload_n 2, 1) := by decide +kernel
theorem dJ3_checkIndex_10 : decode bJ3_checkIndex 10 = .ok (.iload_n 0, 1) := by decide +kernel
theorem dJ3_checkIndex_11 : decode bJ3_checkIndex 11 = .ok (.iload_n 1, 1) := by decide +kernel
theorem dJ3_checkIndex_12 : decode bJ3_checkIndex 12 = .ok (.invokestatic 95, 3) := by decide +kernel
theorem dJ3_checkIndex_16 : decode bJ3_checkIndex 16 = .ok (.iload_n 0, 1) := by decide +kernel
theorem dJ3_checkIndex_17 : decode bJ3_checkIndex 17 = .ok (.ireturn, 1) := by decide +kernel
set_option maxRecDepth 100000 in
theorem lc_coder : LC yJ0_coder bJ0_coder 1 (some .byte) 0 := ⟨mt (i := 429) (by first | rfl | decide +kernel) (by decide +kernel), mt (i := 65) (by decide +kernel) (by decide +kernel), ⟨by decide +kernel, by decide +kernel, by decide +kernel⟩, by decide⟩
set_option maxRecDepth 100000 in
theorem lc_isLatin1 : LC yJ0_isLatin1 bJ0_isLatin1 1 (some .boolean) 0 := ⟨mt (i := 439) (by first | rfl | decide +kernel) (by decide +kernel), mt (i := 65) (by decide +kernel) (by decide +kernel), ⟨by decide +kernel, by decide +kernel, by decide +kernel⟩, by decide⟩
set_option maxRecDepth 100000 in
theorem lc_length : LC yJ0_length bJ0_length 1 (some .int) 0 := ⟨mt (i := 425) (by first | rfl | decide +kernel) (by decide +kernel), mt (i := 65) (by decide +kernel) (by decide +kernel), ⟨by decide +kernel, by decide +kernel, by decide +kernel⟩, by decide⟩
set_option maxRecDepth 100000 in
theorem lc_charAt : LC yJ0_charAt bJ0_charAt 2 (some .char) 1 := ⟨mt (i := 435) (by first | rfl | decide +kernel) (by decide +kernel), mt (i := 65) (by decide +kernel) (by decide +kernel), ⟨by decide +kernel, by decide +kernel, by decide +kernel⟩, by decide⟩
set_option maxRecDepth 100000 in
theorem lc_chL : LC yJ1_charAt bJ1_charAt 2 (some .char) 2 := ⟨mt (i := 442) (by first | rfl | decide +kernel) (by decide +kernel), mt (i := 66) (by decide +kernel) (by decide +kernel), ⟨by decide +kernel, by decide +kernel, by decide +kernel⟩, by decide⟩
set_option maxRecDepth 100000 in
theorem lc_chk0 : LC yJ0_checkIndex bJ0_checkIndex 2 none 2 := ⟨mt (i := 445) (by first | rfl | decide +kernel) (by decide +kernel), mt (i := 65) (by decide +kernel) (by decide +kernel), ⟨by decide +kernel, by decide +kernel, by decide +kernel⟩, by decide⟩
set_option maxRecDepth 100000 in
theorem lc_chk3 : LC yJ3_checkIndex bJ3_checkIndex 3 (some .int) 3 := ⟨mt (i := 450) (by first | rfl | decide +kernel) (by decide +kernel), mt (i := 67) (by decide +kernel) (by decide +kernel), ⟨by decide +kernel, by decide +kernel, by decide +kernel⟩, by decide⟩
theorem lv_coder : LV "java/lang/String" 335 yJ0_coder := ⟨mt (i := 426) (by decide +kernel) (by decide +kernel), mt (i := 427) (by decide +kernel) (by decide +kernel), mt (i := 428) (by decide +kernel) (by decide +kernel)⟩
theorem lv_isLatin1 : LV "java/lang/String" 492 yJ0_isLatin1 := ⟨mt (i := 436) (by decide +kernel) (by decide +kernel), mt (i := 437) (by decide +kernel) (by decide +kernel), mt (i := 438) (by decide +kernel) (by decide +kernel)⟩
theorem lv_length : LV RX11 91 yJ0_length := ⟨mt (i := 422) (by decide +kernel) (by decide +kernel), mt (i := 423) (by decide +kernel) (by decide +kernel), mt (i := 424) (by decide +kernel) (by decide +kernel)⟩
theorem lv_charAt : LV RX11 97 yJ0_charAt := ⟨mt (i := 432) (by decide +kernel) (by decide +kernel), mt (i := 433) (by decide +kernel) (by decide +kernel), mt (i := 434) (by decide +kernel) (by decide +kernel)⟩
theorem ls_chL : LSt "java/lang/String" 495 yJ1_charAt := ⟨mt (i := 440) (by decide +kernel) (by decide +kernel), mt (i := 441) (by decide +kernel) (by decide +kernel)⟩
theorem ls_chk0 : LSt "java/lang/StringLatin1" 9 yJ0_checkIndex := ⟨mt (i := 443) (by decide +kernel) (by decide +kernel), mt (i := 444) (by decide +kernel) (by decide +kernel)⟩
theorem ls_chk3 : LSt "java/lang/String" 1059 yJ3_checkIndex := ⟨mt (i := 448) (by decide +kernel) (by decide +kernel), mt (i := 449) (by decide +kernel) (by decide +kernel)⟩
theorem ls_cs : Cond.fieldLink "java/lang/String" 38 "java/lang/String" "COMPACT_STRINGS" "Z" ∈ TT := mt (i := 430) (by decide +kernel) (by decide +kernel)
theorem ls_co : Cond.fieldLink "java/lang/String" 15 "java/lang/String" "coder" "B" ∈ TT := mt (i := 1380) (by decide +kernel) (by decide +kernel)
theorem ls_va : Cond.fieldLink "java/lang/String" 9 "java/lang/String" "value" "[B" ∈ TT := mt (i := 1379) (by decide +kernel) (by decide +kernel)
theorem ls_si : Cond.fieldLink "java/lang/String" 1053 "jdk/internal/util/Preconditions" "SIOOBE_FORMATTER" "Ljava/util/function/BiFunction;" ∈ TT := mt (i := 446) (by decide +kernel) (by decide +kernel)
set_option maxRecDepth 100000
theorem k_coder (l : Launch) (G : GG) (sK sV : Nat) : CJ l yJ0_coder (.code yJ0_coder bJ0_coder 1 (some .byte)) 0 [.ref sK] (fun U => StrW G sK sV U U.heap) (some (.int 0)) := by
  refine cj_of (by decide) (Nat.le_of_ble_eq_true rfl) (fun p e s m below meth c C0 hS ls hl => ?_)
  have hl : lv_has ls 1 [(0, .ref sK)] := hl
  obtain ⟨hx, hb, hr, hml, hown, hts, hlocks⟩ := C0
  refine va_gets hx hb hS.2.2.2.2.1 va_S.rf hown (hts _ ls_cs) (fun _ z => z) dJ0_coder_0 ?_
  refine lv_if_eq (tgt := 13) hx hb dJ0_coder_3 (by decide) (fun z => absurd z (by decide)) (fun _ => ?_)
  refine lv_aload_n hx hb dJ0_coder_6 rfl (lv_at hl 0 rfl) ?_
  refine vk_getf hx hb hS.2.1 va_S.rf hown (hts _ ls_co) (fun _ z => z) dJ0_coder_7 ?_
  refine lv_goto (tgt := 14) hx hb dJ0_coder_10 (by decide) ?_
  exact s_fin hx hb hr hlocks rfl dJ0_coder_14
theorem k_isLatin1 (l : Launch) (G : GG) (sK sV : Nat) : CJ l yJ0_isLatin1 (.code yJ0_isLatin1 bJ0_isLatin1 1 (some .boolean)) 0 [.ref sK] (fun U => StrW G sK sV U U.heap) (some (.int 1)) := by
  refine cj_of (by decide) (Nat.le_of_ble_eq_true rfl) (fun p e s m below meth c C0 hS ls hl => ?_)
  have hl : lv_has ls 1 [(0, .ref sK)] := hl
  obtain ⟨hx, hb, hr, hml, hown, hts, hlocks⟩ := C0
  refine va_gets hx hb hS.2.2.2.2.1 va_S.rf hown (hts _ ls_cs) (fun _ z => z) dJ0_isLatin1_0 ?_
  refine lv_if_eq (tgt := 17) hx hb dJ0_isLatin1_3 (by decide) (fun z => absurd z (by decide)) (fun _ => ?_)
  refine lv_aload_n hx hb dJ0_isLatin1_6 rfl (lv_at hl 0 rfl) ?_
  refine vk_getf hx hb hS.2.1 va_S.rf hown (hts _ ls_co) (fun _ z => z) dJ0_isLatin1_7 ?_
  refine lv_if_ne (tgt := 17) hx hb dJ0_isLatin1_10 (by decide) (fun z => absurd rfl z) (fun _ => ?_)
  refine lv_iconst (v := 1) hx hb dJ0_isLatin1_13 (by decide) ?_
  refine lv_goto (tgt := 18) hx hb dJ0_isLatin1_14 (by decide) ?_
  exact s_fin hx hb hr hlocks rfl dJ0_isLatin1_18
theorem k_length (l : Launch) (G : GG) (sK sV : Nat) : CJ l yJ0_length (.code yJ0_length bJ0_length 1 (some .int)) 1 [.ref sK] (fun U => StrW G sK sV U U.heap) (some (.int 26)) := by
  refine cj_of (by decide) (Nat.le_of_ble_eq_true rfl) (fun p e s m below meth c C0 hS ls hl => ?_)
  have hl : lv_has ls 1 [(0, .ref sK)] := hl
  obtain ⟨hx, hb, hr, hml, hown, hts, hlocks⟩ := C0
  refine lv_aload_n hx hb dJ0_length_0 rfl (lv_at hl 0 rfl) ?_
  refine vk_getf hx hb hS.2.2.1 va_S.rf hown (hts _ ls_va) (fun _ z => z) dJ0_length_1 ?_
  refine va_tlen (v := 26) hx hb hS.2.2.2.1 va_S.rf rfl dJ0_length_4 ?_
  refine lv_aload_n hx hb dJ0_length_5 rfl (lv_at hl 0 rfl) ?_
  obtain ⟨cell, g1, g2, g3, g4⟩ := hS.1
  refine cj_V (As := []) (rest := [.int 26]) (st1 := [.int 0, .int 26]) hx hb hml hown hts (k_coder l G sK sV) (StrW.blind G sK sV) (StrW.at hS va_S.rf) ⟨cell, g1, g2, g3⟩ lc_coder lv_coder (by decide) rfl hl.1 (Nat.le_of_ble_eq_true rfl) dJ0_length_6 rfl ⟨by decide, by decide⟩ ?_
  refine lv_ishr hx hb dJ0_length_9 ?_
  exact s_fin hx hb hr hlocks rfl dJ0_length_10
theorem k_chk3 (l : Launch) (i : Int32) (v : Value) (hv : v = .null ∨ ∃ t, v = .ref t) (hi : inr i 26 = true) : CJ l yJ3_checkIndex (.code yJ3_checkIndex bJ3_checkIndex 3 (some .int)) 0 [.int i, .int 26, v] (fun _ => True) (some (.int i)) := by
  have hz : ¬ i < 0 ∧ i < 26 := by
    simp only [inr, Bool.and_eq_true, decide_eq_true_eq] at hi
    refine ⟨fun q => ?_, ?_⟩
    · have := Int32.lt_iff_toInt_lt.mp q
      have : (0 : Int32).toInt = 0 := rfl
      omega
    · refine Int32.lt_iff_toInt_lt.mpr ?_
      have : (26 : Int32).toInt = 26 := rfl
      omega
  refine cj_of (by decide) ?_ (fun p e s m below meth c C0 hS ls hl => ?_)
  · rcases hv with rfl | ⟨t, rfl⟩ <;> exact Nat.le_of_ble_eq_true rfl
  have hl : lv_has ls 3 [(0, .int i), (1, .int 26)] := by
    rcases hv with rfl | ⟨t, rfl⟩ <;> exact lv_sub hl [0, 1] rfl
  obtain ⟨hx, hb, hr, hml, hown, hts, hlocks⟩ := C0
  refine lv_iload_n hx hb dJ3_checkIndex_0 rfl (lv_at hl 0 rfl) ?_
  refine lv_if_lt (tgt := 9) hx hb dJ3_checkIndex_1 (by decide) (fun z => absurd z hz.1) (fun _ => ?_)
  refine lv_iload_n hx hb dJ3_checkIndex_4 rfl (lv_at hl 0 rfl) ?_
  refine lv_iload_n hx hb dJ3_checkIndex_5 rfl (lv_at hl 1 rfl) ?_
  refine lv_icmp_lt (tgt := 16) hx hb dJ3_checkIndex_6 (by decide) (fun _ => ?_) (fun z => absurd hz.2 z)
  refine lv_iload_n hx hb dJ3_checkIndex_16 rfl (lv_at hl 0 rfl) ?_
  exact s_fin hx hb hr hlocks rfl dJ3_checkIndex_17
theorem k_chk0 (l : Launch) (G : GG) (sK sV : Nat) (i : Int32) (hi : inr i 26 = true) : CJ l yJ0_checkIndex (.code yJ0_checkIndex bJ0_checkIndex 2 none) 1 [.int i, .int 26] (fun U => StrW G sK sV U U.heap) none := by
  refine cj_of (by decide) (Nat.le_of_ble_eq_true rfl) (fun p e s m below meth c C0 hS ls hl => ?_)
  have hl : lv_has ls 2 [(0, .int i), (1, .int 26)] := hl
  obtain ⟨hx, hb, hr, hml, hown, hts, hlocks⟩ := C0
  refine lv_iload_n hx hb dJ0_checkIndex_0 rfl (lv_at hl 0 rfl) ?_
  refine lv_iload_n hx hb dJ0_checkIndex_1 rfl (lv_at hl 1 rfl) ?_
  have fin : ∀ v : Value, (v = .null ∨ ∃ t, v = .ref t) → va_Z "jdk/internal/util/Preconditions" "SIOOBE_FORMATTER" "Ljava/util/function/BiFunction;" v (Ab G) s s.heap → W p l e (rmC 1 0 0) s m #[.int i, .int 26] below meth c s.heap [] 0 0 (MQ below (fun _ st o t => o = .returned none ∧ t.heap = st.heap) #[.int i, .int 26] s 0 0 (fun _ => False)) (F0 m 2 ls [.int 26, .int i]) := by
    intro v hv hZ
    refine va_gets hx hb hZ va_S.rf hown (hts _ ls_si) (fun _ z => z) dJ0_checkIndex_2 ?_
    refine cj_S (As := [.int i, .int 26, v]) (rest := []) (st1 := [.int i]) hx hb hml hown hts (k_chk3 l i v hv hi) (fun _ _ _ _ _ => trivial) (fun _ _ _ => trivial) lc_chk3 ls_chk3 (by decide) rfl hl.1 (Nat.le_of_ble_eq_true rfl) dJ0_checkIndex_5 rfl ⟨by decide, by decide⟩ ?_
    refine lv_pop hx hb dJ0_checkIndex_8 rfl ?_
    exact W.vret hx hb hr (fun t ht hW => ⟨rfl, ht⟩) (fun q hq => absurd hq List.not_mem_nil) dJ0_checkIndex_9 hlocks
  rcases hS.2.2.2.2.2 with hZ | ⟨t, hZ⟩
  · exact fin _ (Or.inl rfl) hZ
  · exact fin _ (Or.inr ⟨t, rfl⟩) hZ
theorem k_chL (l : Launch) (G : GG) (sK sV : Nat) (i : Int32) (hi : inr i 26 = true) : CJ l yJ1_charAt (.code yJ1_charAt bJ1_charAt 2 (some .char)) 2 [.ref sV, .int i] (fun U => StrW G sK sV U U.heap) (some (.int (txl i.toNatClampNeg))) := by
  have hin := inr_in hi
  have hlt : i.toNatClampNeg < 26 := Nat.not_le.mp fun q => hin (Or.inr q)
  have hb2 := txl_b i.toNatClampNeg hlt
  refine cj_of (by decide) (Nat.le_of_ble_eq_true rfl) (fun p e s m below meth c C0 hS ls hl => ?_)
  have hl : lv_has ls 2 [(0, .ref sV), (1, .int i)] := hl
  obtain ⟨hx, hb, hr, hml, hown, hts, hlocks⟩ := C0
  refine lv_iload_n hx hb dJ1_charAt_0 rfl (lv_at hl 1 rfl) ?_
  refine lv_aload_n hx hb dJ1_charAt_1 rfl (lv_at hl 0 rfl) ?_
  refine va_tlen (v := 26) hx hb hS.2.2.2.1 va_S.rf rfl dJ1_charAt_2 ?_
  refine cj_S (As := [.int i, .int 26]) (rest := []) (st1 := []) hx hb hml hown hts (k_chk0 l G sK sV i hi) (StrW.blind G sK sV) (StrW.at hS va_S.rf) lc_chk0 ls_chk0 (by decide) rfl hl.1 (Nat.le_of_ble_eq_true rfl) dJ1_charAt_3 rfl ⟨by decide, by decide⟩ ?_
  refine lv_aload_n hx hb dJ1_charAt_6 rfl (lv_at hl 0 rfl) ?_
  refine lv_iload_n hx hb dJ1_charAt_7 rfl (lv_at hl 1 rfl) ?_
  refine va_tb (v := .int (txl i.toNatClampNeg)) hx hb hS.2.2.2.1 va_S.rf hin rfl dJ1_charAt_8 ?_
  refine lv_sipush (v := 255) hx hb dJ1_charAt_9 (by decide) ?_
  refine lv_iand hx hb dJ1_charAt_12 ?_
  refine lv_i2c (v := txl i.toNatClampNeg) hx hb dJ1_charAt_13 hb2.1 ?_
  exact s_fin hx hb hr hlocks hb2.2 dJ1_charAt_14
theorem k_charAt (l : Launch) (G : GG) (sK sV : Nat) (i : Int32) (hi : inr i 26 = true) : CJ l yJ0_charAt (.code yJ0_charAt bJ0_charAt 2 (some .char)) 3 [.ref sK, .int i] (fun U => StrW G sK sV U U.heap) (some (.int (txl i.toNatClampNeg))) := by
  have hin := inr_in hi
  have hlt : i.toNatClampNeg < 26 := Nat.not_le.mp fun q => hin (Or.inr q)
  refine cj_of (by decide) (Nat.le_of_ble_eq_true rfl) (fun p e s m below meth c C0 hS ls hl => ?_)
  have hl : lv_has ls 2 [(0, .ref sK), (1, .int i)] := hl
  obtain ⟨hx, hb, hr, hml, hown, hts, hlocks⟩ := C0
  obtain ⟨cell, g1, g2, g3, g4⟩ := hS.1
  refine lv_aload_n hx hb dJ0_charAt_0 rfl (lv_at hl 0 rfl) ?_
  refine cj_V (As := []) (rest := []) (st1 := [.int 1]) hx hb hml hown hts (k_isLatin1 l G sK sV) (StrW.blind G sK sV) (StrW.at hS va_S.rf) ⟨cell, g1, g2, g3⟩ lc_isLatin1 lv_isLatin1 (by decide) rfl hl.1 (Nat.le_of_ble_eq_true rfl) dJ0_charAt_1 rfl ⟨by decide, by decide⟩ ?_
  refine lv_if_eq (tgt := 16) hx hb dJ0_charAt_4 (by decide) (fun z => absurd z (by decide)) (fun _ => ?_)
  refine lv_aload_n hx hb dJ0_charAt_7 rfl (lv_at hl 0 rfl) ?_
  refine vk_getf hx hb hS.2.2.1 va_S.rf hown (hts _ ls_va) (fun _ z => z) dJ0_charAt_8 ?_
  refine lv_iload_n hx hb dJ0_charAt_11 rfl (lv_at hl 1 rfl) ?_
  refine cj_S (As := [.ref sV, .int i]) (rest := []) (st1 := [.int (txl i.toNatClampNeg)]) hx hb hml hown hts (k_chL l G sK sV i hi) (StrW.blind G sK sV) (StrW.at hS va_S.rf) lc_chL ls_chL (by decide) rfl hl.1 (Nat.le_of_ble_eq_true rfl) dJ0_charAt_12 rfl ⟨by decide, by decide⟩ ?_
  exact s_fin hx hb hr hlocks (txl_b _ hlt).2 dJ0_charAt_15
section STRC
variable {p : Program} {l : Launch} {e : Env} {s : State} {m : MethodId} {args : Array Value} {below : List Frame} {meth : Method} {c : Code} {H : Heap} {locs : List Loc} {cells slots : Nat} {Q : State → Prop}
variable {cc : ByteArray} {pc : Nat} {ls : Array Slot} {rest : List Value} {G : GG} {n : Nat} {h : Hp} {d mcR msR nL : Nat} {sK sV : Nat} {R : Room}
theorem s_ldc (hx : p.tables.exec = Jvm.exec) (hb : c.code = cc) (hown : s.vm.findClass RX11 = some m.cls) (hS : StrOK G sK sV s) (hdg : decode cc pc = .ok (.ldc 89, 2))
    (kk : W p l e R s m args below meth c H locs cells slots Q (F0 m (pc + 2) ls (.ref sK :: rest))) : W p l e R s m args below meth c H locs cells slots Q (F0 m pc ls rest) := va_ldcS hx hb hown hS.1 hdg kk
theorem s_len (hx : p.tables.exec = Jvm.exec) (hb : c.code = cc) (hml : c.maxLocals = nL) (hls : ls.size = nL) (hown : s.vm.findClass RX11 = some m.cls) (hts : ∀ w ∈ TT, w.before args s = true) (hS : StrOK G sK sV s) (X : XW G n h s cells H locs) (hd : 1 < d) (hrs : (rest.map fun v => v.category).sum ≤ 8) (hf : cells ≤ mcR ∧ slots ≤ msR) (hdg : decode cc pc = .ok (.invokevirtual 91, 3))
    (kk : W p l e (rmC d mcR msR) s m args below meth c H locs cells slots Q (F0 m (pc + 3) ls (.int 26 :: rest))) : W p l e (rmC d mcR msR) s m args below meth c H locs cells slots Q (F0 m pc ls (.ref sK :: rest)) := by
  obtain ⟨cell, g1, g2, g3, g4⟩ := hS.2.1.kept X.2.1.2.1
  exact cj_V (As := []) (rest := rest) (st1 := .int 26 :: rest) hx hb hml hown hts (k_length l G sK sV) (StrW.blind G sK sV) (StrW.at hS.2 X.2.1) ⟨cell, g1, g2, g3⟩ lc_length lv_length hd rfl hls hrs hdg rfl hf kk
theorem s_chr {i : Int32} (hx : p.tables.exec = Jvm.exec) (hb : c.code = cc) (hml : c.maxLocals = nL) (hls : ls.size = nL) (hown : s.vm.findClass RX11 = some m.cls) (hts : ∀ w ∈ TT, w.before args s = true) (hS : StrOK G sK sV s) (X : XW G n h s cells H locs) (hi : inr i 26 = true) (hd : 3 < d) (hrs : (rest.map fun v => v.category).sum ≤ 8) (hf : cells ≤ mcR ∧ slots ≤ msR) (hdg : decode cc pc = .ok (.invokevirtual 97, 3))
    (kk : W p l e (rmC d mcR msR) s m args below meth c H locs cells slots Q (F0 m (pc + 3) ls (.int (txl i.toNatClampNeg) :: rest))) : W p l e (rmC d mcR msR) s m args below meth c H locs cells slots Q (F0 m pc ls (.int i :: .ref sK :: rest)) := by
  obtain ⟨cell, g1, g2, g3, g4⟩ := hS.2.1.kept X.2.1.2.1
  exact cj_V (As := [.int i]) (rest := rest) (st1 := .int (txl i.toNatClampNeg) :: rest) hx hb hml hown hts (k_charAt l G sK sV i hi) (StrW.blind G sK sV) (StrW.at hS.2 X.2.1) ⟨cell, g1, g2, g3⟩ lc_charAt lv_charAt hd rfl hls hrs hdg rfl hf kk
end STRC
/-- the contract of the constructor that reads the constant -/
def CTS (sK sV : Nat) (l : Launch) (G : GG) (n n' : Nat) (y : MethodName) (cd : Cond) (d mc ms : Nat) (av : List Value) (h h' : Hp) (r : Option Value) : Prop :=
  Met l y (cd :: TT) (rmC d mc ms) (va_Pc av (fun U => Wd G n h U.heap ∧ Ks G U ∧ StrOK G sK sV U)) (QP G n' h' r) mc ms (Ab G)
theorem cts_of {sK sV : Nat} {l : Launch} {G : GG} {n n' : Nat} {y : MethodName} {bytes : ByteArray} {maxL : Nat} {ret : Option FieldType} {d mc ms : Nat} {av : List Value} {h h' : Hp} {r : Option Value} (hy : plainName y.cls = true) (hav : (lg_sl av).length ≤ maxL)
    (body : ∀ (p : Program) (e : Env) (s : State) (m : MethodId) (below : List Frame) (meth : Method) (c : Code), Cx p s m av.toArray meth c G bytes y.cls maxL ret y.name → XW G n h s 0 s.heap [] → StrOK G sK sV s → ∀ ls : Array Slot, lv_has ls maxL (lv_args 0 av) →
      W p l e (rmC d mc ms) s m av.toArray below meth c s.heap [] 0 0 (MQ below (QP G n' h' r) av.toArray s mc ms (Ab G)) (F0 m 0 ls [])) :
    CTS sK sV l G n n' y (.code y bytes maxL ret) d mc ms av h h' r := by
  refine Met.ofW (cc := bytes) (maxL := maxL) (ret := ret) hy rfl ?_
  intro p e s m args below meth c s₁ B hml hv
  obtain ⟨rfl, hW, hK, hS⟩ := hv
  have hts := atoms_spec (ws := Cond.code y bytes maxL ret :: TT) B.pre
  have hl := lv_entry av (n := maxL) hav
  rw [lg_entry_eq]
  exact body p e s m below meth c ⟨B.exec, B.bytes, B.returns, hml, findClass_of_methodNamed B.named, fun w hw => hts w (List.mem_cons_of_mem _ hw), hK, B.notSynchronized, (name_of_methodNamed B.named B.method).1⟩
    ⟨hW.1, va_S.rf, hW.2, by rw [hW.2]; omega⟩ hS _ hl
end
section
set_option maxRecDepth 100000
theorem fo_0_2 : FO 0 2 RX0 := ⟨RX0, TX0, 6, rfl, rfl⟩
theorem fo_0_3 : FO 0 3 RX0 := ⟨RX0, TX0, 6, rfl, rfl⟩
theorem fo_0_4 : FO 0 4 RX0 := ⟨RX0, TX0, 6, rfl, rfl⟩
theorem fo_0_5 : FO 0 5 RX0 := ⟨RX0, TX0, 6, rfl, rfl⟩
theorem fo_10_1 : FO 10 1 RX10 := ⟨RX10, TX10, 3, rfl, rfl⟩
theorem fo_10_2 : FO 10 2 RX10 := ⟨RX10, TX10, 3, rfl, rfl⟩
theorem fo_11_0 : FO 11 0 RX11 := ⟨RX11, TX11, 12, rfl, rfl⟩
theorem fo_11_10 : FO 11 10 RX11 := ⟨RX11, TX11, 12, rfl, rfl⟩
theorem fo_11_11 : FO 11 11 RX11 := ⟨RX11, TX11, 12, rfl, rfl⟩
theorem fo_11_3 : FO 11 3 RX11 := ⟨RX11, TX11, 12, rfl, rfl⟩
theorem fo_11_4 : FO 11 4 RX11 := ⟨RX11, TX11, 12, rfl, rfl⟩
theorem fo_11_5 : FO 11 5 RX11 := ⟨RX11, TX11, 12, rfl, rfl⟩
theorem fo_11_6 : FO 11 6 RX11 := ⟨RX11, TX11, 12, rfl, rfl⟩
theorem fo_11_7 : FO 11 7 RX11 := ⟨RX11, TX11, 12, rfl, rfl⟩
theorem fo_11_8 : FO 11 8 RX11 := ⟨RX11, TX11, 12, rfl, rfl⟩
theorem fo_11_9 : FO 11 9 RX11 := ⟨RX11, TX11, 12, rfl, rfl⟩
theorem fo_12_1 : FO 12 1 RX12 := ⟨RX12, TX12, 30, rfl, rfl⟩
theorem fo_12_11 : FO 12 11 RX12 := ⟨RX12, TX12, 30, rfl, rfl⟩
theorem fo_12_13 : FO 12 13 RX12 := ⟨RX12, TX12, 30, rfl, rfl⟩
theorem fo_12_15 : FO 12 15 RX12 := ⟨RX12, TX12, 30, rfl, rfl⟩
theorem fo_12_19 : FO 12 19 RX12 := ⟨RX12, TX12, 30, rfl, rfl⟩
theorem fo_12_2 : FO 12 2 RX12 := ⟨RX12, TX12, 30, rfl, rfl⟩
theorem fo_12_20 : FO 12 20 RX12 := ⟨RX12, TX12, 30, rfl, rfl⟩
theorem fo_12_21 : FO 12 21 RX12 := ⟨RX12, TX12, 30, rfl, rfl⟩
theorem fo_12_22 : FO 12 22 RX12 := ⟨RX12, TX12, 30, rfl, rfl⟩
theorem fo_12_24 : FO 12 24 RX12 := ⟨RX12, TX12, 30, rfl, rfl⟩
theorem fo_12_25 : FO 12 25 RX12 := ⟨RX12, TX12, 30, rfl, rfl⟩
theorem fo_12_26 : FO 12 26 RX12 := ⟨RX12, TX12, 30, rfl, rfl⟩
theorem fo_12_28 : FO 12 28 RX12 := ⟨RX12, TX12, 30, rfl, rfl⟩
theorem fo_12_29 : FO 12 29 RX12 := ⟨RX12, TX12, 30, rfl, rfl⟩
theorem fo_12_3 : FO 12 3 RX12 := ⟨RX12, TX12, 30, rfl, rfl⟩
theorem fo_12_4 : FO 12 4 RX12 := ⟨RX12, TX12, 30, rfl, rfl⟩
theorem fo_12_6 : FO 12 6 RX12 := ⟨RX12, TX12, 30, rfl, rfl⟩
theorem fo_12_8 : FO 12 8 RX12 := ⟨RX12, TX12, 30, rfl, rfl⟩
theorem fo_1_5 : FO 1 5 RX1 := ⟨RX1, TX1, 10, rfl, rfl⟩
theorem fo_1_6 : FO 1 6 RX1 := ⟨RX1, TX1, 10, rfl, rfl⟩
theorem fo_1_7 : FO 1 7 RX1 := ⟨RX1, TX1, 10, rfl, rfl⟩
theorem fo_1_8 : FO 1 8 RX1 := ⟨RX1, TX1, 10, rfl, rfl⟩
theorem fo_1_9 : FO 1 9 RX1 := ⟨RX1, TX1, 10, rfl, rfl⟩
theorem fo_2_0 : FO 2 0 RX2 := ⟨RX2, TX2, 5, rfl, rfl⟩
theorem fo_2_1 : FO 2 1 RX2 := ⟨RX2, TX2, 5, rfl, rfl⟩
theorem fo_3_1 : FO 3 1 RX3 := ⟨RX3, TX3, 2, rfl, rfl⟩
theorem fo_4_5 : FO 4 5 RX4 := ⟨RX4, TX4, 8, rfl, rfl⟩
theorem fo_4_6 : FO 4 6 RX4 := ⟨RX4, TX4, 8, rfl, rfl⟩
theorem fo_4_7 : FO 4 7 RX4 := ⟨RX4, TX4, 8, rfl, rfl⟩
theorem fo_5_0 : FO 5 0 RX5 := ⟨RX5, TX5, 9, rfl, rfl⟩
theorem fo_5_1 : FO 5 1 RX5 := ⟨RX5, TX5, 9, rfl, rfl⟩
theorem fo_5_2 : FO 5 2 RX5 := ⟨RX5, TX5, 9, rfl, rfl⟩
theorem fo_5_3 : FO 5 3 RX5 := ⟨RX5, TX5, 9, rfl, rfl⟩
theorem fo_5_4 : FO 5 4 RX5 := ⟨RX5, TX5, 9, rfl, rfl⟩
theorem fo_5_5 : FO 5 5 RX5 := ⟨RX5, TX5, 9, rfl, rfl⟩
theorem fo_5_6 : FO 5 6 RX5 := ⟨RX5, TX5, 9, rfl, rfl⟩
theorem fo_5_7 : FO 5 7 RX5 := ⟨RX5, TX5, 9, rfl, rfl⟩
theorem fo_6_5 : FO 6 5 RX6 := ⟨RX6, TX6, 7, rfl, rfl⟩
theorem fo_6_6 : FO 6 6 RX6 := ⟨RX6, TX6, 7, rfl, rfl⟩
theorem fo_7_4 : FO 7 4 RX7 := ⟨RX7, TX7, 12, rfl, rfl⟩
theorem fo_7_5 : FO 7 5 RX7 := ⟨RX7, TX7, 12, rfl, rfl⟩
theorem fo_7_6 : FO 7 6 RX7 := ⟨RX7, TX7, 12, rfl, rfl⟩
theorem fo_7_7 : FO 7 7 RX7 := ⟨RX7, TX7, 12, rfl, rfl⟩
theorem fo_7_8 : FO 7 8 RX7 := ⟨RX7, TX7, 12, rfl, rfl⟩
theorem fo_8_1 : FO 8 1 RX8 := ⟨RX8, TX8, 5, rfl, rfl⟩
theorem fo_8_2 : FO 8 2 RX8 := ⟨RX8, TX8, 5, rfl, rfl⟩
theorem ft_0_2 : FT 0 2 (.array .int) true := ⟨RX0, TX0, 6, rfl, tX0_ok 2 (by decide), rfl⟩
theorem ft_0_3 : FT 0 3 (.array .int) true := ⟨RX0, TX0, 6, rfl, tX0_ok 3 (by decide), rfl⟩
theorem ft_0_4 : FT 0 4 (.array .int) true := ⟨RX0, TX0, 6, rfl, tX0_ok 4 (by decide), rfl⟩
theorem ft_0_5 : FT 0 5 (.array .int) true := ⟨RX0, TX0, 6, rfl, tX0_ok 5 (by decide), rfl⟩
theorem ft_10_1 : FT 10 1 (.array .int) true := ⟨RX10, TX10, 3, rfl, tX10_ok 1 (by decide), rfl⟩
theorem ft_10_2 : FT 10 2 (.array .int) true := ⟨RX10, TX10, 3, rfl, tX10_ok 2 (by decide), rfl⟩
theorem ft_11_0 : FT 11 0 (.object "TakenNumbers$Text") true := ⟨RX11, TX11, 12, rfl, tX11_ok 0 (by decide), rfl⟩
theorem ft_11_10 : FT 11 10 (.object "TakenNumbers$Scene") true := ⟨RX11, TX11, 12, rfl, tX11_ok 10 (by decide), rfl⟩
theorem ft_11_11 : FT 11 11 (.object "TakenNumbers$Crowd") true := ⟨RX11, TX11, 12, rfl, tX11_ok 11 (by decide), rfl⟩
theorem ft_11_3 : FT 11 3 (.object "TakenNumbers$Day") true := ⟨RX11, TX11, 12, rfl, tX11_ok 3 (by decide), rfl⟩
theorem ft_11_4 : FT 11 4 (.object "TakenNumbers$DayStack") true := ⟨RX11, TX11, 12, rfl, tX11_ok 4 (by decide), rfl⟩
theorem ft_11_5 : FT 11 5 (.object "TakenNumbers$DayStack") true := ⟨RX11, TX11, 12, rfl, tX11_ok 5 (by decide), rfl⟩
theorem ft_11_6 : FT 11 6 (.object "TakenNumbers$Words") true := ⟨RX11, TX11, 12, rfl, tX11_ok 6 (by decide), rfl⟩
theorem ft_11_7 : FT 11 7 (.object "TakenNumbers$Book") true := ⟨RX11, TX11, 12, rfl, tX11_ok 7 (by decide), rfl⟩
theorem ft_11_8 : FT 11 8 (.object "TakenNumbers$WaySums") true := ⟨RX11, TX11, 12, rfl, tX11_ok 8 (by decide), rfl⟩
theorem ft_11_9 : FT 11 9 (.object "TakenNumbers$Sayings") true := ⟨RX11, TX11, 12, rfl, tX11_ok 9 (by decide), rfl⟩
theorem ft_12_1 : FT 12 1 (.array .int) true := ⟨RX12, TX12, 30, rfl, tX12_ok 1 (by decide), rfl⟩
theorem ft_12_11 : FT 12 11 (.array .int) true := ⟨RX12, TX12, 30, rfl, tX12_ok 11 (by decide), rfl⟩
theorem ft_12_13 : FT 12 13 (.array .int) true := ⟨RX12, TX12, 30, rfl, tX12_ok 13 (by decide), rfl⟩
theorem ft_12_15 : FT 12 15 (.array .int) true := ⟨RX12, TX12, 30, rfl, tX12_ok 15 (by decide), rfl⟩
theorem ft_12_19 : FT 12 19 (.array .int) true := ⟨RX12, TX12, 30, rfl, tX12_ok 19 (by decide), rfl⟩
theorem ft_12_2 : FT 12 2 (.array .int) true := ⟨RX12, TX12, 30, rfl, tX12_ok 2 (by decide), rfl⟩
theorem ft_12_20 : FT 12 20 (.array .int) true := ⟨RX12, TX12, 30, rfl, tX12_ok 20 (by decide), rfl⟩
theorem ft_12_21 : FT 12 21 (.array .int) true := ⟨RX12, TX12, 30, rfl, tX12_ok 21 (by decide), rfl⟩
theorem ft_12_22 : FT 12 22 (.array .int) true := ⟨RX12, TX12, 30, rfl, tX12_ok 22 (by decide), rfl⟩
theorem ft_12_24 : FT 12 24 (.array .int) true := ⟨RX12, TX12, 30, rfl, tX12_ok 24 (by decide), rfl⟩
theorem ft_12_25 : FT 12 25 (.array .int) true := ⟨RX12, TX12, 30, rfl, tX12_ok 25 (by decide), rfl⟩
theorem ft_12_26 : FT 12 26 (.array .int) true := ⟨RX12, TX12, 30, rfl, tX12_ok 26 (by decide), rfl⟩
theorem ft_12_28 : FT 12 28 (.array .int) true := ⟨RX12, TX12, 30, rfl, tX12_ok 28 (by decide), rfl⟩
theorem ft_12_29 : FT 12 29 (.array .int) true := ⟨RX12, TX12, 30, rfl, tX12_ok 29 (by decide), rfl⟩
theorem ft_12_3 : FT 12 3 (.array .int) true := ⟨RX12, TX12, 30, rfl, tX12_ok 3 (by decide), rfl⟩
theorem ft_12_4 : FT 12 4 (.array .int) true := ⟨RX12, TX12, 30, rfl, tX12_ok 4 (by decide), rfl⟩
theorem ft_12_6 : FT 12 6 (.array .int) true := ⟨RX12, TX12, 30, rfl, tX12_ok 6 (by decide), rfl⟩
theorem ft_12_8 : FT 12 8 (.array .int) true := ⟨RX12, TX12, 30, rfl, tX12_ok 8 (by decide), rfl⟩
theorem ft_1_5 : FT 1 5 (.array .int) true := ⟨RX1, TX1, 10, rfl, tX1_ok 5 (by decide), rfl⟩
theorem ft_1_6 : FT 1 6 (.object "TakenNumbers$Sayings") true := ⟨RX1, TX1, 10, rfl, tX1_ok 6 (by decide), rfl⟩
theorem ft_1_7 : FT 1 7 (.array .int) true := ⟨RX1, TX1, 10, rfl, tX1_ok 7 (by decide), rfl⟩
theorem ft_1_8 : FT 1 8 (.array .int) true := ⟨RX1, TX1, 10, rfl, tX1_ok 8 (by decide), rfl⟩
theorem ft_1_9 : FT 1 9 (.array .int) true := ⟨RX1, TX1, 10, rfl, tX1_ok 9 (by decide), rfl⟩
theorem ft_2_0 : FT 2 0 (.array .int) true := ⟨RX2, TX2, 5, rfl, tX2_ok 0 (by decide), rfl⟩
theorem ft_2_1 : FT 2 1 (.array .int) true := ⟨RX2, TX2, 5, rfl, tX2_ok 1 (by decide), rfl⟩
theorem ft_3_1 : FT 3 1 (.array (.object "TakenNumbers$Day")) true := ⟨RX3, TX3, 2, rfl, tX3_ok 1 (by decide), rfl⟩
theorem ft_4_5 : FT 4 5 (.array .int) true := ⟨RX4, TX4, 8, rfl, tX4_ok 5 (by decide), rfl⟩
theorem ft_4_6 : FT 4 6 (.array .int) true := ⟨RX4, TX4, 8, rfl, tX4_ok 6 (by decide), rfl⟩
theorem ft_4_7 : FT 4 7 (.array .int) true := ⟨RX4, TX4, 8, rfl, tX4_ok 7 (by decide), rfl⟩
theorem ft_5_0 : FT 5 0 (.object "TakenNumbers$Table") true := ⟨RX5, TX5, 9, rfl, tX5_ok 0 (by decide), rfl⟩
theorem ft_5_1 : FT 5 1 (.array .int) true := ⟨RX5, TX5, 9, rfl, tX5_ok 1 (by decide), rfl⟩
theorem ft_5_2 : FT 5 2 (.array .int) true := ⟨RX5, TX5, 9, rfl, tX5_ok 2 (by decide), rfl⟩
theorem ft_5_3 : FT 5 3 (.array .int) true := ⟨RX5, TX5, 9, rfl, tX5_ok 3 (by decide), rfl⟩
theorem ft_5_4 : FT 5 4 (.array .int) true := ⟨RX5, TX5, 9, rfl, tX5_ok 4 (by decide), rfl⟩
theorem ft_5_5 : FT 5 5 (.array .int) true := ⟨RX5, TX5, 9, rfl, tX5_ok 5 (by decide), rfl⟩
theorem ft_5_6 : FT 5 6 (.array .int) true := ⟨RX5, TX5, 9, rfl, tX5_ok 6 (by decide), rfl⟩
theorem ft_5_7 : FT 5 7 (.array .int) true := ⟨RX5, TX5, 9, rfl, tX5_ok 7 (by decide), rfl⟩
theorem ft_6_5 : FT 6 5 (.array .int) true := ⟨RX6, TX6, 7, rfl, tX6_ok 5 (by decide), rfl⟩
theorem ft_6_6 : FT 6 6 (.array .int) true := ⟨RX6, TX6, 7, rfl, tX6_ok 6 (by decide), rfl⟩
theorem ft_7_4 : FT 7 4 (.array .int) true := ⟨RX7, TX7, 12, rfl, tX7_ok 4 (by decide), rfl⟩
theorem ft_7_5 : FT 7 5 (.array .int) true := ⟨RX7, TX7, 12, rfl, tX7_ok 5 (by decide), rfl⟩
theorem ft_7_6 : FT 7 6 (.array .int) true := ⟨RX7, TX7, 12, rfl, tX7_ok 6 (by decide), rfl⟩
theorem ft_7_7 : FT 7 7 (.array .int) true := ⟨RX7, TX7, 12, rfl, tX7_ok 7 (by decide), rfl⟩
theorem ft_7_8 : FT 7 8 (.array .int) true := ⟨RX7, TX7, 12, rfl, tX7_ok 8 (by decide), rfl⟩
theorem ft_8_1 : FT 8 1 (.array .char) true := ⟨RX8, TX8, 5, rfl, tX8_ok 1 (by decide), rfl⟩
theorem ft_8_2 : FT 8 2 (.array .int) true := ⟨RX8, TX8, 5, rfl, tX8_ok 2 (by decide), rfl⟩
theorem lc_X0_init : LC yX0_init bX0_init 1 none 0 := ⟨mt (i := 221) (by first | rfl | decide +kernel) (by decide +kernel), mt (i := 59) (by decide +kernel) (by decide +kernel), ⟨by decide +kernel, by decide +kernel, by decide +kernel⟩, by decide⟩
theorem lc_X10_init : LC yX10_init bX10_init 1 none 0 := ⟨mt (i := 204) (by first | rfl | decide +kernel) (by decide +kernel), mt (i := 58) (by decide +kernel) (by decide +kernel), ⟨by decide +kernel, by decide +kernel, by decide +kernel⟩, by decide⟩
theorem lc_X1_init : LC yX1_init bX1_init 2 none 1 := ⟨mt (i := 382) (by first | rfl | decide +kernel) (by decide +kernel), mt (i := 64) (by decide +kernel) (by decide +kernel), ⟨by decide +kernel, by decide +kernel, by decide +kernel⟩, by decide⟩
theorem lc_X2_init : LC yX2_init bX2_init 1 none 0 := ⟨mt (i := 155) (by first | rfl | decide +kernel) (by decide +kernel), mt (i := 55) (by decide +kernel) (by decide +kernel), ⟨by decide +kernel, by decide +kernel, by decide +kernel⟩, by decide⟩
theorem lc_X3_init : LC yX3_init bX3_init 3 none 1 := ⟨mt (i := 184) (by first | rfl | decide +kernel) (by decide +kernel), mt (i := 56) (by decide +kernel) (by decide +kernel), ⟨by decide +kernel, by decide +kernel, by decide +kernel⟩, by decide⟩
theorem lc_X4_init : LC yX4_init bX4_init 1 none 0 := ⟨mt (i := 109) (by first | rfl | decide +kernel) (by decide +kernel), mt (i := 54) (by decide +kernel) (by decide +kernel), ⟨by decide +kernel, by decide +kernel, by decide +kernel⟩, by decide⟩
theorem lc_X5_init : LC yX5_init bX5_init 1 none 0 := ⟨mt (i := 264) (by first | rfl | decide +kernel) (by decide +kernel), mt (i := 61) (by decide +kernel) (by decide +kernel), ⟨by decide +kernel, by decide +kernel, by decide +kernel⟩, by decide⟩
theorem lc_X6_init : LC yX6_init bX6_init 1 none 0 := ⟨mt (i := 345) (by first | rfl | decide +kernel) (by decide +kernel), mt (i := 63) (by decide +kernel) (by decide +kernel), ⟨by decide +kernel, by decide +kernel, by decide +kernel⟩, by decide⟩
theorem lc_X7_init : LC yX7_init bX7_init 1 none 0 := ⟨mt (i := 270) (by first | rfl | decide +kernel) (by decide +kernel), mt (i := 62) (by decide +kernel) (by decide +kernel), ⟨by decide +kernel, by decide +kernel, by decide +kernel⟩, by decide⟩
theorem lc_X8_init : LC yX8_init bX8_init 1 none 0 := ⟨mt (i := 84) (by first | rfl | decide +kernel) (by decide +kernel), mt (i := 53) (by decide +kernel) (by decide +kernel), ⟨by decide +kernel, by decide +kernel, by decide +kernel⟩, by decide⟩
theorem lc_X9_init : LC yX9_init bX9_init 1 none 0 := ⟨mt (i := 248) (by first | rfl | decide +kernel) (by decide +kernel), mt (i := 60) (by decide +kernel) (by decide +kernel), ⟨by decide +kernel, by decide +kernel, by decide +kernel⟩, by decide⟩
theorem li_X11_18 : LIN RX11 18 yX4_init := ⟨List.mem_of_getElem? (i := 107) (by decide +kernel), mt (i := 108) (by decide +kernel) (by decide +kernel), rfl⟩
theorem li_X11_28 : LIN RX11 28 yX2_init := ⟨List.mem_of_getElem? (i := 153) (by decide +kernel), mt (i := 154) (by decide +kernel) (by decide +kernel), rfl⟩
theorem li_X11_35 : LI RX11 35 yX3_init := ⟨mt (i := 182) (by decide +kernel) (by decide +kernel), mt (i := 183) (by decide +kernel) (by decide +kernel), rfl⟩
theorem li_X11_47 : LIN RX11 47 yX10_init := ⟨List.mem_of_getElem? (i := 202) (by decide +kernel), mt (i := 203) (by decide +kernel) (by decide +kernel), rfl⟩
theorem li_X11_54 : LIN RX11 54 yX0_init := ⟨List.mem_of_getElem? (i := 219) (by decide +kernel), mt (i := 220) (by decide +kernel) (by decide +kernel), rfl⟩
theorem li_X11_61 : LIN RX11 61 yX9_init := ⟨List.mem_of_getElem? (i := 246) (by decide +kernel), mt (i := 247) (by decide +kernel) (by decide +kernel), rfl⟩
theorem li_X11_68 : LIN RX11 68 yX5_init := ⟨List.mem_of_getElem? (i := 262) (by decide +kernel), mt (i := 263) (by decide +kernel) (by decide +kernel), rfl⟩
theorem li_X11_75 : LIN RX11 75 yX6_init := ⟨List.mem_of_getElem? (i := 343) (by decide +kernel), mt (i := 344) (by decide +kernel) (by decide +kernel), rfl⟩
theorem li_X11_82 : LI RX11 82 yX1_init := ⟨mt (i := 380) (by decide +kernel) (by decide +kernel), mt (i := 381) (by decide +kernel) (by decide +kernel), rfl⟩
theorem li_X11_9 : LIN RX11 9 yX8_init := ⟨List.mem_of_getElem? (i := 82) (by decide +kernel), mt (i := 83) (by decide +kernel) (by decide +kernel), rfl⟩
theorem li_X3_21 : LIN RX3 21 yX2_init := ⟨List.mem_of_getElem? (i := 191) (by decide +kernel), mt (i := 154) (by decide +kernel) (by decide +kernel), rfl⟩
theorem li_X5_13 : LIN RX5 13 yX7_init := ⟨List.mem_of_getElem? (i := 268) (by decide +kernel), mt (i := 269) (by decide +kernel) (by decide +kernel), rfl⟩
theorem lm_X3_7 : Cond.methodLink RX3 7 Lib.Math.max.name ∈ TT := mt (i := 186) (by decide +kernel) (by decide +kernel)
theorem ln_X11_16 : LN RX11 16 RX4 8 := ⟨mt (i := 105) (by decide +kernel) (by decide +kernel), mt (i := 106) (by decide +kernel) (by decide +kernel), mt (i := 54) (by decide +kernel) (by decide +kernel)⟩
theorem ln_X11_26 : LN RX11 26 RX2 5 := ⟨mt (i := 151) (by decide +kernel) (by decide +kernel), mt (i := 152) (by decide +kernel) (by decide +kernel), mt (i := 55) (by decide +kernel) (by decide +kernel)⟩
theorem ln_X11_33 : LN RX11 33 RX3 2 := ⟨mt (i := 180) (by decide +kernel) (by decide +kernel), mt (i := 181) (by decide +kernel) (by decide +kernel), mt (i := 56) (by decide +kernel) (by decide +kernel)⟩
theorem ln_X11_45 : LN RX11 45 RX10 3 := ⟨mt (i := 200) (by decide +kernel) (by decide +kernel), mt (i := 201) (by decide +kernel) (by decide +kernel), mt (i := 58) (by decide +kernel) (by decide +kernel)⟩
theorem ln_X11_52 : LN RX11 52 RX0 6 := ⟨mt (i := 217) (by decide +kernel) (by decide +kernel), mt (i := 218) (by decide +kernel) (by decide +kernel), mt (i := 59) (by decide +kernel) (by decide +kernel)⟩
theorem ln_X11_59 : LN RX11 59 RX9 3 := ⟨mt (i := 244) (by decide +kernel) (by decide +kernel), mt (i := 245) (by decide +kernel) (by decide +kernel), mt (i := 60) (by decide +kernel) (by decide +kernel)⟩
theorem ln_X11_66 : LN RX11 66 RX5 9 := ⟨mt (i := 260) (by decide +kernel) (by decide +kernel), mt (i := 261) (by decide +kernel) (by decide +kernel), mt (i := 61) (by decide +kernel) (by decide +kernel)⟩
theorem ln_X11_7 : LN RX11 7 RX8 5 := ⟨mt (i := 80) (by decide +kernel) (by decide +kernel), mt (i := 81) (by decide +kernel) (by decide +kernel), mt (i := 53) (by decide +kernel) (by decide +kernel)⟩
theorem ln_X11_73 : LN RX11 73 RX6 7 := ⟨mt (i := 341) (by decide +kernel) (by decide +kernel), mt (i := 342) (by decide +kernel) (by decide +kernel), mt (i := 63) (by decide +kernel) (by decide +kernel)⟩
theorem ln_X11_80 : LN RX11 80 RX1 10 := ⟨mt (i := 378) (by decide +kernel) (by decide +kernel), mt (i := 379) (by decide +kernel) (by decide +kernel), mt (i := 64) (by decide +kernel) (by decide +kernel)⟩
theorem ln_X3_13 : LN RX3 13 RX2 5 := ⟨mt (i := 189) (by decide +kernel) (by decide +kernel), mt (i := 152) (by decide +kernel) (by decide +kernel), mt (i := 55) (by decide +kernel) (by decide +kernel)⟩
theorem ln_X5_11 : LN RX5 11 RX7 12 := ⟨mt (i := 266) (by decide +kernel) (by decide +kernel), mt (i := 267) (by decide +kernel) (by decide +kernel), mt (i := 62) (by decide +kernel) (by decide +kernel)⟩
theorem lo_X0_3 : Cond.methodLink RX0 3 Lib.objectInit ∈ TT := mt (i := 222) (by decide +kernel) (by decide +kernel)
theorem lo_X10_3 : Cond.methodLink RX10 3 Lib.objectInit ∈ TT := mt (i := 205) (by decide +kernel) (by decide +kernel)
theorem lo_X11_1 : Cond.methodLink RX11 1 Lib.objectInit ∈ TT := mt (i := 77) (by decide +kernel) (by decide +kernel)
theorem lo_X12_7 : Cond.methodLink RX12 7 Lib.objectInit ∈ TT := mt (i := 994) (by decide +kernel) (by decide +kernel)
theorem lo_X1_3 : Cond.methodLink RX1 3 Lib.objectInit ∈ TT := mt (i := 383) (by decide +kernel) (by decide +kernel)
theorem lo_X2_3 : Cond.methodLink RX2 3 Lib.objectInit ∈ TT := mt (i := 156) (by decide +kernel) (by decide +kernel)
theorem lo_X3_1 : Cond.methodLink RX3 1 Lib.objectInit ∈ TT := mt (i := 185) (by decide +kernel) (by decide +kernel)
theorem lo_X4_3 : Cond.methodLink RX4 3 Lib.objectInit ∈ TT := mt (i := 110) (by decide +kernel) (by decide +kernel)
theorem lo_X5_5 : Cond.methodLink RX5 5 Lib.objectInit ∈ TT := mt (i := 265) (by decide +kernel) (by decide +kernel)
theorem lo_X6_3 : Cond.methodLink RX6 3 Lib.objectInit ∈ TT := mt (i := 346) (by decide +kernel) (by decide +kernel)
theorem lo_X7_3 : Cond.methodLink RX7 3 Lib.objectInit ∈ TT := mt (i := 271) (by decide +kernel) (by decide +kernel)
theorem lo_X8_3 : Cond.methodLink RX8 3 Lib.objectInit ∈ TT := mt (i := 85) (by decide +kernel) (by decide +kernel)
theorem lo_X9_3 : Cond.methodLink RX9 3 Lib.objectInit ∈ TT := mt (i := 249) (by decide +kernel) (by decide +kernel)
theorem la_int : Cond.arrayClass .int ∈ TT := mt (i := 104) (by decide +kernel) (by decide +kernel)
theorem la_char : Cond.arrayClass .char ∈ TT := mt (i := 103) (by decide +kernel) (by decide +kernel)
theorem la_over : Cond.arrayOver (.object RX2) ∈ lw_tbl := List.mem_of_getElem? (i := 190) (by decide +kernel)
theorem cE_ni {G : GG} {h : Hp} {a N : Nat} (hk : kd a = 13 ∨ kd a = 16) (hl : ln a = N) : cE G (sz h a) a = .inl (G.2.1, N, .inl (fun _ => 0)) := by
  rw [cE_i G _ hk, hl]
  simp [sz]
theorem cE_nc {G : GG} {h : Hp} {a N : Nat} (hk : kd a = 14) (hl : ln a = N) : cE G (sz h a) a = .inl (G.2.2.1, N, .inl (fun _ => 0)) := by
  rw [cE_c G _ hk, hl]
  simp [sz]
theorem dX0_init_0 : decode bX0_init 0 = .ok (.aload_n 0, 1) := by decide +kernel
theorem dX0_init_1 : decode bX0_init 1 = .ok (.invokespecial 3, 3) := by decide +kernel
theorem dX0_init_4 : decode bX0_init 4 = .ok (.aload_n 0, 1) := by decide +kernel
theorem dX0_init_5 : decode bX0_init 5 = .ok (.bipush 6, 2) := by decide +kernel
theorem dX0_init_7 : decode bX0_init 7 = .ok (.newarray .int, 2) := by decide +kernel
theorem dX0_init_9 : decode bX0_init 9 = .ok (.putfield 9, 3) := by decide +kernel
theorem dX0_init_12 : decode bX0_init 12 = .ok (.aload_n 0, 1) := by decide +kernel
theorem dX0_init_13 : decode bX0_init 13 = .ok (.bipush 6, 2) := by decide +kernel
theorem dX0_init_15 : decode bX0_init 15 = .ok (.newarray .int, 2) := by decide +kernel
theorem dX0_init_17 : decode bX0_init 17 = .ok (.putfield 15, 3) := by decide +kernel
theorem dX0_init_20 : decode bX0_init 20 = .ok (.aload_n 0, 1) := by decide +kernel
theorem dX0_init_21 : decode bX0_init 21 = .ok (.bipush 6, 2) := by decide +kernel
theorem dX0_init_23 : decode bX0_init 23 = .ok (.newarray .int, 2) := by decide +kernel
theorem dX0_init_25 : decode bX0_init 25 = .ok (.putfield 18, 3) := by decide +kernel
theorem dX0_init_28 : decode bX0_init 28 = .ok (.aload_n 0, 1) := by decide +kernel
theorem dX0_init_29 : decode bX0_init 29 = .ok (.bipush 6, 2) := by decide +kernel
theorem dX0_init_31 : decode bX0_init 31 = .ok (.newarray .int, 2) := by decide +kernel
theorem dX0_init_33 : decode bX0_init 33 = .ok (.putfield 21, 3) := by decide +kernel
theorem dX0_init_36 : decode bX0_init 36 = .ok (.return_, 1) := by decide +kernel
def f_X0_init (n : Nat) (h : Hp) (x0 : Nat) : Option (Unit × Hp) :=
  gd (kd x0 = 0) <|
  gd (kd (n + 1) = 13) <|
  gd (ln (n + 1) = 6) <|
  lt (sz h (n + 1)) <| fun h3 =>
  lt (sr h3 x0 2 (n + 1)) <| fun h5 =>
  gd (kd (n + 2) = 13) <|
  gd (ln (n + 2) = 6) <|
  lt (sz h5 (n + 2)) <| fun h9 =>
  lt (sr h9 x0 3 (n + 2)) <| fun h11 =>
  gd (kd (n + 3) = 13) <|
  gd (ln (n + 3) = 6) <|
  lt (sz h11 (n + 3)) <| fun h15 =>
  lt (sr h15 x0 4 (n + 3)) <| fun h17 =>
  gd (kd (n + 4) = 13) <|
  gd (ln (n + 4) = 6) <|
  lt (sz h17 (n + 4)) <| fun h21 =>
  lt (sr h21 x0 5 (n + 4)) <| fun h23 =>
  some ((), h23)
section
variable {p : Program} {l : Launch} {e : Env} {s : State} {m : MethodId} {args : Array Value} {below : List Frame} {meth : Method} {c : Code} {G : GG} {n : Nat} {h' : Hp} {rv : Unit}
set_option maxHeartbeats 4000000
set_option maxRecDepth 100000
theorem k_X0_init (l : Launch) (G : GG) (n : Nat) {h h' : Hp} {x0 : Nat} {rv : Unit} (b0 : 1 ≤ x0 ∧ x0 ≤ n) (hf : f_X0_init n h x0 = some (rv, h')) : CT l G n (n + 4) yX0_init (.code yX0_init bX0_init 1 none) 1 4 24 [.ref (bs G + x0)] h h' none := by
  refine ct_of (maxL := 1) (ret := none) (bytes := bX0_init) (by decide) (Nat.le_of_ble_eq_true rfl) (fun p e s m below meth c C0 X ls hl => ?_)
  have hl : lv_has ls 1 [(0, .ref (bs G + x0))] := hl
  obtain ⟨hx, hb, hr, hml, hown, hts, hK, hlocks, hnm⟩ := id C0
  unfold f_X0_init at hf
  obtain ⟨o0, hf⟩ := gd_e hf
  refine lv_aload_n hx hb dX0_init_0 rfl (lv_at hl 0 rfl) ?_
  refine n_obj hx hb (hml.trans hl.1.symm) hown hts lo_X0_3 (by decide) (Nat.le_of_ble_eq_true rfl) dX0_init_1 ?_
  refine lv_aload_n hx hb dX0_init_4 rfl (lv_at hl 0 rfl) ?_
  refine lv_bipush (v := (6 : Int32)) hx hb dX0_init_5 (by decide) ?_
  obtain ⟨g1, hf⟩ := gd_e hf
  obtain ⟨g2, hf⟩ := gd_e hf
  refine n_arr (at0 := .int) (ty := .int) (t0 := 0) (cA0 := G.2.1) (N := 6) (cells1 := 1) (slots1 := 6) (n1 := (n + 1)) hx hb hts hK X rfl rfl (fun _ _ z => z) la_int rfl (cE_ni (Or.inl g1) g2) (by decide) (by decide) (by decide) rfl rfl rfl (by decide) (by decide) dX0_init_7 (fun H X => ?_)
  obtain ⟨h3, e4, hf⟩ := lt_e hf
  rw [← e4] at X
  refine g_PFa hx hb hts hown hK X o0 (by omega) (by omega) fl_X0_9 ft_0_2 (by decide) rfl hnm fo_0_2 (fun _ => rfl) (fun _ => rfl) dX0_init_9 (fun H locs X => ?_)
  obtain ⟨h5, e6, hf⟩ := lt_e hf
  rw [← e6] at X
  refine lv_aload_n hx hb dX0_init_12 rfl (lv_at hl 0 rfl) ?_
  refine lv_bipush (v := (6 : Int32)) hx hb dX0_init_13 (by decide) ?_
  obtain ⟨g7, hf⟩ := gd_e hf
  obtain ⟨g8, hf⟩ := gd_e hf
  refine n_arr (at0 := .int) (ty := .int) (t0 := 0) (cA0 := G.2.1) (N := 6) (cells1 := 2) (slots1 := 12) (n1 := (n + 2)) hx hb hts hK X rfl rfl (fun _ _ z => z) la_int rfl (cE_ni (Or.inl g7) g8) (by decide) (by decide) (by decide) rfl rfl rfl (by decide) (by decide) dX0_init_15 (fun H X => ?_)
  obtain ⟨h9, e10, hf⟩ := lt_e hf
  rw [← e10] at X
  refine g_PFa hx hb hts hown hK X o0 (by omega) (by omega) fl_X0_15 ft_0_3 (by decide) rfl hnm fo_0_3 (fun _ => rfl) (fun _ => rfl) dX0_init_17 (fun H locs X => ?_)
  obtain ⟨h11, e12, hf⟩ := lt_e hf
  rw [← e12] at X
  refine lv_aload_n hx hb dX0_init_20 rfl (lv_at hl 0 rfl) ?_
  refine lv_bipush (v := (6 : Int32)) hx hb dX0_init_21 (by decide) ?_
  obtain ⟨g13, hf⟩ := gd_e hf
  obtain ⟨g14, hf⟩ := gd_e hf
  refine n_arr (at0 := .int) (ty := .int) (t0 := 0) (cA0 := G.2.1) (N := 6) (cells1 := 3) (slots1 := 18) (n1 := (n + 3)) hx hb hts hK X rfl rfl (fun _ _ z => z) la_int rfl (cE_ni (Or.inl g13) g14) (by decide) (by decide) (by decide) rfl rfl rfl (by decide) (by decide) dX0_init_23 (fun H X => ?_)
  obtain ⟨h15, e16, hf⟩ := lt_e hf
  rw [← e16] at X
  refine g_PFa hx hb hts hown hK X o0 (by omega) (by omega) fl_X0_18 ft_0_4 (by decide) rfl hnm fo_0_4 (fun _ => rfl) (fun _ => rfl) dX0_init_25 (fun H locs X => ?_)
  obtain ⟨h17, e18, hf⟩ := lt_e hf
  rw [← e18] at X
  refine lv_aload_n hx hb dX0_init_28 rfl (lv_at hl 0 rfl) ?_
  refine lv_bipush (v := (6 : Int32)) hx hb dX0_init_29 (by decide) ?_
  obtain ⟨g19, hf⟩ := gd_e hf
  obtain ⟨g20, hf⟩ := gd_e hf
  refine n_arr (at0 := .int) (ty := .int) (t0 := 0) (cA0 := G.2.1) (N := 6) (cells1 := 4) (slots1 := 24) (n1 := (n + 4)) hx hb hts hK X rfl rfl (fun _ _ z => z) la_int rfl (cE_ni (Or.inl g19) g20) (by decide) (by decide) (by decide) rfl rfl rfl (by decide) (by decide) dX0_init_31 (fun H X => ?_)
  obtain ⟨h21, e22, hf⟩ := lt_e hf
  rw [← e22] at X
  refine g_PFa hx hb hts hown hK X o0 (by omega) (by omega) fl_X0_21 ft_0_5 (by decide) rfl hnm fo_0_5 (fun _ => rfl) (fun _ => rfl) dX0_init_33 (fun H locs X => ?_)
  obtain ⟨h23, e24, hf⟩ := lt_e hf
  rw [← e24] at X
  exact r_V hx hb hr hlocks X hf dX0_init_36
end
theorem dX1_init_0 : decode bX1_init 0 = .ok (.aload_n 0, 1) := by decide +kernel
theorem dX1_init_1 : decode bX1_init 1 = .ok (.invokespecial 3, 3) := by decide +kernel
theorem dX1_init_4 : decode bX1_init 4 = .ok (.aload_n 0, 1) := by decide +kernel
theorem dX1_init_5 : decode bX1_init 5 = .ok (.bipush 6, 2) := by decide +kernel
theorem dX1_init_7 : decode bX1_init 7 = .ok (.newarray .int, 2) := by decide +kernel
theorem dX1_init_9 : decode bX1_init 9 = .ok (.putfield 9, 3) := by decide +kernel
theorem dX1_init_12 : decode bX1_init 12 = .ok (.aload_n 0, 1) := by decide +kernel
theorem dX1_init_13 : decode bX1_init 13 = .ok (.bipush 100, 2) := by decide +kernel
theorem dX1_init_15 : decode bX1_init 15 = .ok (.newarray .int, 2) := by decide +kernel
theorem dX1_init_17 : decode bX1_init 17 = .ok (.putfield 15, 3) := by decide +kernel
theorem dX1_init_20 : decode bX1_init 20 = .ok (.aload_n 0, 1) := by decide +kernel
theorem dX1_init_21 : decode bX1_init 21 = .ok (.bipush 6, 2) := by decide +kernel
theorem dX1_init_23 : decode bX1_init 23 = .ok (.newarray .int, 2) := by decide +kernel
theorem dX1_init_25 : decode bX1_init 25 = .ok (.putfield 18, 3) := by decide +kernel
theorem dX1_init_28 : decode bX1_init 28 = .ok (.aload_n 0, 1) := by decide +kernel
theorem dX1_init_29 : decode bX1_init 29 = .ok (.bipush 36, 2) := by decide +kernel
theorem dX1_init_31 : decode bX1_init 31 = .ok (.newarray .int, 2) := by decide +kernel
theorem dX1_init_33 : decode bX1_init 33 = .ok (.putfield 21, 3) := by decide +kernel
theorem dX1_init_36 : decode bX1_init 36 = .ok (.aload_n 0, 1) := by decide +kernel
theorem dX1_init_37 : decode bX1_init 37 = .ok (.aload_n 1, 1) := by decide +kernel
theorem dX1_init_38 : decode bX1_init 38 = .ok (.putfield 24, 3) := by decide +kernel
theorem dX1_init_41 : decode bX1_init 41 = .ok (.return_, 1) := by decide +kernel
def f_X1_init (n : Nat) (h : Hp) (x0 : Nat) (x1 : Nat) : Option (Unit × Hp) :=
  gd (kd x0 = 1) <|
  gd (kd x1 = 5) <|
  gd (kd (n + 1) = 13) <|
  gd (ln (n + 1) = 6) <|
  lt (sz h (n + 1)) <| fun h3 =>
  lt (sr h3 x0 5 (n + 1)) <| fun h5 =>
  gd (kd (n + 2) = 13) <|
  gd (ln (n + 2) = 100) <|
  lt (sz h5 (n + 2)) <| fun h9 =>
  lt (sr h9 x0 7 (n + 2)) <| fun h11 =>
  gd (kd (n + 3) = 13) <|
  gd (ln (n + 3) = 6) <|
  lt (sz h11 (n + 3)) <| fun h15 =>
  lt (sr h15 x0 8 (n + 3)) <| fun h17 =>
  gd (kd (n + 4) = 13) <|
  gd (ln (n + 4) = 36) <|
  lt (sz h17 (n + 4)) <| fun h21 =>
  lt (sr h21 x0 9 (n + 4)) <| fun h23 =>
  lt (sr h23 x0 6 x1) <| fun h25 =>
  some ((), h25)
section
variable {p : Program} {l : Launch} {e : Env} {s : State} {m : MethodId} {args : Array Value} {below : List Frame} {meth : Method} {c : Code} {G : GG} {n : Nat} {h' : Hp} {rv : Unit}
set_option maxHeartbeats 4000000
set_option maxRecDepth 100000
theorem k_X1_init (l : Launch) (G : GG) (n : Nat) {h h' : Hp} {x0 : Nat} {x1 : Nat} {rv : Unit} (b0 : 1 ≤ x0 ∧ x0 ≤ n) (b1 : 1 ≤ x1 ∧ x1 ≤ n) (hf : f_X1_init n h x0 x1 = some (rv, h')) : CT l G n (n + 4) yX1_init (.code yX1_init bX1_init 2 none) 1 4 148 [.ref (bs G + x0), .ref (bs G + x1)] h h' none := by
  refine ct_of (maxL := 2) (ret := none) (bytes := bX1_init) (by decide) (Nat.le_of_ble_eq_true rfl) (fun p e s m below meth c C0 X ls hl => ?_)
  have hl : lv_has ls 2 [(0, .ref (bs G + x0)), (1, .ref (bs G + x1))] := hl
  obtain ⟨hx, hb, hr, hml, hown, hts, hK, hlocks, hnm⟩ := id C0
  unfold f_X1_init at hf
  obtain ⟨o0, hf⟩ := gd_e hf
  obtain ⟨o1, hf⟩ := gd_e hf
  refine lv_aload_n hx hb dX1_init_0 rfl (lv_at hl 0 rfl) ?_
  refine n_obj hx hb (hml.trans hl.1.symm) hown hts lo_X1_3 (by decide) (Nat.le_of_ble_eq_true rfl) dX1_init_1 ?_
  refine lv_aload_n hx hb dX1_init_4 rfl (lv_at hl 0 rfl) ?_
  refine lv_bipush (v := (6 : Int32)) hx hb dX1_init_5 (by decide) ?_
  obtain ⟨g1, hf⟩ := gd_e hf
  obtain ⟨g2, hf⟩ := gd_e hf
  refine n_arr (at0 := .int) (ty := .int) (t0 := 0) (cA0 := G.2.1) (N := 6) (cells1 := 1) (slots1 := 6) (n1 := (n + 1)) hx hb hts hK X rfl rfl (fun _ _ z => z) la_int rfl (cE_ni (Or.inl g1) g2) (by decide) (by decide) (by decide) rfl rfl rfl (by decide) (by decide) dX1_init_7 (fun H X => ?_)
  obtain ⟨h3, e4, hf⟩ := lt_e hf
  rw [← e4] at X
  refine g_PFa hx hb hts hown hK X o0 (by omega) (by omega) fl_X1_9 ft_1_5 (by decide) rfl hnm fo_1_5 (fun _ => rfl) (fun _ => rfl) dX1_init_9 (fun H locs X => ?_)
  obtain ⟨h5, e6, hf⟩ := lt_e hf
  rw [← e6] at X
  refine lv_aload_n hx hb dX1_init_12 rfl (lv_at hl 0 rfl) ?_
  refine lv_bipush (v := (100 : Int32)) hx hb dX1_init_13 (by decide) ?_
  obtain ⟨g7, hf⟩ := gd_e hf
  obtain ⟨g8, hf⟩ := gd_e hf
  refine n_arr (at0 := .int) (ty := .int) (t0 := 0) (cA0 := G.2.1) (N := 100) (cells1 := 2) (slots1 := 106) (n1 := (n + 2)) hx hb hts hK X rfl rfl (fun _ _ z => z) la_int rfl (cE_ni (Or.inl g7) g8) (by decide) (by decide) (by decide) rfl rfl rfl (by decide) (by decide) dX1_init_15 (fun H X => ?_)
  obtain ⟨h9, e10, hf⟩ := lt_e hf
  rw [← e10] at X
  refine g_PFa hx hb hts hown hK X o0 (by omega) (by omega) fl_X1_15 ft_1_7 (by decide) rfl hnm fo_1_7 (fun _ => rfl) (fun _ => rfl) dX1_init_17 (fun H locs X => ?_)
  obtain ⟨h11, e12, hf⟩ := lt_e hf
  rw [← e12] at X
  refine lv_aload_n hx hb dX1_init_20 rfl (lv_at hl 0 rfl) ?_
  refine lv_bipush (v := (6 : Int32)) hx hb dX1_init_21 (by decide) ?_
  obtain ⟨g13, hf⟩ := gd_e hf
  obtain ⟨g14, hf⟩ := gd_e hf
  refine n_arr (at0 := .int) (ty := .int) (t0 := 0) (cA0 := G.2.1) (N := 6) (cells1 := 3) (slots1 := 112) (n1 := (n + 3)) hx hb hts hK X rfl rfl (fun _ _ z => z) la_int rfl (cE_ni (Or.inl g13) g14) (by decide) (by decide) (by decide) rfl rfl rfl (by decide) (by decide) dX1_init_23 (fun H X => ?_)
  obtain ⟨h15, e16, hf⟩ := lt_e hf
  rw [← e16] at X
  refine g_PFa hx hb hts hown hK X o0 (by omega) (by omega) fl_X1_18 ft_1_8 (by decide) rfl hnm fo_1_8 (fun _ => rfl) (fun _ => rfl) dX1_init_25 (fun H locs X => ?_)
  obtain ⟨h17, e18, hf⟩ := lt_e hf
  rw [← e18] at X
  refine lv_aload_n hx hb dX1_init_28 rfl (lv_at hl 0 rfl) ?_
  refine lv_bipush (v := (36 : Int32)) hx hb dX1_init_29 (by decide) ?_
  obtain ⟨g19, hf⟩ := gd_e hf
  obtain ⟨g20, hf⟩ := gd_e hf
  refine n_arr (at0 := .int) (ty := .int) (t0 := 0) (cA0 := G.2.1) (N := 36) (cells1 := 4) (slots1 := 148) (n1 := (n + 4)) hx hb hts hK X rfl rfl (fun _ _ z => z) la_int rfl (cE_ni (Or.inl g19) g20) (by decide) (by decide) (by decide) rfl rfl rfl (by decide) (by decide) dX1_init_31 (fun H X => ?_)
  obtain ⟨h21, e22, hf⟩ := lt_e hf
  rw [← e22] at X
  refine g_PFa hx hb hts hown hK X o0 (by omega) (by omega) fl_X1_21 ft_1_9 (by decide) rfl hnm fo_1_9 (fun _ => rfl) (fun _ => rfl) dX1_init_33 (fun H locs X => ?_)
  obtain ⟨h23, e24, hf⟩ := lt_e hf
  rw [← e24] at X
  refine lv_aload_n hx hb dX1_init_36 rfl (lv_at hl 0 rfl) ?_
  refine lv_aload_n hx hb dX1_init_37 rfl (lv_at hl 1 rfl) ?_
  refine g_PFa hx hb hts hown hK X o0 (by omega) (by omega) fl_X1_24 ft_1_6 (by decide) rfl hnm fo_1_6 (fun _ => rfl) (fun _ => rfl) dX1_init_38 (fun H locs X => ?_)
  obtain ⟨h25, e26, hf⟩ := lt_e hf
  rw [← e26] at X
  exact r_V hx hb hr hlocks X hf dX1_init_41
end
theorem dX2_init_0 : decode bX2_init 0 = .ok (.aload_n 0, 1) := by decide +kernel
theorem dX2_init_1 : decode bX2_init 1 = .ok (.invokespecial 3, 3) := by decide +kernel
theorem dX2_init_4 : decode bX2_init 4 = .ok (.aload_n 0, 1) := by decide +kernel
theorem dX2_init_5 : decode bX2_init 5 = .ok (.bipush 8, 2) := by decide +kernel
theorem dX2_init_7 : decode bX2_init 7 = .ok (.newarray .int, 2) := by decide +kernel
theorem dX2_init_9 : decode bX2_init 9 = .ok (.putfield 9, 3) := by decide +kernel
theorem dX2_init_12 : decode bX2_init 12 = .ok (.aload_n 0, 1) := by decide +kernel
theorem dX2_init_13 : decode bX2_init 13 = .ok (.bipush 6, 2) := by decide +kernel
theorem dX2_init_15 : decode bX2_init 15 = .ok (.newarray .int, 2) := by decide +kernel
theorem dX2_init_17 : decode bX2_init 17 = .ok (.putfield 15, 3) := by decide +kernel
theorem dX2_init_20 : decode bX2_init 20 = .ok (.return_, 1) := by decide +kernel
def f_X2_init (n : Nat) (h : Hp) (x0 : Nat) : Option (Unit × Hp) :=
  gd (kd x0 = 2) <|
  gd (kd (n + 1) = 13) <|
  gd (ln (n + 1) = 8) <|
  lt (sz h (n + 1)) <| fun h3 =>
  lt (sr h3 x0 0 (n + 1)) <| fun h5 =>
  gd (kd (n + 2) = 13) <|
  gd (ln (n + 2) = 6) <|
  lt (sz h5 (n + 2)) <| fun h9 =>
  lt (sr h9 x0 1 (n + 2)) <| fun h11 =>
  some ((), h11)
section
variable {p : Program} {l : Launch} {e : Env} {s : State} {m : MethodId} {args : Array Value} {below : List Frame} {meth : Method} {c : Code} {G : GG} {n : Nat} {h' : Hp} {rv : Unit}
set_option maxHeartbeats 4000000
set_option maxRecDepth 100000
theorem k_X2_init (l : Launch) (G : GG) (n : Nat) {h h' : Hp} {x0 : Nat} {rv : Unit} (b0 : 1 ≤ x0 ∧ x0 ≤ n) (hf : f_X2_init n h x0 = some (rv, h')) : CT l G n (n + 2) yX2_init (.code yX2_init bX2_init 1 none) 1 2 14 [.ref (bs G + x0)] h h' none := by
  refine ct_of (maxL := 1) (ret := none) (bytes := bX2_init) (by decide) (Nat.le_of_ble_eq_true rfl) (fun p e s m below meth c C0 X ls hl => ?_)
  have hl : lv_has ls 1 [(0, .ref (bs G + x0))] := hl
  obtain ⟨hx, hb, hr, hml, hown, hts, hK, hlocks, hnm⟩ := id C0
  unfold f_X2_init at hf
  obtain ⟨o0, hf⟩ := gd_e hf
  refine lv_aload_n hx hb dX2_init_0 rfl (lv_at hl 0 rfl) ?_
  refine n_obj hx hb (hml.trans hl.1.symm) hown hts lo_X2_3 (by decide) (Nat.le_of_ble_eq_true rfl) dX2_init_1 ?_
  refine lv_aload_n hx hb dX2_init_4 rfl (lv_at hl 0 rfl) ?_
  refine lv_bipush (v := (8 : Int32)) hx hb dX2_init_5 (by decide) ?_
  obtain ⟨g1, hf⟩ := gd_e hf
  obtain ⟨g2, hf⟩ := gd_e hf
  refine n_arr (at0 := .int) (ty := .int) (t0 := 0) (cA0 := G.2.1) (N := 8) (cells1 := 1) (slots1 := 8) (n1 := (n + 1)) hx hb hts hK X rfl rfl (fun _ _ z => z) la_int rfl (cE_ni (Or.inl g1) g2) (by decide) (by decide) (by decide) rfl rfl rfl (by decide) (by decide) dX2_init_7 (fun H X => ?_)
  obtain ⟨h3, e4, hf⟩ := lt_e hf
  rw [← e4] at X
  refine g_PFa hx hb hts hown hK X o0 (by omega) (by omega) fl_X2_9 ft_2_0 (by decide) rfl hnm fo_2_0 (fun _ => rfl) (fun _ => rfl) dX2_init_9 (fun H locs X => ?_)
  obtain ⟨h5, e6, hf⟩ := lt_e hf
  rw [← e6] at X
  refine lv_aload_n hx hb dX2_init_12 rfl (lv_at hl 0 rfl) ?_
  refine lv_bipush (v := (6 : Int32)) hx hb dX2_init_13 (by decide) ?_
  obtain ⟨g7, hf⟩ := gd_e hf
  obtain ⟨g8, hf⟩ := gd_e hf
  refine n_arr (at0 := .int) (ty := .int) (t0 := 0) (cA0 := G.2.1) (N := 6) (cells1 := 2) (slots1 := 14) (n1 := (n + 2)) hx hb hts hK X rfl rfl (fun _ _ z => z) la_int rfl (cE_ni (Or.inl g7) g8) (by decide) (by decide) (by decide) rfl rfl rfl (by decide) (by decide) dX2_init_15 (fun H X => ?_)
  obtain ⟨h9, e10, hf⟩ := lt_e hf
  rw [← e10] at X
  refine g_PFa hx hb hts hown hK X o0 (by omega) (by omega) fl_X2_15 ft_2_1 (by decide) rfl hnm fo_2_1 (fun _ => rfl) (fun _ => rfl) dX2_init_17 (fun H locs X => ?_)
  obtain ⟨h11, e12, hf⟩ := lt_e hf
  rw [← e12] at X
  exact r_V hx hb hr hlocks X hf dX2_init_20
end
theorem dX3_init_0 : decode bX3_init 0 = .ok (.aload_n 0, 1) := by decide +kernel
theorem dX3_init_1 : decode bX3_init 1 = .ok (.invokespecial 1, 3) := by decide +kernel
theorem dX3_init_4 : decode bX3_init 4 = .ok (.aload_n 0, 1) := by decide +kernel
theorem dX3_init_5 : decode bX3_init 5 = .ok (.iconst 1, 1) := by decide +kernel
theorem dX3_init_6 : decode bX3_init 6 = .ok (.iload_n 1, 1) := by decide +kernel
theorem dX3_init_7 : decode bX3_init 7 = .ok (.invokestatic 7, 3) := by decide +kernel
theorem dX3_init_10 : decode bX3_init 10 = .ok (.anewarray 13, 3) := by decide +kernel
theorem dX3_init_13 : decode bX3_init 13 = .ok (.putfield 15, 3) := by decide +kernel
theorem dX3_init_16 : decode bX3_init 16 = .ok (.iconst 0, 1) := by decide +kernel
theorem dX3_init_17 : decode bX3_init 17 = .ok (.istore_n 2, 1) := by decide +kernel
theorem dX3_init_18 : decode bX3_init 18 = .ok (.iload_n 2, 1) := by decide +kernel
theorem dX3_init_19 : decode bX3_init 19 = .ok (.aload_n 0, 1) := by decide +kernel
theorem dX3_init_20 : decode bX3_init 20 = .ok (.getfield 15, 3) := by decide +kernel
theorem dX3_init_23 : decode bX3_init 23 = .ok (.arraylength, 1) := by decide +kernel
theorem dX3_init_24 : decode bX3_init 24 = .ok (.if_icmp .ge 22, 3) := by decide +kernel
theorem dX3_init_27 : decode bX3_init 27 = .ok (.aload_n 0, 1) := by decide +kernel
theorem dX3_init_28 : decode bX3_init 28 = .ok (.getfield 15, 3) := by decide +kernel
theorem dX3_init_31 : decode bX3_init 31 = .ok (.iload_n 2, 1) := by decide +kernel
theorem dX3_init_32 : decode bX3_init 32 = .ok (.new 13, 3) := by decide +kernel
theorem dX3_init_35 : decode bX3_init 35 = .ok (.dup, 1) := by decide +kernel
theorem dX3_init_36 : decode bX3_init 36 = .ok (.invokespecial 21, 3) := by decide +kernel
theorem dX3_init_39 : decode bX3_init 39 = .ok (.aastore, 1) := by decide +kernel
theorem dX3_init_40 : decode bX3_init 40 = .ok (.iinc 2 1, 3) := by decide +kernel
theorem dX3_init_43 : decode bX3_init 43 = .ok (.goto (-25), 3) := by decide +kernel
theorem dX3_init_46 : decode bX3_init 46 = .ok (.return_, 1) := by decide +kernel
section
/-! DayStack(room): a row of days, and a day for each place -/
def f_X3_lp (n x0 : Nat) : Nat → Nat → Hp → Option (Unit × Hp)
  | 0 => fun _ h => gd (h.2 x0 1 = n + 1) <| some ((), h)
  | j + 1 => fun k h =>
    gd (h.2 x0 1 = n + 1) <|
    gd (kd (n + 1 + 3 * k + 1) = 2) <|
    lt (sz h (n + 1 + 3 * k + 1)) <| fun h1 =>
    bd (f_X2_init (n + 1 + 3 * k + 1) h1 (n + 1 + 3 * k + 1)) <| fun _ h2 =>
    lt (sr h2 (n + 1) (nI k).toNatClampNeg (n + 1 + 3 * k + 1)) <| fun h3 =>
    f_X3_lp n x0 j (k + 1) h3
def f_X3_init (rm n : Nat) (h : Hp) (x0 : Nat) (x1 : Int32) : Option (Unit × Hp) :=
  gd (kd x0 = 3) <|
  gd (x1 = nI rm ∧ 1 ≤ rm ∧ rm ≤ 8) <|
  gd (kd (n + 1) = 15) <|
  gd (ln (n + 1) = rm) <|
  lt (sz h (n + 1)) <| fun h1 =>
  lt (sr h1 x0 1 (n + 1)) <| fun h2 =>
  f_X3_lp n x0 rm 0 h2
set_option maxHeartbeats 4000000
set_option maxRecDepth 100000
section DS
variable {p : Program} {l : Launch} {e : Env} {s : State} {m : MethodId} {args : Array Value} {below : List Frame} {meth : Method} {c : Code} {G : GG} {n : Nat} {h' : Hp} {rv : Unit}
theorem j_X3_lp {rm x0 : Nat} (C0 : Cx p s m args meth c G bX3_init RX3 3 none "<init>") (b0 : 1 ≤ x0 ∧ x0 ≤ n) (o0 : kd x0 = 3) (oa : kd (n + 1) = 15) (ol : ln (n + 1) = rm) (hrm : rm ≤ 8) :
    ∀ (j k : Nat) {H : Heap} {locs : List Loc} {ls : Array Slot} {h : Hp}, k + j = rm → XW G (n + 1 + 3 * k) h s (1 + 3 * k) H locs → lv_has ls 3 [(0, .ref (bs G + x0)), (2, .int (nI k))] → f_X3_lp n x0 j k h = some (rv, h') →
      W p l e (rmC 2 (1 + 3 * rm) (rm + 19 * rm)) s m args below meth c H locs (1 + 3 * k) (rm + 19 * k) (MQ below (QP G (n + (1 + 3 * rm)) h' none) args s (1 + 3 * rm) (rm + 19 * rm) (Ab G)) (F0 m 18 ls []) := by
  obtain ⟨hx, hb, hr, hml, hown, hts, hK, hlocks, hnm⟩ := id C0
  intro j
  induction j with
  | zero =>
    intro k H locs ls h hk X hl hf
    rw [f_X3_lp] at hf
    obtain ⟨g1, hf⟩ := gd_e hf
    have hkr : k = rm := by omega
    subst hkr
    refine lv_iload_n hx hb dX3_init_18 rfl (lv_at hl 1 rfl) ?_
    refine lv_aload_n hx hb dX3_init_19 rfl (lv_at hl 0 rfl) ?_
    refine g_Ra (K := 15) hx hb hts hown hK X o0 (by omega) (by rw [g1]; exact oa) fl_X3_15 (by decide) rfl (by decide) dX3_init_20 ?_
    rw [g1]
    have he := wl_at G h (a := n + 1) (n := n + 1 + 3 * k) (by omega) (by omega)
    rw [cE_d G h oa] at he
    refine va_alen (ty := .object RX2) hx hb hK.1 X.1 (n + 1 - 1) 2 he rfl (v := nI k) (by show Int32.ofNat (ln (n + 1)) = _; rw [ol]; rfl) dX3_init_23 ?_
    refine lv_icmp_ge (tgt := 46) hx hb dX3_init_24 (by decide) (fun _ => ?_) (fun z => absurd (nI_le (Nat.le_refl k) (by omega)) z)
    have X2 : XW G (n + (1 + 3 * k)) h s (1 + 3 * k) H locs := by rw [← Nat.add_assoc]; exact X
    exact r_V hx hb hr hlocks X2 hf dX3_init_46
  | succ j ih =>
    intro k H locs ls h hk X hl hf
    rw [f_X3_lp] at hf
    obtain ⟨g1, hf⟩ := gd_e hf
    obtain ⟨g2, hf⟩ := gd_e hf
    obtain ⟨h1, e1, hf⟩ := lt_e hf
    obtain ⟨r2, h2, q2, hf⟩ := bd_e hf
    obtain ⟨h3, e3, hf⟩ := lt_e hf
    refine lv_iload_n hx hb dX3_init_18 rfl (lv_at hl 1 rfl) ?_
    refine lv_aload_n hx hb dX3_init_19 rfl (lv_at hl 0 rfl) ?_
    refine g_Ra (K := 15) hx hb hts hown hK X o0 (by omega) (by rw [g1]; exact oa) fl_X3_15 (by decide) rfl (by decide) dX3_init_20 ?_
    rw [g1]
    have he := wl_at G h (a := n + 1) (n := n + 1 + 3 * k) (by omega) (by omega)
    rw [cE_d G h oa] at he
    refine va_alen (ty := .object RX2) hx hb hK.1 X.1 (n + 1 - 1) 2 he rfl (v := nI rm) (by show Int32.ofNat (ln (n + 1)) = _; rw [ol]; rfl) dX3_init_23 ?_
    refine lv_icmp_ge (tgt := 46) hx hb dX3_init_24 (by decide) (fun z => absurd z (nI_ge (by omega) (by omega))) (fun _ => ?_)
    refine lv_aload_n hx hb dX3_init_27 rfl (lv_at hl 0 rfl) ?_
    refine g_Ra (K := 15) hx hb hts hown hK X o0 (by omega) (by rw [g1]; exact oa) fl_X3_15 (by decide) rfl (by decide) dX3_init_28 ?_
    rw [g1]
    refine lv_iload_n hx hb dX3_init_31 rfl (lv_at hl 1 rfl) ?_
    refine n_new (ci := 2) (cells1 := 1 + 3 * k + 1) (slots1 := rm + 19 * k + 5) (n1 := n + 1 + 3 * k + 1) hx hb hts hown hK X g2 rfl ln_X3_13 rfl rfl rfl (by show _ ≤ 1 + 3 * rm; omega) (by show _ ≤ rm + 19 * rm; omega) dX3_init_32 (fun H X => ?_)
    rw [← e1] at X
    refine lv_dup hx hb dX3_init_35 rfl ?_
    refine c_IN1 (As := []) (rest := [.ref (bs G + (n + 1 + 3 * k + 1)), .int (nI k), .ref (bs G + (n + 1))]) (n1 := n + 1 + 3 * k + 1 + 2) (cells1 := 1 + 3 * (k + 1)) (slots1 := rm + 19 * (k + 1)) hx hb hml hown hts hK X (k_X2_init l G (n + 1 + 3 * k + 1) (by omega) q2) rfl lc_X2_init li_X3_21 (by decide) rfl hl.1 (Nat.le_of_ble_eq_true rfl) dX3_init_36 (by omega) (by omega) ⟨by omega, by omega⟩ (fun H locs X => ?_)
    have hin : inr (nI k) (ln (n + 1)) = true := by
      rw [ol]
      simp only [inr, Bool.and_eq_true, decide_eq_true_eq]
      rw [nI_toInt (by omega)]
      omega
    refine g_ds hx hb hK X oa (by omega) hin g2 (by omega) dX3_init_39 (fun H locs X => ?_)
    rw [← e3] at X
    refine lv_iinc (v := nI (k + 1)) (lv' := [(2, .int (nI (k + 1))), (0, .ref (bs G + x0))]) hx hb dX3_init_40 hl (k := 1) rfl (nI_1 k) (by decide) rfl (fun ls hl => ?_)
    refine lv_goto (tgt := 18) hx hb dX3_init_43 (by decide) ?_
    have X2 : XW G (n + 1 + 3 * (k + 1)) h3 s (1 + 3 * (k + 1)) H locs := by
      have : n + 1 + 3 * k + 1 + 2 = n + 1 + 3 * (k + 1) := by omega
      rw [← this]; exact X
    exact ih (k + 1) (by omega) X2 (lv_sub hl [1, 0] rfl) hf
end DS
theorem k_X3_init (l : Launch) (G : GG) (rm n : Nat) {h h' : Hp} {x0 : Nat} {x1 : Int32} {rv : Unit} (b0 : 1 ≤ x0 ∧ x0 ≤ n) (hf : f_X3_init rm n h x0 x1 = some (rv, h')) : CT l G n (n + (1 + 3 * rm)) yX3_init (.code yX3_init bX3_init 3 none) 2 (1 + 3 * rm) (rm + 19 * rm) [.ref (bs G + x0), .int x1] h h' none := by
  refine ct_of (maxL := 3) (ret := none) (bytes := bX3_init) (by decide) (Nat.le_of_ble_eq_true rfl) (fun p e s m below meth c C0 X ls hl => ?_)
  have hl : lv_has ls 3 [(0, .ref (bs G + x0)), (1, .int x1)] := hl
  obtain ⟨hx, hb, hr, hml, hown, hts, hK, hlocks, hnm⟩ := id C0
  unfold f_X3_init at hf
  obtain ⟨o0, hf⟩ := gd_e hf
  obtain ⟨⟨ex, hr1, hr8⟩, hf⟩ := gd_e hf
  obtain ⟨oa, hf⟩ := gd_e hf
  obtain ⟨ol, hf⟩ := gd_e hf
  obtain ⟨h1, e1, hf⟩ := lt_e hf
  obtain ⟨h2, e2, hf⟩ := lt_e hf
  subst ex
  refine lv_aload_n hx hb dX3_init_0 rfl (lv_at hl 0 rfl) ?_
  refine n_obj hx hb (hml.trans hl.1.symm) hown hts lo_X3_1 (by decide) (Nat.le_of_ble_eq_true rfl) dX3_init_1 ?_
  refine lv_aload_n hx hb dX3_init_4 rfl (lv_at hl 0 rfl) ?_
  refine lv_iconst (v := 1) hx hb dX3_init_5 (by decide) ?_
  refine lv_iload_n hx hb dX3_init_6 rfl (lv_at hl 1 rfl) ?_
  have em : (if (1 : Int32) < nI rm then nI rm else 1) = nI rm := by
    by_cases h1 : rm = 1
    · subst h1; rfl
    · rw [if_pos]
      exact nI_lt (a := 1) (by omega) (by omega)
  refine va_mmax (R := rmC 2 (1 + 3 * rm) (rm + 19 * rm)) hx hb (hml.trans hl.1.symm) hown (hts _ lm_X3_7) (hts _ lm_maxS) (hts _ lm_math) (hts _ lm_maxC) (by show 1 ≤ 2; decide) (by show _ ≤ 60 * 2; decide) (Nat.zero_le _) (Nat.zero_le _) dX3_init_7 ?_
  rw [em]
  refine n_arrD (N := rm) (cells1 := 1) (slots1 := rm) (n1 := n + 1) hx hb hown hts hK X ln_X3_13.1 la_over oa ol (nI_pos (by omega)) (nI_clamp (by omega)) (by omega) rfl (by omega) rfl (by show 1 ≤ 1 + 3 * rm; omega) (by show rm ≤ rm + 19 * rm; omega) dX3_init_10 (fun H X => ?_)
  rw [← e1] at X
  refine g_PFa hx hb hts hown hK X o0 (by omega) (by omega) fl_X3_15 ft_3_1 (by decide) rfl hnm fo_3_1 (fun _ => rfl) (fun _ => rfl) dX3_init_13 (fun H locs X => ?_)
  rw [← e2] at X
  refine lv_iconst (v := 0) hx hb dX3_init_16 (by decide) ?_
  refine lv_istore_n (lv' := [(2, .int 0), (0, .ref (bs G + x0)), (1, .int (nI rm))]) hx hb dX3_init_17 rfl hl (by decide) rfl (fun ls hl => ?_)
  exact j_X3_lp C0 b0 o0 oa ol hr8 rm 0 (by omega) X (lv_sub hl [1, 0] rfl) hf
end
theorem dX4_init_0 : decode bX4_init 0 = .ok (.aload_n 0, 1) := by decide +kernel
theorem dX4_init_1 : decode bX4_init 1 = .ok (.invokespecial 3, 3) := by decide +kernel
theorem dX4_init_4 : decode bX4_init 4 = .ok (.aload_n 0, 1) := by decide +kernel
theorem dX4_init_5 : decode bX4_init 5 = .ok (.bipush 25, 2) := by decide +kernel
theorem dX4_init_7 : decode bX4_init 7 = .ok (.newarray .int, 2) := by decide +kernel
theorem dX4_init_9 : decode bX4_init 9 = .ok (.putfield 9, 3) := by decide +kernel
theorem dX4_init_12 : decode bX4_init 12 = .ok (.aload_n 0, 1) := by decide +kernel
theorem dX4_init_13 : decode bX4_init 13 = .ok (.bipush 6, 2) := by decide +kernel
theorem dX4_init_15 : decode bX4_init 15 = .ok (.newarray .int, 2) := by decide +kernel
theorem dX4_init_17 : decode bX4_init 17 = .ok (.putfield 15, 3) := by decide +kernel
theorem dX4_init_20 : decode bX4_init 20 = .ok (.aload_n 0, 1) := by decide +kernel
theorem dX4_init_21 : decode bX4_init 21 = .ok (.bipush 6, 2) := by decide +kernel
theorem dX4_init_23 : decode bX4_init 23 = .ok (.newarray .int, 2) := by decide +kernel
theorem dX4_init_25 : decode bX4_init 25 = .ok (.putfield 18, 3) := by decide +kernel
theorem dX4_init_28 : decode bX4_init 28 = .ok (.return_, 1) := by decide +kernel
def f_X4_init (n : Nat) (h : Hp) (x0 : Nat) : Option (Unit × Hp) :=
  gd (kd x0 = 4) <|
  gd (kd (n + 1) = 13) <|
  gd (ln (n + 1) = 25) <|
  lt (sz h (n + 1)) <| fun h3 =>
  lt (sr h3 x0 5 (n + 1)) <| fun h5 =>
  gd (kd (n + 2) = 13) <|
  gd (ln (n + 2) = 6) <|
  lt (sz h5 (n + 2)) <| fun h9 =>
  lt (sr h9 x0 6 (n + 2)) <| fun h11 =>
  gd (kd (n + 3) = 13) <|
  gd (ln (n + 3) = 6) <|
  lt (sz h11 (n + 3)) <| fun h15 =>
  lt (sr h15 x0 7 (n + 3)) <| fun h17 =>
  some ((), h17)
section
variable {p : Program} {l : Launch} {e : Env} {s : State} {m : MethodId} {args : Array Value} {below : List Frame} {meth : Method} {c : Code} {G : GG} {n : Nat} {h' : Hp} {rv : Unit}
set_option maxHeartbeats 4000000
set_option maxRecDepth 100000
theorem k_X4_init (l : Launch) (G : GG) (n : Nat) {h h' : Hp} {x0 : Nat} {rv : Unit} (b0 : 1 ≤ x0 ∧ x0 ≤ n) (hf : f_X4_init n h x0 = some (rv, h')) : CT l G n (n + 3) yX4_init (.code yX4_init bX4_init 1 none) 1 3 37 [.ref (bs G + x0)] h h' none := by
  refine ct_of (maxL := 1) (ret := none) (bytes := bX4_init) (by decide) (Nat.le_of_ble_eq_true rfl) (fun p e s m below meth c C0 X ls hl => ?_)
  have hl : lv_has ls 1 [(0, .ref (bs G + x0))] := hl
  obtain ⟨hx, hb, hr, hml, hown, hts, hK, hlocks, hnm⟩ := id C0
  unfold f_X4_init at hf
  obtain ⟨o0, hf⟩ := gd_e hf
  refine lv_aload_n hx hb dX4_init_0 rfl (lv_at hl 0 rfl) ?_
  refine n_obj hx hb (hml.trans hl.1.symm) hown hts lo_X4_3 (by decide) (Nat.le_of_ble_eq_true rfl) dX4_init_1 ?_
  refine lv_aload_n hx hb dX4_init_4 rfl (lv_at hl 0 rfl) ?_
  refine lv_bipush (v := (25 : Int32)) hx hb dX4_init_5 (by decide) ?_
  obtain ⟨g1, hf⟩ := gd_e hf
  obtain ⟨g2, hf⟩ := gd_e hf
  refine n_arr (at0 := .int) (ty := .int) (t0 := 0) (cA0 := G.2.1) (N := 25) (cells1 := 1) (slots1 := 25) (n1 := (n + 1)) hx hb hts hK X rfl rfl (fun _ _ z => z) la_int rfl (cE_ni (Or.inl g1) g2) (by decide) (by decide) (by decide) rfl rfl rfl (by decide) (by decide) dX4_init_7 (fun H X => ?_)
  obtain ⟨h3, e4, hf⟩ := lt_e hf
  rw [← e4] at X
  refine g_PFa hx hb hts hown hK X o0 (by omega) (by omega) fl_X4_9 ft_4_5 (by decide) rfl hnm fo_4_5 (fun _ => rfl) (fun _ => rfl) dX4_init_9 (fun H locs X => ?_)
  obtain ⟨h5, e6, hf⟩ := lt_e hf
  rw [← e6] at X
  refine lv_aload_n hx hb dX4_init_12 rfl (lv_at hl 0 rfl) ?_
  refine lv_bipush (v := (6 : Int32)) hx hb dX4_init_13 (by decide) ?_
  obtain ⟨g7, hf⟩ := gd_e hf
  obtain ⟨g8, hf⟩ := gd_e hf
  refine n_arr (at0 := .int) (ty := .int) (t0 := 0) (cA0 := G.2.1) (N := 6) (cells1 := 2) (slots1 := 31) (n1 := (n + 2)) hx hb hts hK X rfl rfl (fun _ _ z => z) la_int rfl (cE_ni (Or.inl g7) g8) (by decide) (by decide) (by decide) rfl rfl rfl (by decide) (by decide) dX4_init_15 (fun H X => ?_)
  obtain ⟨h9, e10, hf⟩ := lt_e hf
  rw [← e10] at X
  refine g_PFa hx hb hts hown hK X o0 (by omega) (by omega) fl_X4_15 ft_4_6 (by decide) rfl hnm fo_4_6 (fun _ => rfl) (fun _ => rfl) dX4_init_17 (fun H locs X => ?_)
  obtain ⟨h11, e12, hf⟩ := lt_e hf
  rw [← e12] at X
  refine lv_aload_n hx hb dX4_init_20 rfl (lv_at hl 0 rfl) ?_
  refine lv_bipush (v := (6 : Int32)) hx hb dX4_init_21 (by decide) ?_
  obtain ⟨g13, hf⟩ := gd_e hf
  obtain ⟨g14, hf⟩ := gd_e hf
  refine n_arr (at0 := .int) (ty := .int) (t0 := 0) (cA0 := G.2.1) (N := 6) (cells1 := 3) (slots1 := 37) (n1 := (n + 3)) hx hb hts hK X rfl rfl (fun _ _ z => z) la_int rfl (cE_ni (Or.inl g13) g14) (by decide) (by decide) (by decide) rfl rfl rfl (by decide) (by decide) dX4_init_23 (fun H X => ?_)
  obtain ⟨h15, e16, hf⟩ := lt_e hf
  rw [← e16] at X
  refine g_PFa hx hb hts hown hK X o0 (by omega) (by omega) fl_X4_18 ft_4_7 (by decide) rfl hnm fo_4_7 (fun _ => rfl) (fun _ => rfl) dX4_init_25 (fun H locs X => ?_)
  obtain ⟨h17, e18, hf⟩ := lt_e hf
  rw [← e18] at X
  exact r_V hx hb hr hlocks X hf dX4_init_28
end
theorem dX6_init_0 : decode bX6_init 0 = .ok (.aload_n 0, 1) := by decide +kernel
theorem dX6_init_1 : decode bX6_init 1 = .ok (.invokespecial 3, 3) := by decide +kernel
theorem dX6_init_4 : decode bX6_init 4 = .ok (.aload_n 0, 1) := by decide +kernel
theorem dX6_init_5 : decode bX6_init 5 = .ok (.bipush 6, 2) := by decide +kernel
theorem dX6_init_7 : decode bX6_init 7 = .ok (.newarray .int, 2) := by decide +kernel
theorem dX6_init_9 : decode bX6_init 9 = .ok (.putfield 9, 3) := by decide +kernel
theorem dX6_init_12 : decode bX6_init 12 = .ok (.aload_n 0, 1) := by decide +kernel
theorem dX6_init_13 : decode bX6_init 13 = .ok (.bipush 6, 2) := by decide +kernel
theorem dX6_init_15 : decode bX6_init 15 = .ok (.newarray .int, 2) := by decide +kernel
theorem dX6_init_17 : decode bX6_init 17 = .ok (.putfield 15, 3) := by decide +kernel
theorem dX6_init_20 : decode bX6_init 20 = .ok (.return_, 1) := by decide +kernel
def f_X6_init (n : Nat) (h : Hp) (x0 : Nat) : Option (Unit × Hp) :=
  gd (kd x0 = 6) <|
  gd (kd (n + 1) = 13) <|
  gd (ln (n + 1) = 6) <|
  lt (sz h (n + 1)) <| fun h3 =>
  lt (sr h3 x0 5 (n + 1)) <| fun h5 =>
  gd (kd (n + 2) = 13) <|
  gd (ln (n + 2) = 6) <|
  lt (sz h5 (n + 2)) <| fun h9 =>
  lt (sr h9 x0 6 (n + 2)) <| fun h11 =>
  some ((), h11)
section
variable {p : Program} {l : Launch} {e : Env} {s : State} {m : MethodId} {args : Array Value} {below : List Frame} {meth : Method} {c : Code} {G : GG} {n : Nat} {h' : Hp} {rv : Unit}
set_option maxHeartbeats 4000000
set_option maxRecDepth 100000
theorem k_X6_init (l : Launch) (G : GG) (n : Nat) {h h' : Hp} {x0 : Nat} {rv : Unit} (b0 : 1 ≤ x0 ∧ x0 ≤ n) (hf : f_X6_init n h x0 = some (rv, h')) : CT l G n (n + 2) yX6_init (.code yX6_init bX6_init 1 none) 1 2 12 [.ref (bs G + x0)] h h' none := by
  refine ct_of (maxL := 1) (ret := none) (bytes := bX6_init) (by decide) (Nat.le_of_ble_eq_true rfl) (fun p e s m below meth c C0 X ls hl => ?_)
  have hl : lv_has ls 1 [(0, .ref (bs G + x0))] := hl
  obtain ⟨hx, hb, hr, hml, hown, hts, hK, hlocks, hnm⟩ := id C0
  unfold f_X6_init at hf
  obtain ⟨o0, hf⟩ := gd_e hf
  refine lv_aload_n hx hb dX6_init_0 rfl (lv_at hl 0 rfl) ?_
  refine n_obj hx hb (hml.trans hl.1.symm) hown hts lo_X6_3 (by decide) (Nat.le_of_ble_eq_true rfl) dX6_init_1 ?_
  refine lv_aload_n hx hb dX6_init_4 rfl (lv_at hl 0 rfl) ?_
  refine lv_bipush (v := (6 : Int32)) hx hb dX6_init_5 (by decide) ?_
  obtain ⟨g1, hf⟩ := gd_e hf
  obtain ⟨g2, hf⟩ := gd_e hf
  refine n_arr (at0 := .int) (ty := .int) (t0 := 0) (cA0 := G.2.1) (N := 6) (cells1 := 1) (slots1 := 6) (n1 := (n + 1)) hx hb hts hK X rfl rfl (fun _ _ z => z) la_int rfl (cE_ni (Or.inl g1) g2) (by decide) (by decide) (by decide) rfl rfl rfl (by decide) (by decide) dX6_init_7 (fun H X => ?_)
  obtain ⟨h3, e4, hf⟩ := lt_e hf
  rw [← e4] at X
  refine g_PFa hx hb hts hown hK X o0 (by omega) (by omega) fl_X6_9 ft_6_5 (by decide) rfl hnm fo_6_5 (fun _ => rfl) (fun _ => rfl) dX6_init_9 (fun H locs X => ?_)
  obtain ⟨h5, e6, hf⟩ := lt_e hf
  rw [← e6] at X
  refine lv_aload_n hx hb dX6_init_12 rfl (lv_at hl 0 rfl) ?_
  refine lv_bipush (v := (6 : Int32)) hx hb dX6_init_13 (by decide) ?_
  obtain ⟨g7, hf⟩ := gd_e hf
  obtain ⟨g8, hf⟩ := gd_e hf
  refine n_arr (at0 := .int) (ty := .int) (t0 := 0) (cA0 := G.2.1) (N := 6) (cells1 := 2) (slots1 := 12) (n1 := (n + 2)) hx hb hts hK X rfl rfl (fun _ _ z => z) la_int rfl (cE_ni (Or.inl g7) g8) (by decide) (by decide) (by decide) rfl rfl rfl (by decide) (by decide) dX6_init_15 (fun H X => ?_)
  obtain ⟨h9, e10, hf⟩ := lt_e hf
  rw [← e10] at X
  refine g_PFa hx hb hts hown hK X o0 (by omega) (by omega) fl_X6_15 ft_6_6 (by decide) rfl hnm fo_6_6 (fun _ => rfl) (fun _ => rfl) dX6_init_17 (fun H locs X => ?_)
  obtain ⟨h11, e12, hf⟩ := lt_e hf
  rw [← e12] at X
  exact r_V hx hb hr hlocks X hf dX6_init_20
end
theorem dX7_init_0 : decode bX7_init 0 = .ok (.aload_n 0, 1) := by decide +kernel
theorem dX7_init_1 : decode bX7_init 1 = .ok (.invokespecial 3, 3) := by decide +kernel
theorem dX7_init_4 : decode bX7_init 4 = .ok (.aload_n 0, 1) := by decide +kernel
theorem dX7_init_5 : decode bX7_init 5 = .ok (.sipush 15025, 3) := by decide +kernel
theorem dX7_init_8 : decode bX7_init 8 = .ok (.newarray .int, 2) := by decide +kernel
theorem dX7_init_10 : decode bX7_init 10 = .ok (.putfield 11, 3) := by decide +kernel
theorem dX7_init_13 : decode bX7_init 13 = .ok (.aload_n 0, 1) := by decide +kernel
theorem dX7_init_14 : decode bX7_init 14 = .ok (.bipush 25, 2) := by decide +kernel
theorem dX7_init_16 : decode bX7_init 16 = .ok (.newarray .int, 2) := by decide +kernel
theorem dX7_init_18 : decode bX7_init 18 = .ok (.putfield 15, 3) := by decide +kernel
theorem dX7_init_21 : decode bX7_init 21 = .ok (.aload_n 0, 1) := by decide +kernel
theorem dX7_init_22 : decode bX7_init 22 = .ok (.bipush 25, 2) := by decide +kernel
theorem dX7_init_24 : decode bX7_init 24 = .ok (.newarray .int, 2) := by decide +kernel
theorem dX7_init_26 : decode bX7_init 26 = .ok (.putfield 18, 3) := by decide +kernel
theorem dX7_init_29 : decode bX7_init 29 = .ok (.aload_n 0, 1) := by decide +kernel
theorem dX7_init_30 : decode bX7_init 30 = .ok (.bipush 24, 2) := by decide +kernel
theorem dX7_init_32 : decode bX7_init 32 = .ok (.newarray .int, 2) := by decide +kernel
theorem dX7_init_34 : decode bX7_init 34 = .ok (.putfield 21, 3) := by decide +kernel
theorem dX7_init_37 : decode bX7_init 37 = .ok (.aload_n 0, 1) := by decide +kernel
theorem dX7_init_38 : decode bX7_init 38 = .ok (.bipush 100, 2) := by decide +kernel
theorem dX7_init_40 : decode bX7_init 40 = .ok (.newarray .int, 2) := by decide +kernel
theorem dX7_init_42 : decode bX7_init 42 = .ok (.putfield 24, 3) := by decide +kernel
theorem dX7_init_45 : decode bX7_init 45 = .ok (.return_, 1) := by decide +kernel
def f_X7_init (n : Nat) (h : Hp) (x0 : Nat) : Option (Unit × Hp) :=
  gd (kd x0 = 7) <|
  gd (kd (n + 1) = 13) <|
  gd (ln (n + 1) = 15025) <|
  lt (sz h (n + 1)) <| fun h3 =>
  lt (sr h3 x0 4 (n + 1)) <| fun h5 =>
  gd (kd (n + 2) = 13) <|
  gd (ln (n + 2) = 25) <|
  lt (sz h5 (n + 2)) <| fun h9 =>
  lt (sr h9 x0 5 (n + 2)) <| fun h11 =>
  gd (kd (n + 3) = 13) <|
  gd (ln (n + 3) = 25) <|
  lt (sz h11 (n + 3)) <| fun h15 =>
  lt (sr h15 x0 6 (n + 3)) <| fun h17 =>
  gd (kd (n + 4) = 13) <|
  gd (ln (n + 4) = 24) <|
  lt (sz h17 (n + 4)) <| fun h21 =>
  lt (sr h21 x0 7 (n + 4)) <| fun h23 =>
  gd (kd (n + 5) = 13) <|
  gd (ln (n + 5) = 100) <|
  lt (sz h23 (n + 5)) <| fun h27 =>
  lt (sr h27 x0 8 (n + 5)) <| fun h29 =>
  some ((), h29)
section
variable {p : Program} {l : Launch} {e : Env} {s : State} {m : MethodId} {args : Array Value} {below : List Frame} {meth : Method} {c : Code} {G : GG} {n : Nat} {h' : Hp} {rv : Unit}
set_option maxHeartbeats 4000000
set_option maxRecDepth 100000
theorem k_X7_init (l : Launch) (G : GG) (n : Nat) {h h' : Hp} {x0 : Nat} {rv : Unit} (b0 : 1 ≤ x0 ∧ x0 ≤ n) (hf : f_X7_init n h x0 = some (rv, h')) : CT l G n (n + 5) yX7_init (.code yX7_init bX7_init 1 none) 1 5 15199 [.ref (bs G + x0)] h h' none := by
  refine ct_of (maxL := 1) (ret := none) (bytes := bX7_init) (by decide) (Nat.le_of_ble_eq_true rfl) (fun p e s m below meth c C0 X ls hl => ?_)
  have hl : lv_has ls 1 [(0, .ref (bs G + x0))] := hl
  obtain ⟨hx, hb, hr, hml, hown, hts, hK, hlocks, hnm⟩ := id C0
  unfold f_X7_init at hf
  obtain ⟨o0, hf⟩ := gd_e hf
  refine lv_aload_n hx hb dX7_init_0 rfl (lv_at hl 0 rfl) ?_
  refine n_obj hx hb (hml.trans hl.1.symm) hown hts lo_X7_3 (by decide) (Nat.le_of_ble_eq_true rfl) dX7_init_1 ?_
  refine lv_aload_n hx hb dX7_init_4 rfl (lv_at hl 0 rfl) ?_
  refine lv_sipush (v := (15025 : Int32)) hx hb dX7_init_5 (by decide) ?_
  obtain ⟨g1, hf⟩ := gd_e hf
  obtain ⟨g2, hf⟩ := gd_e hf
  refine n_arr (at0 := .int) (ty := .int) (t0 := 0) (cA0 := G.2.1) (N := 15025) (cells1 := 1) (slots1 := 15025) (n1 := (n + 1)) hx hb hts hK X rfl rfl (fun _ _ z => z) la_int rfl (cE_ni (Or.inl g1) g2) (by decide) (by decide) (by decide) rfl rfl rfl (by decide) (by decide) dX7_init_8 (fun H X => ?_)
  obtain ⟨h3, e4, hf⟩ := lt_e hf
  rw [← e4] at X
  refine g_PFa hx hb hts hown hK X o0 (by omega) (by omega) fl_X7_11 ft_7_4 (by decide) rfl hnm fo_7_4 (fun _ => rfl) (fun _ => rfl) dX7_init_10 (fun H locs X => ?_)
  obtain ⟨h5, e6, hf⟩ := lt_e hf
  rw [← e6] at X
  refine lv_aload_n hx hb dX7_init_13 rfl (lv_at hl 0 rfl) ?_
  refine lv_bipush (v := (25 : Int32)) hx hb dX7_init_14 (by decide) ?_
  obtain ⟨g7, hf⟩ := gd_e hf
  obtain ⟨g8, hf⟩ := gd_e hf
  refine n_arr (at0 := .int) (ty := .int) (t0 := 0) (cA0 := G.2.1) (N := 25) (cells1 := 2) (slots1 := 15050) (n1 := (n + 2)) hx hb hts hK X rfl rfl (fun _ _ z => z) la_int rfl (cE_ni (Or.inl g7) g8) (by decide) (by decide) (by decide) rfl rfl rfl (by decide) (by decide) dX7_init_16 (fun H X => ?_)
  obtain ⟨h9, e10, hf⟩ := lt_e hf
  rw [← e10] at X
  refine g_PFa hx hb hts hown hK X o0 (by omega) (by omega) fl_X7_15 ft_7_5 (by decide) rfl hnm fo_7_5 (fun _ => rfl) (fun _ => rfl) dX7_init_18 (fun H locs X => ?_)
  obtain ⟨h11, e12, hf⟩ := lt_e hf
  rw [← e12] at X
  refine lv_aload_n hx hb dX7_init_21 rfl (lv_at hl 0 rfl) ?_
  refine lv_bipush (v := (25 : Int32)) hx hb dX7_init_22 (by decide) ?_
  obtain ⟨g13, hf⟩ := gd_e hf
  obtain ⟨g14, hf⟩ := gd_e hf
  refine n_arr (at0 := .int) (ty := .int) (t0 := 0) (cA0 := G.2.1) (N := 25) (cells1 := 3) (slots1 := 15075) (n1 := (n + 3)) hx hb hts hK X rfl rfl (fun _ _ z => z) la_int rfl (cE_ni (Or.inl g13) g14) (by decide) (by decide) (by decide) rfl rfl rfl (by decide) (by decide) dX7_init_24 (fun H X => ?_)
  obtain ⟨h15, e16, hf⟩ := lt_e hf
  rw [← e16] at X
  refine g_PFa hx hb hts hown hK X o0 (by omega) (by omega) fl_X7_18 ft_7_6 (by decide) rfl hnm fo_7_6 (fun _ => rfl) (fun _ => rfl) dX7_init_26 (fun H locs X => ?_)
  obtain ⟨h17, e18, hf⟩ := lt_e hf
  rw [← e18] at X
  refine lv_aload_n hx hb dX7_init_29 rfl (lv_at hl 0 rfl) ?_
  refine lv_bipush (v := (24 : Int32)) hx hb dX7_init_30 (by decide) ?_
  obtain ⟨g19, hf⟩ := gd_e hf
  obtain ⟨g20, hf⟩ := gd_e hf
  refine n_arr (at0 := .int) (ty := .int) (t0 := 0) (cA0 := G.2.1) (N := 24) (cells1 := 4) (slots1 := 15099) (n1 := (n + 4)) hx hb hts hK X rfl rfl (fun _ _ z => z) la_int rfl (cE_ni (Or.inl g19) g20) (by decide) (by decide) (by decide) rfl rfl rfl (by decide) (by decide) dX7_init_32 (fun H X => ?_)
  obtain ⟨h21, e22, hf⟩ := lt_e hf
  rw [← e22] at X
  refine g_PFa hx hb hts hown hK X o0 (by omega) (by omega) fl_X7_21 ft_7_7 (by decide) rfl hnm fo_7_7 (fun _ => rfl) (fun _ => rfl) dX7_init_34 (fun H locs X => ?_)
  obtain ⟨h23, e24, hf⟩ := lt_e hf
  rw [← e24] at X
  refine lv_aload_n hx hb dX7_init_37 rfl (lv_at hl 0 rfl) ?_
  refine lv_bipush (v := (100 : Int32)) hx hb dX7_init_38 (by decide) ?_
  obtain ⟨g25, hf⟩ := gd_e hf
  obtain ⟨g26, hf⟩ := gd_e hf
  refine n_arr (at0 := .int) (ty := .int) (t0 := 0) (cA0 := G.2.1) (N := 100) (cells1 := 5) (slots1 := 15199) (n1 := (n + 5)) hx hb hts hK X rfl rfl (fun _ _ z => z) la_int rfl (cE_ni (Or.inl g25) g26) (by decide) (by decide) (by decide) rfl rfl rfl (by decide) (by decide) dX7_init_40 (fun H X => ?_)
  obtain ⟨h27, e28, hf⟩ := lt_e hf
  rw [← e28] at X
  refine g_PFa hx hb hts hown hK X o0 (by omega) (by omega) fl_X7_24 ft_7_8 (by decide) rfl hnm fo_7_8 (fun _ => rfl) (fun _ => rfl) dX7_init_42 (fun H locs X => ?_)
  obtain ⟨h29, e30, hf⟩ := lt_e hf
  rw [← e30] at X
  exact r_V hx hb hr hlocks X hf dX7_init_45
end
theorem dX5_init_0 : decode bX5_init 0 = .ok (.aload_n 0, 1) := by decide +kernel
theorem dX5_init_1 : decode bX5_init 1 = .ok (.invokespecial 5, 3) := by decide +kernel
theorem dX5_init_4 : decode bX5_init 4 = .ok (.aload_n 0, 1) := by decide +kernel
theorem dX5_init_5 : decode bX5_init 5 = .ok (.new 11, 3) := by decide +kernel
theorem dX5_init_8 : decode bX5_init 8 = .ok (.dup, 1) := by decide +kernel
theorem dX5_init_9 : decode bX5_init 9 = .ok (.invokespecial 13, 3) := by decide +kernel
theorem dX5_init_12 : decode bX5_init 12 = .ok (.putfield 14, 3) := by decide +kernel
theorem dX5_init_15 : decode bX5_init 15 = .ok (.aload_n 0, 1) := by decide +kernel
theorem dX5_init_16 : decode bX5_init 16 = .ok (.sipush 800, 3) := by decide +kernel
theorem dX5_init_19 : decode bX5_init 19 = .ok (.newarray .int, 2) := by decide +kernel
theorem dX5_init_21 : decode bX5_init 21 = .ok (.putfield 18, 3) := by decide +kernel
theorem dX5_init_24 : decode bX5_init 24 = .ok (.aload_n 0, 1) := by decide +kernel
theorem dX5_init_25 : decode bX5_init 25 = .ok (.sipush 800, 3) := by decide +kernel
theorem dX5_init_28 : decode bX5_init 28 = .ok (.newarray .int, 2) := by decide +kernel
theorem dX5_init_30 : decode bX5_init 30 = .ok (.putfield 22, 3) := by decide +kernel
theorem dX5_init_33 : decode bX5_init 33 = .ok (.aload_n 0, 1) := by decide +kernel
theorem dX5_init_34 : decode bX5_init 34 = .ok (.sipush 800, 3) := by decide +kernel
theorem dX5_init_37 : decode bX5_init 37 = .ok (.newarray .int, 2) := by decide +kernel
theorem dX5_init_39 : decode bX5_init 39 = .ok (.putfield 25, 3) := by decide +kernel
theorem dX5_init_42 : decode bX5_init 42 = .ok (.aload_n 0, 1) := by decide +kernel
theorem dX5_init_43 : decode bX5_init 43 = .ok (.sipush 800, 3) := by decide +kernel
theorem dX5_init_46 : decode bX5_init 46 = .ok (.newarray .int, 2) := by decide +kernel
theorem dX5_init_48 : decode bX5_init 48 = .ok (.putfield 28, 3) := by decide +kernel
theorem dX5_init_51 : decode bX5_init 51 = .ok (.aload_n 0, 1) := by decide +kernel
theorem dX5_init_52 : decode bX5_init 52 = .ok (.sipush 800, 3) := by decide +kernel
theorem dX5_init_55 : decode bX5_init 55 = .ok (.newarray .int, 2) := by decide +kernel
theorem dX5_init_57 : decode bX5_init 57 = .ok (.putfield 31, 3) := by decide +kernel
theorem dX5_init_60 : decode bX5_init 60 = .ok (.aload_n 0, 1) := by decide +kernel
theorem dX5_init_61 : decode bX5_init 61 = .ok (.sipush 800, 3) := by decide +kernel
theorem dX5_init_64 : decode bX5_init 64 = .ok (.newarray .int, 2) := by decide +kernel
theorem dX5_init_66 : decode bX5_init 66 = .ok (.putfield 34, 3) := by decide +kernel
theorem dX5_init_69 : decode bX5_init 69 = .ok (.aload_n 0, 1) := by decide +kernel
theorem dX5_init_70 : decode bX5_init 70 = .ok (.bipush 100, 2) := by decide +kernel
theorem dX5_init_72 : decode bX5_init 72 = .ok (.newarray .int, 2) := by decide +kernel
theorem dX5_init_74 : decode bX5_init 74 = .ok (.putfield 37, 3) := by decide +kernel
theorem dX5_init_77 : decode bX5_init 77 = .ok (.return_, 1) := by decide +kernel
def f_X5_init (n : Nat) (h : Hp) (x0 : Nat) : Option (Unit × Hp) :=
  gd (kd x0 = 5) <|
  gd (kd (n + 1) = 7) <|
  lt (sz h (n + 1)) <| fun h2 =>
  bd (f_X7_init (n + 1) h2 (n + 1)) <| fun r6 h4 =>
  lt (sr h4 x0 0 (n + 1)) <| fun h7 =>
  gd (kd (n + 7) = 13) <|
  gd (ln (n + 7) = 800) <|
  lt (sz h7 (n + 7)) <| fun h11 =>
  lt (sr h11 x0 1 (n + 7)) <| fun h13 =>
  gd (kd (n + 8) = 13) <|
  gd (ln (n + 8) = 800) <|
  lt (sz h13 (n + 8)) <| fun h17 =>
  lt (sr h17 x0 2 (n + 8)) <| fun h19 =>
  gd (kd (n + 9) = 13) <|
  gd (ln (n + 9) = 800) <|
  lt (sz h19 (n + 9)) <| fun h23 =>
  lt (sr h23 x0 3 (n + 9)) <| fun h25 =>
  gd (kd (n + 10) = 13) <|
  gd (ln (n + 10) = 800) <|
  lt (sz h25 (n + 10)) <| fun h29 =>
  lt (sr h29 x0 4 (n + 10)) <| fun h31 =>
  gd (kd (n + 11) = 13) <|
  gd (ln (n + 11) = 800) <|
  lt (sz h31 (n + 11)) <| fun h35 =>
  lt (sr h35 x0 5 (n + 11)) <| fun h37 =>
  gd (kd (n + 12) = 13) <|
  gd (ln (n + 12) = 800) <|
  lt (sz h37 (n + 12)) <| fun h41 =>
  lt (sr h41 x0 6 (n + 12)) <| fun h43 =>
  gd (kd (n + 13) = 13) <|
  gd (ln (n + 13) = 100) <|
  lt (sz h43 (n + 13)) <| fun h47 =>
  lt (sr h47 x0 7 (n + 13)) <| fun h49 =>
  some ((), h49)
section
variable {p : Program} {l : Launch} {e : Env} {s : State} {m : MethodId} {args : Array Value} {below : List Frame} {meth : Method} {c : Code} {G : GG} {n : Nat} {h' : Hp} {rv : Unit}
set_option maxHeartbeats 4000000
set_option maxRecDepth 100000
theorem k_X5_init (l : Launch) (G : GG) (n : Nat) {h h' : Hp} {x0 : Nat} {rv : Unit} (b0 : 1 ≤ x0 ∧ x0 ≤ n) (hf : f_X5_init n h x0 = some (rv, h')) : CT l G n (n + 13) yX5_init (.code yX5_init bX5_init 1 none) 2 13 20111 [.ref (bs G + x0)] h h' none := by
  refine ct_of (maxL := 1) (ret := none) (bytes := bX5_init) (by decide) (Nat.le_of_ble_eq_true rfl) (fun p e s m below meth c C0 X ls hl => ?_)
  have hl : lv_has ls 1 [(0, .ref (bs G + x0))] := hl
  obtain ⟨hx, hb, hr, hml, hown, hts, hK, hlocks, hnm⟩ := id C0
  unfold f_X5_init at hf
  obtain ⟨o0, hf⟩ := gd_e hf
  refine lv_aload_n hx hb dX5_init_0 rfl (lv_at hl 0 rfl) ?_
  refine n_obj hx hb (hml.trans hl.1.symm) hown hts lo_X5_5 (by decide) (Nat.le_of_ble_eq_true rfl) dX5_init_1 ?_
  refine lv_aload_n hx hb dX5_init_4 rfl (lv_at hl 0 rfl) ?_
  obtain ⟨g1, hf⟩ := gd_e hf
  refine n_new (ci := 7) (cells1 := 1) (slots1 := 12) (n1 := (n + 1)) hx hb hts hown hK X g1 rfl ln_X5_11 rfl rfl rfl (by decide) (by decide) dX5_init_5 (fun H X => ?_)
  obtain ⟨h2, e3, hf⟩ := lt_e hf
  rw [← e3] at X
  refine lv_dup hx hb dX5_init_8 rfl ?_
  obtain ⟨r6, h4, q5, hf⟩ := bd_e hf
  refine c_IN1 (As := []) (rest := [.ref (bs G + (n + 1)), .ref (bs G + x0)]) (n1 := (n + 6)) (cells1 := 6) (slots1 := 15211) hx hb hml hown hts hK X (k_X7_init l G (n + 1) (by omega) q5) rfl lc_X7_init li_X5_13 (by decide) rfl hl.1 (Nat.le_of_ble_eq_true rfl) dX5_init_9 rfl rfl ⟨by decide, by decide⟩ (fun H locs X => ?_)
  refine g_PFa hx hb hts hown hK X o0 (by omega) (by omega) fl_X5_14 ft_5_0 (by decide) rfl hnm fo_5_0 (fun _ => rfl) (fun _ => rfl) dX5_init_12 (fun H locs X => ?_)
  obtain ⟨h7, e8, hf⟩ := lt_e hf
  rw [← e8] at X
  refine lv_aload_n hx hb dX5_init_15 rfl (lv_at hl 0 rfl) ?_
  refine lv_sipush (v := (800 : Int32)) hx hb dX5_init_16 (by decide) ?_
  obtain ⟨g9, hf⟩ := gd_e hf
  obtain ⟨g10, hf⟩ := gd_e hf
  refine n_arr (at0 := .int) (ty := .int) (t0 := 0) (cA0 := G.2.1) (N := 800) (cells1 := 7) (slots1 := 16011) (n1 := (n + 7)) hx hb hts hK X rfl rfl (fun _ _ z => z) la_int rfl (cE_ni (Or.inl g9) g10) (by decide) (by decide) (by decide) rfl rfl rfl (by decide) (by decide) dX5_init_19 (fun H X => ?_)
  obtain ⟨h11, e12, hf⟩ := lt_e hf
  rw [← e12] at X
  refine g_PFa hx hb hts hown hK X o0 (by omega) (by omega) fl_X5_18 ft_5_1 (by decide) rfl hnm fo_5_1 (fun _ => rfl) (fun _ => rfl) dX5_init_21 (fun H locs X => ?_)
  obtain ⟨h13, e14, hf⟩ := lt_e hf
  rw [← e14] at X
  refine lv_aload_n hx hb dX5_init_24 rfl (lv_at hl 0 rfl) ?_
  refine lv_sipush (v := (800 : Int32)) hx hb dX5_init_25 (by decide) ?_
  obtain ⟨g15, hf⟩ := gd_e hf
  obtain ⟨g16, hf⟩ := gd_e hf
  refine n_arr (at0 := .int) (ty := .int) (t0 := 0) (cA0 := G.2.1) (N := 800) (cells1 := 8) (slots1 := 16811) (n1 := (n + 8)) hx hb hts hK X rfl rfl (fun _ _ z => z) la_int rfl (cE_ni (Or.inl g15) g16) (by decide) (by decide) (by decide) rfl rfl rfl (by decide) (by decide) dX5_init_28 (fun H X => ?_)
  obtain ⟨h17, e18, hf⟩ := lt_e hf
  rw [← e18] at X
  refine g_PFa hx hb hts hown hK X o0 (by omega) (by omega) fl_X5_22 ft_5_2 (by decide) rfl hnm fo_5_2 (fun _ => rfl) (fun _ => rfl) dX5_init_30 (fun H locs X => ?_)
  obtain ⟨h19, e20, hf⟩ := lt_e hf
  rw [← e20] at X
  refine lv_aload_n hx hb dX5_init_33 rfl (lv_at hl 0 rfl) ?_
  refine lv_sipush (v := (800 : Int32)) hx hb dX5_init_34 (by decide) ?_
  obtain ⟨g21, hf⟩ := gd_e hf
  obtain ⟨g22, hf⟩ := gd_e hf
  refine n_arr (at0 := .int) (ty := .int) (t0 := 0) (cA0 := G.2.1) (N := 800) (cells1 := 9) (slots1 := 17611) (n1 := (n + 9)) hx hb hts hK X rfl rfl (fun _ _ z => z) la_int rfl (cE_ni (Or.inl g21) g22) (by decide) (by decide) (by decide) rfl rfl rfl (by decide) (by decide) dX5_init_37 (fun H X => ?_)
  obtain ⟨h23, e24, hf⟩ := lt_e hf
  rw [← e24] at X
  refine g_PFa hx hb hts hown hK X o0 (by omega) (by omega) fl_X5_25 ft_5_3 (by decide) rfl hnm fo_5_3 (fun _ => rfl) (fun _ => rfl) dX5_init_39 (fun H locs X => ?_)
  obtain ⟨h25, e26, hf⟩ := lt_e hf
  rw [← e26] at X
  refine lv_aload_n hx hb dX5_init_42 rfl (lv_at hl 0 rfl) ?_
  refine lv_sipush (v := (800 : Int32)) hx hb dX5_init_43 (by decide) ?_
  obtain ⟨g27, hf⟩ := gd_e hf
  obtain ⟨g28, hf⟩ := gd_e hf
  refine n_arr (at0 := .int) (ty := .int) (t0 := 0) (cA0 := G.2.1) (N := 800) (cells1 := 10) (slots1 := 18411) (n1 := (n + 10)) hx hb hts hK X rfl rfl (fun _ _ z => z) la_int rfl (cE_ni (Or.inl g27) g28) (by decide) (by decide) (by decide) rfl rfl rfl (by decide) (by decide) dX5_init_46 (fun H X => ?_)
  obtain ⟨h29, e30, hf⟩ := lt_e hf
  rw [← e30] at X
  refine g_PFa hx hb hts hown hK X o0 (by omega) (by omega) fl_X5_28 ft_5_4 (by decide) rfl hnm fo_5_4 (fun _ => rfl) (fun _ => rfl) dX5_init_48 (fun H locs X => ?_)
  obtain ⟨h31, e32, hf⟩ := lt_e hf
  rw [← e32] at X
  refine lv_aload_n hx hb dX5_init_51 rfl (lv_at hl 0 rfl) ?_
  refine lv_sipush (v := (800 : Int32)) hx hb dX5_init_52 (by decide) ?_
  obtain ⟨g33, hf⟩ := gd_e hf
  obtain ⟨g34, hf⟩ := gd_e hf
  refine n_arr (at0 := .int) (ty := .int) (t0 := 0) (cA0 := G.2.1) (N := 800) (cells1 := 11) (slots1 := 19211) (n1 := (n + 11)) hx hb hts hK X rfl rfl (fun _ _ z => z) la_int rfl (cE_ni (Or.inl g33) g34) (by decide) (by decide) (by decide) rfl rfl rfl (by decide) (by decide) dX5_init_55 (fun H X => ?_)
  obtain ⟨h35, e36, hf⟩ := lt_e hf
  rw [← e36] at X
  refine g_PFa hx hb hts hown hK X o0 (by omega) (by omega) fl_X5_31 ft_5_5 (by decide) rfl hnm fo_5_5 (fun _ => rfl) (fun _ => rfl) dX5_init_57 (fun H locs X => ?_)
  obtain ⟨h37, e38, hf⟩ := lt_e hf
  rw [← e38] at X
  refine lv_aload_n hx hb dX5_init_60 rfl (lv_at hl 0 rfl) ?_
  refine lv_sipush (v := (800 : Int32)) hx hb dX5_init_61 (by decide) ?_
  obtain ⟨g39, hf⟩ := gd_e hf
  obtain ⟨g40, hf⟩ := gd_e hf
  refine n_arr (at0 := .int) (ty := .int) (t0 := 0) (cA0 := G.2.1) (N := 800) (cells1 := 12) (slots1 := 20011) (n1 := (n + 12)) hx hb hts hK X rfl rfl (fun _ _ z => z) la_int rfl (cE_ni (Or.inl g39) g40) (by decide) (by decide) (by decide) rfl rfl rfl (by decide) (by decide) dX5_init_64 (fun H X => ?_)
  obtain ⟨h41, e42, hf⟩ := lt_e hf
  rw [← e42] at X
  refine g_PFa hx hb hts hown hK X o0 (by omega) (by omega) fl_X5_34 ft_5_6 (by decide) rfl hnm fo_5_6 (fun _ => rfl) (fun _ => rfl) dX5_init_66 (fun H locs X => ?_)
  obtain ⟨h43, e44, hf⟩ := lt_e hf
  rw [← e44] at X
  refine lv_aload_n hx hb dX5_init_69 rfl (lv_at hl 0 rfl) ?_
  refine lv_bipush (v := (100 : Int32)) hx hb dX5_init_70 (by decide) ?_
  obtain ⟨g45, hf⟩ := gd_e hf
  obtain ⟨g46, hf⟩ := gd_e hf
  refine n_arr (at0 := .int) (ty := .int) (t0 := 0) (cA0 := G.2.1) (N := 100) (cells1 := 13) (slots1 := 20111) (n1 := (n + 13)) hx hb hts hK X rfl rfl (fun _ _ z => z) la_int rfl (cE_ni (Or.inl g45) g46) (by decide) (by decide) (by decide) rfl rfl rfl (by decide) (by decide) dX5_init_72 (fun H X => ?_)
  obtain ⟨h47, e48, hf⟩ := lt_e hf
  rw [← e48] at X
  refine g_PFa hx hb hts hown hK X o0 (by omega) (by omega) fl_X5_37 ft_5_7 (by decide) rfl hnm fo_5_7 (fun _ => rfl) (fun _ => rfl) dX5_init_74 (fun H locs X => ?_)
  obtain ⟨h49, e50, hf⟩ := lt_e hf
  rw [← e50] at X
  exact r_V hx hb hr hlocks X hf dX5_init_77
end
theorem dX8_init_0 : decode bX8_init 0 = .ok (.aload_n 0, 1) := by decide +kernel
theorem dX8_init_1 : decode bX8_init 1 = .ok (.invokespecial 3, 3) := by decide +kernel
theorem dX8_init_4 : decode bX8_init 4 = .ok (.aload_n 0, 1) := by decide +kernel
theorem dX8_init_5 : decode bX8_init 5 = .ok (.sipush 200, 3) := by decide +kernel
theorem dX8_init_8 : decode bX8_init 8 = .ok (.newarray .char, 2) := by decide +kernel
theorem dX8_init_10 : decode bX8_init 10 = .ok (.putfield 9, 3) := by decide +kernel
theorem dX8_init_13 : decode bX8_init 13 = .ok (.aload_n 0, 1) := by decide +kernel
theorem dX8_init_14 : decode bX8_init 14 = .ok (.iconst 3, 1) := by decide +kernel
theorem dX8_init_15 : decode bX8_init 15 = .ok (.newarray .int, 2) := by decide +kernel
theorem dX8_init_17 : decode bX8_init 17 = .ok (.putfield 15, 3) := by decide +kernel
theorem dX8_init_20 : decode bX8_init 20 = .ok (.return_, 1) := by decide +kernel
def f_X8_init (n : Nat) (h : Hp) (x0 : Nat) : Option (Unit × Hp) :=
  gd (kd x0 = 8) <|
  gd (kd (n + 1) = 14) <|
  gd (ln (n + 1) = 200) <|
  lt (sz h (n + 1)) <| fun h3 =>
  lt (sr h3 x0 1 (n + 1)) <| fun h5 =>
  gd (kd (n + 2) = 13) <|
  gd (ln (n + 2) = 3) <|
  lt (sz h5 (n + 2)) <| fun h9 =>
  lt (sr h9 x0 2 (n + 2)) <| fun h11 =>
  some ((), h11)
section
variable {p : Program} {l : Launch} {e : Env} {s : State} {m : MethodId} {args : Array Value} {below : List Frame} {meth : Method} {c : Code} {G : GG} {n : Nat} {h' : Hp} {rv : Unit}
set_option maxHeartbeats 4000000
set_option maxRecDepth 100000
theorem k_X8_init (l : Launch) (G : GG) (n : Nat) {h h' : Hp} {x0 : Nat} {rv : Unit} (b0 : 1 ≤ x0 ∧ x0 ≤ n) (hf : f_X8_init n h x0 = some (rv, h')) : CT l G n (n + 2) yX8_init (.code yX8_init bX8_init 1 none) 1 2 203 [.ref (bs G + x0)] h h' none := by
  refine ct_of (maxL := 1) (ret := none) (bytes := bX8_init) (by decide) (Nat.le_of_ble_eq_true rfl) (fun p e s m below meth c C0 X ls hl => ?_)
  have hl : lv_has ls 1 [(0, .ref (bs G + x0))] := hl
  obtain ⟨hx, hb, hr, hml, hown, hts, hK, hlocks, hnm⟩ := id C0
  unfold f_X8_init at hf
  obtain ⟨o0, hf⟩ := gd_e hf
  refine lv_aload_n hx hb dX8_init_0 rfl (lv_at hl 0 rfl) ?_
  refine n_obj hx hb (hml.trans hl.1.symm) hown hts lo_X8_3 (by decide) (Nat.le_of_ble_eq_true rfl) dX8_init_1 ?_
  refine lv_aload_n hx hb dX8_init_4 rfl (lv_at hl 0 rfl) ?_
  refine lv_sipush (v := (200 : Int32)) hx hb dX8_init_5 (by decide) ?_
  obtain ⟨g1, hf⟩ := gd_e hf
  obtain ⟨g2, hf⟩ := gd_e hf
  refine n_arr (at0 := .char) (ty := .char) (t0 := 1) (cA0 := G.2.2.1) (N := 200) (cells1 := 1) (slots1 := 200) (n1 := (n + 1)) hx hb hts hK X rfl rfl (fun _ _ z => z) la_char rfl (cE_nc g1 g2) (by decide) (by decide) (by decide) rfl rfl rfl (by decide) (by decide) dX8_init_8 (fun H X => ?_)
  obtain ⟨h3, e4, hf⟩ := lt_e hf
  rw [← e4] at X
  refine g_PFa hx hb hts hown hK X o0 (by omega) (by omega) fl_X8_9 ft_8_1 (by decide) rfl hnm fo_8_1 (fun _ => rfl) (fun _ => rfl) dX8_init_10 (fun H locs X => ?_)
  obtain ⟨h5, e6, hf⟩ := lt_e hf
  rw [← e6] at X
  refine lv_aload_n hx hb dX8_init_13 rfl (lv_at hl 0 rfl) ?_
  refine lv_iconst (v := (3 : Int32)) hx hb dX8_init_14 (by decide) ?_
  obtain ⟨g7, hf⟩ := gd_e hf
  obtain ⟨g8, hf⟩ := gd_e hf
  refine n_arr (at0 := .int) (ty := .int) (t0 := 0) (cA0 := G.2.1) (N := 3) (cells1 := 2) (slots1 := 203) (n1 := (n + 2)) hx hb hts hK X rfl rfl (fun _ _ z => z) la_int rfl (cE_ni (Or.inl g7) g8) (by decide) (by decide) (by decide) rfl rfl rfl (by decide) (by decide) dX8_init_15 (fun H X => ?_)
  obtain ⟨h9, e10, hf⟩ := lt_e hf
  rw [← e10] at X
  refine g_PFa hx hb hts hown hK X o0 (by omega) (by omega) fl_X8_15 ft_8_2 (by decide) rfl hnm fo_8_2 (fun _ => rfl) (fun _ => rfl) dX8_init_17 (fun H locs X => ?_)
  obtain ⟨h11, e12, hf⟩ := lt_e hf
  rw [← e12] at X
  exact r_V hx hb hr hlocks X hf dX8_init_20
end
theorem dX9_init_0 : decode bX9_init 0 = .ok (.aload_n 0, 1) := by decide +kernel
theorem dX9_init_1 : decode bX9_init 1 = .ok (.invokespecial 3, 3) := by decide +kernel
theorem dX9_init_4 : decode bX9_init 4 = .ok (.aload_n 0, 1) := by decide +kernel
theorem dX9_init_5 : decode bX9_init 5 = .ok (.sipush 601, 3) := by decide +kernel
theorem dX9_init_8 : decode bX9_init 8 = .ok (.newarray .int, 2) := by decide +kernel
theorem dX9_init_10 : decode bX9_init 10 = .ok (.putfield 9, 3) := by decide +kernel
theorem dX9_init_13 : decode bX9_init 13 = .ok (.aload_n 0, 1) := by decide +kernel
theorem dX9_init_14 : decode bX9_init 14 = .ok (.sipush 601, 3) := by decide +kernel
theorem dX9_init_17 : decode bX9_init 17 = .ok (.newarray .int, 2) := by decide +kernel
theorem dX9_init_19 : decode bX9_init 19 = .ok (.putfield 15, 3) := by decide +kernel
theorem dX9_init_22 : decode bX9_init 22 = .ok (.return_, 1) := by decide +kernel
def f_X9_init (n : Nat) (h : Hp) (x0 : Nat) : Option (Unit × Hp) :=
  gd (kd x0 = 9) <|
  gd (kd (n + 1) = 13) <|
  gd (ln (n + 1) = 601) <|
  lt (sz h (n + 1)) <| fun h3 =>
  lt (sr h3 x0 0 (n + 1)) <| fun h5 =>
  gd (kd (n + 2) = 13) <|
  gd (ln (n + 2) = 601) <|
  lt (sz h5 (n + 2)) <| fun h9 =>
  lt (sr h9 x0 1 (n + 2)) <| fun h11 =>
  some ((), h11)
section
variable {p : Program} {l : Launch} {e : Env} {s : State} {m : MethodId} {args : Array Value} {below : List Frame} {meth : Method} {c : Code} {G : GG} {n : Nat} {h' : Hp} {rv : Unit}
set_option maxHeartbeats 4000000
set_option maxRecDepth 100000
theorem k_X9_init (l : Launch) (G : GG) (n : Nat) {h h' : Hp} {x0 : Nat} {rv : Unit} (b0 : 1 ≤ x0 ∧ x0 ≤ n) (hf : f_X9_init n h x0 = some (rv, h')) : CT l G n (n + 2) yX9_init (.code yX9_init bX9_init 1 none) 1 2 1202 [.ref (bs G + x0)] h h' none := by
  refine ct_of (maxL := 1) (ret := none) (bytes := bX9_init) (by decide) (Nat.le_of_ble_eq_true rfl) (fun p e s m below meth c C0 X ls hl => ?_)
  have hl : lv_has ls 1 [(0, .ref (bs G + x0))] := hl
  obtain ⟨hx, hb, hr, hml, hown, hts, hK, hlocks, hnm⟩ := id C0
  unfold f_X9_init at hf
  obtain ⟨o0, hf⟩ := gd_e hf
  refine lv_aload_n hx hb dX9_init_0 rfl (lv_at hl 0 rfl) ?_
  refine n_obj hx hb (hml.trans hl.1.symm) hown hts lo_X9_3 (by decide) (Nat.le_of_ble_eq_true rfl) dX9_init_1 ?_
  refine lv_aload_n hx hb dX9_init_4 rfl (lv_at hl 0 rfl) ?_
  refine lv_sipush (v := (601 : Int32)) hx hb dX9_init_5 (by decide) ?_
  obtain ⟨g1, hf⟩ := gd_e hf
  obtain ⟨g2, hf⟩ := gd_e hf
  refine n_arr (at0 := .int) (ty := .int) (t0 := 0) (cA0 := G.2.1) (N := 601) (cells1 := 1) (slots1 := 601) (n1 := (n + 1)) hx hb hts hK X rfl rfl (fun _ _ z => z) la_int rfl (cE_ni (Or.inl g1) g2) (by decide) (by decide) (by decide) rfl rfl rfl (by decide) (by decide) dX9_init_8 (fun H X => ?_)
  obtain ⟨h3, e4, hf⟩ := lt_e hf
  rw [← e4] at X
  refine g_PRa hx hb hts hown hK X o0 (by omega) (by omega) fl_X9_9 ft_9_0 (by decide) rfl (fun _ => rfl) (fun _ => rfl) dX9_init_10 (fun H locs X => ?_)
  obtain ⟨h5, e6, hf⟩ := lt_e hf
  rw [← e6] at X
  refine lv_aload_n hx hb dX9_init_13 rfl (lv_at hl 0 rfl) ?_
  refine lv_sipush (v := (601 : Int32)) hx hb dX9_init_14 (by decide) ?_
  obtain ⟨g7, hf⟩ := gd_e hf
  obtain ⟨g8, hf⟩ := gd_e hf
  refine n_arr (at0 := .int) (ty := .int) (t0 := 0) (cA0 := G.2.1) (N := 601) (cells1 := 2) (slots1 := 1202) (n1 := (n + 2)) hx hb hts hK X rfl rfl (fun _ _ z => z) la_int rfl (cE_ni (Or.inl g7) g8) (by decide) (by decide) (by decide) rfl rfl rfl (by decide) (by decide) dX9_init_17 (fun H X => ?_)
  obtain ⟨h9, e10, hf⟩ := lt_e hf
  rw [← e10] at X
  refine g_PRa hx hb hts hown hK X o0 (by omega) (by omega) fl_X9_15 ft_9_1 (by decide) rfl (fun _ => rfl) (fun _ => rfl) dX9_init_19 (fun H locs X => ?_)
  obtain ⟨h11, e12, hf⟩ := lt_e hf
  rw [← e12] at X
  exact r_V hx hb hr hlocks X hf dX9_init_22
end
theorem dX10_init_0 : decode bX10_init 0 = .ok (.aload_n 0, 1) := by decide +kernel
theorem dX10_init_1 : decode bX10_init 1 = .ok (.invokespecial 3, 3) := by decide +kernel
theorem dX10_init_4 : decode bX10_init 4 = .ok (.aload_n 0, 1) := by decide +kernel
theorem dX10_init_5 : decode bX10_init 5 = .ok (.bipush 10, 2) := by decide +kernel
theorem dX10_init_7 : decode bX10_init 7 = .ok (.newarray .int, 2) := by decide +kernel
theorem dX10_init_9 : decode bX10_init 9 = .ok (.putfield 9, 3) := by decide +kernel
theorem dX10_init_12 : decode bX10_init 12 = .ok (.aload_n 0, 1) := by decide +kernel
theorem dX10_init_13 : decode bX10_init 13 = .ok (.bipush 10, 2) := by decide +kernel
theorem dX10_init_15 : decode bX10_init 15 = .ok (.newarray .int, 2) := by decide +kernel
theorem dX10_init_17 : decode bX10_init 17 = .ok (.putfield 15, 3) := by decide +kernel
theorem dX10_init_20 : decode bX10_init 20 = .ok (.return_, 1) := by decide +kernel
def f_X10_init (n : Nat) (h : Hp) (x0 : Nat) : Option (Unit × Hp) :=
  gd (kd x0 = 10) <|
  gd (kd (n + 1) = 13) <|
  gd (ln (n + 1) = 10) <|
  lt (sz h (n + 1)) <| fun h3 =>
  lt (sr h3 x0 1 (n + 1)) <| fun h5 =>
  gd (kd (n + 2) = 13) <|
  gd (ln (n + 2) = 10) <|
  lt (sz h5 (n + 2)) <| fun h9 =>
  lt (sr h9 x0 2 (n + 2)) <| fun h11 =>
  some ((), h11)
section
variable {p : Program} {l : Launch} {e : Env} {s : State} {m : MethodId} {args : Array Value} {below : List Frame} {meth : Method} {c : Code} {G : GG} {n : Nat} {h' : Hp} {rv : Unit}
set_option maxHeartbeats 4000000
set_option maxRecDepth 100000
theorem k_X10_init (l : Launch) (G : GG) (n : Nat) {h h' : Hp} {x0 : Nat} {rv : Unit} (b0 : 1 ≤ x0 ∧ x0 ≤ n) (hf : f_X10_init n h x0 = some (rv, h')) : CT l G n (n + 2) yX10_init (.code yX10_init bX10_init 1 none) 1 2 20 [.ref (bs G + x0)] h h' none := by
  refine ct_of (maxL := 1) (ret := none) (bytes := bX10_init) (by decide) (Nat.le_of_ble_eq_true rfl) (fun p e s m below meth c C0 X ls hl => ?_)
  have hl : lv_has ls 1 [(0, .ref (bs G + x0))] := hl
  obtain ⟨hx, hb, hr, hml, hown, hts, hK, hlocks, hnm⟩ := id C0
  unfold f_X10_init at hf
  obtain ⟨o0, hf⟩ := gd_e hf
  refine lv_aload_n hx hb dX10_init_0 rfl (lv_at hl 0 rfl) ?_
  refine n_obj hx hb (hml.trans hl.1.symm) hown hts lo_X10_3 (by decide) (Nat.le_of_ble_eq_true rfl) dX10_init_1 ?_
  refine lv_aload_n hx hb dX10_init_4 rfl (lv_at hl 0 rfl) ?_
  refine lv_bipush (v := (10 : Int32)) hx hb dX10_init_5 (by decide) ?_
  obtain ⟨g1, hf⟩ := gd_e hf
  obtain ⟨g2, hf⟩ := gd_e hf
  refine n_arr (at0 := .int) (ty := .int) (t0 := 0) (cA0 := G.2.1) (N := 10) (cells1 := 1) (slots1 := 10) (n1 := (n + 1)) hx hb hts hK X rfl rfl (fun _ _ z => z) la_int rfl (cE_ni (Or.inl g1) g2) (by decide) (by decide) (by decide) rfl rfl rfl (by decide) (by decide) dX10_init_7 (fun H X => ?_)
  obtain ⟨h3, e4, hf⟩ := lt_e hf
  rw [← e4] at X
  refine g_PFa hx hb hts hown hK X o0 (by omega) (by omega) fl_X10_9 ft_10_1 (by decide) rfl hnm fo_10_1 (fun _ => rfl) (fun _ => rfl) dX10_init_9 (fun H locs X => ?_)
  obtain ⟨h5, e6, hf⟩ := lt_e hf
  rw [← e6] at X
  refine lv_aload_n hx hb dX10_init_12 rfl (lv_at hl 0 rfl) ?_
  refine lv_bipush (v := (10 : Int32)) hx hb dX10_init_13 (by decide) ?_
  obtain ⟨g7, hf⟩ := gd_e hf
  obtain ⟨g8, hf⟩ := gd_e hf
  refine n_arr (at0 := .int) (ty := .int) (t0 := 0) (cA0 := G.2.1) (N := 10) (cells1 := 2) (slots1 := 20) (n1 := (n + 2)) hx hb hts hK X rfl rfl (fun _ _ z => z) la_int rfl (cE_ni (Or.inl g7) g8) (by decide) (by decide) (by decide) rfl rfl rfl (by decide) (by decide) dX10_init_15 (fun H X => ?_)
  obtain ⟨h9, e10, hf⟩ := lt_e hf
  rw [← e10] at X
  refine g_PFa hx hb hts hown hK X o0 (by omega) (by omega) fl_X10_15 ft_10_2 (by decide) rfl hnm fo_10_2 (fun _ => rfl) (fun _ => rfl) dX10_init_17 (fun H locs X => ?_)
  obtain ⟨h11, e12, hf⟩ := lt_e hf
  rw [← e12] at X
  exact r_V hx hb hr hlocks X hf dX10_init_20
end
theorem dX11_init_0 : decode bX11_init 0 = .ok (.aload_n 0, 1) := by decide +kernel
theorem dX11_init_1 : decode bX11_init 1 = .ok (.invokespecial 1, 3) := by decide +kernel
theorem dX11_init_4 : decode bX11_init 4 = .ok (.aload_n 0, 1) := by decide +kernel
theorem dX11_init_5 : decode bX11_init 5 = .ok (.new 7, 3) := by decide +kernel
theorem dX11_init_8 : decode bX11_init 8 = .ok (.dup, 1) := by decide +kernel
theorem dX11_init_9 : decode bX11_init 9 = .ok (.invokespecial 9, 3) := by decide +kernel
theorem dX11_init_12 : decode bX11_init 12 = .ok (.putfield 10, 3) := by decide +kernel
theorem dX11_init_15 : decode bX11_init 15 = .ok (.aload_n 0, 1) := by decide +kernel
theorem dX11_init_16 : decode bX11_init 16 = .ok (.new 16, 3) := by decide +kernel
theorem dX11_init_19 : decode bX11_init 19 = .ok (.dup, 1) := by decide +kernel
theorem dX11_init_20 : decode bX11_init 20 = .ok (.invokespecial 18, 3) := by decide +kernel
theorem dX11_init_23 : decode bX11_init 23 = .ok (.putfield 19, 3) := by decide +kernel
theorem dX11_init_26 : decode bX11_init 26 = .ok (.aload_n 0, 1) := by decide +kernel
theorem dX11_init_27 : decode bX11_init 27 = .ok (.new 16, 3) := by decide +kernel
theorem dX11_init_30 : decode bX11_init 30 = .ok (.dup, 1) := by decide +kernel
theorem dX11_init_31 : decode bX11_init 31 = .ok (.invokespecial 18, 3) := by decide +kernel
theorem dX11_init_34 : decode bX11_init 34 = .ok (.putfield 23, 3) := by decide +kernel
theorem dX11_init_37 : decode bX11_init 37 = .ok (.aload_n 0, 1) := by decide +kernel
theorem dX11_init_38 : decode bX11_init 38 = .ok (.new 26, 3) := by decide +kernel
theorem dX11_init_41 : decode bX11_init 41 = .ok (.dup, 1) := by decide +kernel
theorem dX11_init_42 : decode bX11_init 42 = .ok (.invokespecial 28, 3) := by decide +kernel
theorem dX11_init_45 : decode bX11_init 45 = .ok (.putfield 29, 3) := by decide +kernel
theorem dX11_init_48 : decode bX11_init 48 = .ok (.aload_n 0, 1) := by decide +kernel
theorem dX11_init_49 : decode bX11_init 49 = .ok (.new 33, 3) := by decide +kernel
theorem dX11_init_52 : decode bX11_init 52 = .ok (.dup, 1) := by decide +kernel
theorem dX11_init_53 : decode bX11_init 53 = .ok (.bipush 8, 2) := by decide +kernel
theorem dX11_init_55 : decode bX11_init 55 = .ok (.invokespecial 35, 3) := by decide +kernel
theorem dX11_init_58 : decode bX11_init 58 = .ok (.putfield 38, 3) := by decide +kernel
theorem dX11_init_61 : decode bX11_init 61 = .ok (.aload_n 0, 1) := by decide +kernel
theorem dX11_init_62 : decode bX11_init 62 = .ok (.new 33, 3) := by decide +kernel
theorem dX11_init_65 : decode bX11_init 65 = .ok (.dup, 1) := by decide +kernel
theorem dX11_init_66 : decode bX11_init 66 = .ok (.iconst 2, 1) := by decide +kernel
theorem dX11_init_67 : decode bX11_init 67 = .ok (.invokespecial 35, 3) := by decide +kernel
theorem dX11_init_70 : decode bX11_init 70 = .ok (.putfield 42, 3) := by decide +kernel
theorem dX11_init_73 : decode bX11_init 73 = .ok (.aload_n 0, 1) := by decide +kernel
theorem dX11_init_74 : decode bX11_init 74 = .ok (.new 45, 3) := by decide +kernel
theorem dX11_init_77 : decode bX11_init 77 = .ok (.dup, 1) := by decide +kernel
theorem dX11_init_78 : decode bX11_init 78 = .ok (.invokespecial 47, 3) := by decide +kernel
theorem dX11_init_81 : decode bX11_init 81 = .ok (.putfield 48, 3) := by decide +kernel
theorem dX11_init_84 : decode bX11_init 84 = .ok (.aload_n 0, 1) := by decide +kernel
theorem dX11_init_85 : decode bX11_init 85 = .ok (.new 52, 3) := by decide +kernel
theorem dX11_init_88 : decode bX11_init 88 = .ok (.dup, 1) := by decide +kernel
theorem dX11_init_89 : decode bX11_init 89 = .ok (.invokespecial 54, 3) := by decide +kernel
theorem dX11_init_92 : decode bX11_init 92 = .ok (.putfield 55, 3) := by decide +kernel
theorem dX11_init_95 : decode bX11_init 95 = .ok (.aload_n 0, 1) := by decide +kernel
theorem dX11_init_96 : decode bX11_init 96 = .ok (.new 59, 3) := by decide +kernel
theorem dX11_init_99 : decode bX11_init 99 = .ok (.dup, 1) := by decide +kernel
theorem dX11_init_100 : decode bX11_init 100 = .ok (.invokespecial 61, 3) := by decide +kernel
theorem dX11_init_103 : decode bX11_init 103 = .ok (.putfield 62, 3) := by decide +kernel
theorem dX11_init_106 : decode bX11_init 106 = .ok (.aload_n 0, 1) := by decide +kernel
theorem dX11_init_107 : decode bX11_init 107 = .ok (.new 66, 3) := by decide +kernel
theorem dX11_init_110 : decode bX11_init 110 = .ok (.dup, 1) := by decide +kernel
theorem dX11_init_111 : decode bX11_init 111 = .ok (.invokespecial 68, 3) := by decide +kernel
theorem dX11_init_114 : decode bX11_init 114 = .ok (.putfield 69, 3) := by decide +kernel
theorem dX11_init_117 : decode bX11_init 117 = .ok (.aload_n 0, 1) := by decide +kernel
theorem dX11_init_118 : decode bX11_init 118 = .ok (.new 73, 3) := by decide +kernel
theorem dX11_init_121 : decode bX11_init 121 = .ok (.dup, 1) := by decide +kernel
theorem dX11_init_122 : decode bX11_init 122 = .ok (.invokespecial 75, 3) := by decide +kernel
theorem dX11_init_125 : decode bX11_init 125 = .ok (.putfield 76, 3) := by decide +kernel
theorem dX11_init_128 : decode bX11_init 128 = .ok (.aload_n 0, 1) := by decide +kernel
theorem dX11_init_129 : decode bX11_init 129 = .ok (.new 80, 3) := by decide +kernel
theorem dX11_init_132 : decode bX11_init 132 = .ok (.dup, 1) := by decide +kernel
theorem dX11_init_133 : decode bX11_init 133 = .ok (.aload_n 0, 1) := by decide +kernel
theorem dX11_init_134 : decode bX11_init 134 = .ok (.getfield 69, 3) := by decide +kernel
theorem dX11_init_137 : decode bX11_init 137 = .ok (.invokespecial 82, 3) := by decide +kernel
theorem dX11_init_140 : decode bX11_init 140 = .ok (.putfield 85, 3) := by decide +kernel
theorem dX11_init_143 : decode bX11_init 143 = .ok (.iconst 0, 1) := by decide +kernel
theorem dX11_init_144 : decode bX11_init 144 = .ok (.istore_n 1, 1) := by decide +kernel
theorem dX11_init_145 : decode bX11_init 145 = .ok (.iload_n 1, 1) := by decide +kernel
theorem dX11_init_146 : decode bX11_init 146 = .ok (.ldc 89, 2) := by decide +kernel
theorem dX11_init_148 : decode bX11_init 148 = .ok (.invokevirtual 91, 3) := by decide +kernel
theorem dX11_init_151 : decode bX11_init 151 = .ok (.if_icmp .ge 23, 3) := by decide +kernel
theorem dX11_init_154 : decode bX11_init 154 = .ok (.aload_n 0, 1) := by decide +kernel
theorem dX11_init_155 : decode bX11_init 155 = .ok (.getfield 10, 3) := by decide +kernel
theorem dX11_init_158 : decode bX11_init 158 = .ok (.ldc 89, 2) := by decide +kernel
theorem dX11_init_160 : decode bX11_init 160 = .ok (.iload_n 1, 1) := by decide +kernel
theorem dX11_init_161 : decode bX11_init 161 = .ok (.invokevirtual 97, 3) := by decide +kernel
theorem dX11_init_164 : decode bX11_init 164 = .ok (.invokevirtual 101, 3) := by decide +kernel
theorem dX11_init_167 : decode bX11_init 167 = .ok (.pop, 1) := by decide +kernel
theorem dX11_init_168 : decode bX11_init 168 = .ok (.iinc 1 1, 3) := by decide +kernel
theorem dX11_init_171 : decode bX11_init 171 = .ok (.goto (-26), 3) := by decide +kernel
theorem dX11_init_174 : decode bX11_init 174 = .ok (.aload_n 0, 1) := by decide +kernel
theorem dX11_init_175 : decode bX11_init 175 = .ok (.getfield 10, 3) := by decide +kernel
theorem dX11_init_178 : decode bX11_init 178 = .ok (.aload_n 0, 1) := by decide +kernel
theorem dX11_init_179 : decode bX11_init 179 = .ok (.getfield 19, 3) := by decide +kernel
theorem dX11_init_182 : decode bX11_init 182 = .ok (.invokevirtual 105, 3) := by decide +kernel
theorem dX11_init_185 : decode bX11_init 185 = .ok (.pop, 1) := by decide +kernel
theorem dX11_init_186 : decode bX11_init 186 = .ok (.aload_n 0, 1) := by decide +kernel
theorem dX11_init_187 : decode bX11_init 187 = .ok (.getfield 10, 3) := by decide +kernel
theorem dX11_init_190 : decode bX11_init 190 = .ok (.iconst 0, 1) := by decide +kernel
theorem dX11_init_191 : decode bX11_init 191 = .ok (.putfield 109, 3) := by decide +kernel
theorem dX11_init_194 : decode bX11_init 194 = .ok (.aload_n 0, 1) := by decide +kernel
theorem dX11_init_195 : decode bX11_init 195 = .ok (.getfield 69, 3) := by decide +kernel
theorem dX11_init_198 : decode bX11_init 198 = .ok (.aload_n 0, 1) := by decide +kernel
theorem dX11_init_199 : decode bX11_init 199 = .ok (.getfield 19, 3) := by decide +kernel
theorem dX11_init_202 : decode bX11_init 202 = .ok (.invokevirtual 112, 3) := by decide +kernel
theorem dX11_init_205 : decode bX11_init 205 = .ok (.return_, 1) := by decide +kernel
def f_X11_init_145 : Nat → Hp → Nat → Int32 → Option (Unit × Hp)
  | 0 => fun _ _ _ => none
  | fu + 1 => fun h x0 x1 =>
    if (26 : Int32) ≤ x1 then
      gd (kd (h.2 x0 0) = 8) <|
      gd (kd (h.2 x0 1) = 4) <|
      bd (f_X8_readInto h (h.2 x0 0) (h.2 x0 1)) <| fun r3 h4 =>
      gd (kd (h4.2 x0 0) = 8) <|
      lt ((si h4 (h4.2 x0 0) 0 (0 : Int32))) <| fun h7 =>
      gd (kd (h7.2 x0 9) = 5) <|
      gd (kd (h7.2 x0 1) = 4) <|
      bd (f_X5_forget h7 (h7.2 x0 9) (h7.2 x0 1)) <| fun r11 h12 =>
      some ((), h12)
    else
      gd (kd (h.2 x0 0) = 8) <|
      gd (inr x1 26 = true) <|
      bd (f_X8_append h (h.2 x0 0) (txl x1.toNatClampNeg)) <| fun r16 h17 =>
      f_X11_init_145 fu h17 x0 (x1 + (1 : Int32))
def f_X11_init (h : Hp) (x0 : Nat) : Option (Unit × Hp) :=
  gd (kd x0 = 11) <|
  gd (kd 2 = 8) <|
  lt (sz h 2) <| fun h2 =>
  bd (f_X8_init 2 h2 2) <| fun r6 h4 =>
  lt (sr h4 x0 0 2) <| fun h7 =>
  gd (kd 5 = 4) <|
  lt (sz h7 5) <| fun h10 =>
  bd (f_X4_init 5 h10 5) <| fun r14 h12 =>
  lt (sr h12 x0 1 5) <| fun h15 =>
  gd (kd 9 = 4) <|
  lt (sz h15 9) <| fun h18 =>
  bd (f_X4_init 9 h18 9) <| fun r22 h20 =>
  lt (sr h20 x0 2 9) <| fun h23 =>
  gd (kd 13 = 2) <|
  lt (sz h23 13) <| fun h26 =>
  bd (f_X2_init 13 h26 13) <| fun r30 h28 =>
  lt (sr h28 x0 3 13) <| fun h31 =>
  gd (kd 16 = 3) <|
  lt (sz h31 16) <| fun h34 =>
  bd (f_X3_init 8 16 h34 16 (8 : Int32)) <| fun r38 h36 =>
  lt (sr h36 x0 4 16) <| fun h39 =>
  gd (kd 42 = 3) <|
  lt (sz h39 42) <| fun h42 =>
  bd (f_X3_init 2 42 h42 42 (2 : Int32)) <| fun r46 h44 =>
  lt (sr h44 x0 5 42) <| fun h47 =>
  gd (kd 50 = 10) <|
  lt (sz h47 50) <| fun h50 =>
  bd (f_X10_init 50 h50 50) <| fun r54 h52 =>
  lt (sr h52 x0 6 50) <| fun h55 =>
  gd (kd 53 = 0) <|
  lt (sz h55 53) <| fun h58 =>
  bd (f_X0_init 53 h58 53) <| fun r62 h60 =>
  lt (sr h60 x0 7 53) <| fun h63 =>
  gd (kd 58 = 9) <|
  lt (sz h63 58) <| fun h66 =>
  bd (f_X9_init 58 h66 58) <| fun r70 h68 =>
  lt (sr h68 x0 8 58) <| fun h71 =>
  gd (kd 61 = 5) <|
  lt (sz h71 61) <| fun h74 =>
  bd (f_X5_init 61 h74 61) <| fun r78 h76 =>
  lt (sr h76 x0 9 61) <| fun h79 =>
  gd (kd 75 = 6) <|
  lt (sz h79 75) <| fun h82 =>
  bd (f_X6_init 75 h82 75) <| fun r86 h84 =>
  lt (sr h84 x0 10 75) <| fun h87 =>
  gd (kd 78 = 1) <|
  lt (sz h87 78) <| fun h90 =>
  gd (kd (h90.2 x0 9) = 5) <|
  gd (1 ≤ (h90.2 x0 9) ∧ (h90.2 x0 9) ≤ 78) <|
  bd (f_X1_init 78 h90 78 (h90.2 x0 9)) <| fun r96 h94 =>
  lt (sr h94 x0 11 78) <| fun h97 =>
  f_X11_init_145 FU h97 x0 (0 : Int32)
section
variable {p : Program} {l : Launch} {e : Env} {s : State} {m : MethodId} {args : Array Value} {below : List Frame} {meth : Method} {c : Code} {G : GG} {n : Nat} {h' : Hp} {rv : Unit}
set_option maxHeartbeats 4000000
set_option maxRecDepth 100000
theorem j_X11_init_145 (C0 : Cx p s m args meth c G bX11_init RX11 2 none "<init>") (hN : NX ≤ 82) {sK sV : Nat} (hS : StrOK G sK sV s) : ∀ (fu : Nat), ∀ {H : Heap} {locs : List Loc} {ls : Array Slot} {h : Hp} {x0 : Nat} {x1 : Int32}, XW G 82 h s 81 H locs → lv_has ls 2 [(0, .ref (bs G + x0)), (1, .int x1)] → kd x0 = 11 → f_X11_init_145 fu h x0 x1 = some (rv, h') → W p l e (rmC 6 81 22076) s m args below meth c H locs 81 22076 (MQ below (QP G 82 h' none) args s 81 22076 (Ab G)) (F0 m 145 ls []) := by
  obtain ⟨hx, hb, hr, hml, hown, hts, hK, hlocks, hnm⟩ := id C0
  intro fu
  induction fu with
  | zero => intro H locs ls h x0 x1 X hl o0 hf; cases hf
  | succ fu ih =>
    intro H locs ls h x0 x1 X hl o0 hf
    rw [f_X11_init_145] at hf
    refine lv_iload_n hx hb dX11_init_145 rfl (lv_at hl 1 rfl) ?_
    refine s_ldc hx hb hown hS dX11_init_146 ?_
    refine s_len hx hb hml hl.1 hown hts hS X (by decide) (Nat.le_of_ble_eq_true rfl) ⟨by decide, by decide⟩ dX11_init_148 ?_
    refine lv_icmp_ge (tgt := 174) hx hb dX11_init_151 (by decide) (fun c151 => ?_) (fun c151 => ?_)
    · have hf := ite_t hf c151
      refine lv_aload_n hx hb dX11_init_174 rfl (lv_at hl 0 rfl) ?_
      obtain ⟨g1, hf⟩ := gd_e hf
      refine g_R hx hb hts hown hK X o0 hN g1 fl_X11_10 (by decide) rfl (by decide) dX11_init_175 ?_
      refine lv_aload_n hx hb dX11_init_178 rfl (lv_at hl 0 rfl) ?_
      obtain ⟨g2, hf⟩ := gd_e hf
      refine g_R hx hb hts hown hK X o0 hN g2 fl_X11_19 (by decide) rfl (by decide) dX11_init_179 ?_
      obtain ⟨r3, h4, q5, hf⟩ := bd_e hf
      refine c_V1 (As := [.ref (bs G + (h.2 x0 1))]) (rest := []) (st1 := [.int r3]) hx hb hml hown hts hK X (k_X8_readInto l G 82 hN q5) g1 hN lc_X8_readInto lv_X11_105 (ci := 8) rfl rfl (by decide) rfl hl.1 (Nat.le_of_ble_eq_true rfl) dX11_init_182 rfl ⟨by decide, by decide⟩ (fun H locs X => ?_)
      refine lv_pop hx hb dX11_init_185 rfl ?_
      refine lv_aload_n hx hb dX11_init_186 rfl (lv_at hl 0 rfl) ?_
      obtain ⟨g6, hf⟩ := gd_e hf
      refine g_R hx hb hts hown hK X o0 hN g6 fl_X11_10 (by decide) rfl (by decide) dX11_init_187 ?_
      refine lv_iconst (v := (0 : Int32)) hx hb dX11_init_190 (by decide) ?_
      refine g_PI hx hb hts hown hK X g6 hN fl_X11_109 ft_8_0 (by decide) rfl dX11_init_191 (fun H locs X => ?_)
      obtain ⟨h7, e8, hf⟩ := lt_e hf
      rw [← e8] at X
      refine lv_aload_n hx hb dX11_init_194 rfl (lv_at hl 0 rfl) ?_
      obtain ⟨g9, hf⟩ := gd_e hf
      refine g_R hx hb hts hown hK X o0 hN g9 fl_X11_69 (by decide) rfl (by decide) dX11_init_195 ?_
      refine lv_aload_n hx hb dX11_init_198 rfl (lv_at hl 0 rfl) ?_
      obtain ⟨g10, hf⟩ := gd_e hf
      refine g_R hx hb hts hown hK X o0 hN g10 fl_X11_19 (by decide) rfl (by decide) dX11_init_199 ?_
      obtain ⟨r11, h12, q13, hf⟩ := bd_e hf
      refine c_V1 (As := [.ref (bs G + (h7.2 x0 1))]) (rest := []) (st1 := []) hx hb hml hown hts hK X (k_X5_forget l G 82 hN q13) g9 hN lc_X5_forget lv_X11_112 (ci := 5) rfl rfl (by decide) rfl hl.1 (Nat.le_of_ble_eq_true rfl) dX11_init_202 rfl ⟨by decide, by decide⟩ (fun H locs X => ?_)
      exact r_V hx hb hr hlocks X hf dX11_init_205
    · have hf := ite_f hf c151
      refine lv_aload_n hx hb dX11_init_154 rfl (lv_at hl 0 rfl) ?_
      obtain ⟨g14, hf⟩ := gd_e hf
      refine g_R hx hb hts hown hK X o0 hN g14 fl_X11_10 (by decide) rfl (by decide) dX11_init_155 ?_
      refine s_ldc hx hb hown hS dX11_init_158 ?_
      refine lv_iload_n hx hb dX11_init_160 rfl (lv_at hl 1 rfl) ?_
      obtain ⟨g15, hf⟩ := gd_e hf
      refine s_chr hx hb hml hl.1 hown hts hS X g15 (by decide) (Nat.le_of_ble_eq_true rfl) ⟨by decide, by decide⟩ dX11_init_161 ?_
      obtain ⟨r16, h17, q18, hf⟩ := bd_e hf
      refine c_V1 (As := [.int (txl x1.toNatClampNeg)]) (rest := []) (st1 := [.int r16]) hx hb hml hown hts hK X (k_X8_append l G 82 hN q18) g14 hN lc_X8_append lv_X11_101 (ci := 8) rfl rfl (by decide) rfl hl.1 (Nat.le_of_ble_eq_true rfl) dX11_init_164 rfl ⟨by decide, by decide⟩ (fun H locs X => ?_)
      refine lv_pop hx hb dX11_init_167 rfl ?_
      refine lv_iinc (v := (x1 + (1 : Int32))) (lv' := [(1, .int (x1 + (1 : Int32))), (0, .ref (bs G + x0))]) hx hb dX11_init_168 hl (k := 1) rfl rfl (by decide) rfl (fun ls hl => ?_)
      refine lv_goto (tgt := 145) hx hb dX11_init_171 (by decide) ?_
      exact ih X (lv_sub hl [1, 0] rfl) o0 hf
theorem k_X11_init (l : Launch) (G : GG) {h h' : Hp} {x0 : Nat} {rv : Unit} {sK sV : Nat} (b0 : 1 ≤ x0 ∧ x0 ≤ 1) (hf : f_X11_init h x0 = some (rv, h')) : CTS sK sV l G 1 82 yX11_init (.code yX11_init bX11_init 2 none) 6 81 22076 [.ref (bs G + x0)] h h' none := by
  refine cts_of (maxL := 2) (bytes := bX11_init) (by decide) (Nat.le_of_ble_eq_true rfl) (fun p e s m below meth c C0 X hS ls hl => ?_)
  have hl : lv_has ls 2 [(0, .ref (bs G + x0))] := hl
  obtain ⟨hx, hb, hr, hml, hown, hts, hK, hlocks, hnm⟩ := id C0
  have hN : NX ≤ 82 := by decide
  unfold f_X11_init at hf
  obtain ⟨o0, hf⟩ := gd_e hf
  refine lv_aload_n hx hb dX11_init_0 rfl (lv_at hl 0 rfl) ?_
  refine n_obj hx hb (hml.trans hl.1.symm) hown hts lo_X11_1 (by decide) (Nat.le_of_ble_eq_true rfl) dX11_init_1 ?_
  refine lv_aload_n hx hb dX11_init_4 rfl (lv_at hl 0 rfl) ?_
  obtain ⟨g1, hf⟩ := gd_e hf
  refine n_new (ci := 8) (cells1 := 1) (slots1 := 5) (n1 := 2) hx hb hts hown hK X g1 rfl ln_X11_7 rfl rfl rfl (by decide) (by decide) dX11_init_5 (fun H X => ?_)
  obtain ⟨h2, e3, hf⟩ := lt_e hf
  rw [← e3] at X
  refine lv_dup hx hb dX11_init_8 rfl ?_
  obtain ⟨r6, h4, q5, hf⟩ := bd_e hf
  refine c_IN1 (As := []) (rest := [.ref (bs G + 2), .ref (bs G + x0)]) (n1 := 4) (cells1 := 3) (slots1 := 208) hx hb hml hown hts hK X (k_X8_init l G 2 (by omega) q5) rfl lc_X8_init li_X11_9 (by decide) rfl hl.1 (Nat.le_of_ble_eq_true rfl) dX11_init_9 rfl rfl ⟨by decide, by decide⟩ (fun H locs X => ?_)
  refine g_PFa hx hb hts hown hK X o0 (by omega) (by omega) fl_X11_10 ft_11_0 (by decide) rfl hnm fo_11_0 (fun _ => rfl) (fun _ => rfl) dX11_init_12 (fun H locs X => ?_)
  obtain ⟨h7, e8, hf⟩ := lt_e hf
  rw [← e8] at X
  refine lv_aload_n hx hb dX11_init_15 rfl (lv_at hl 0 rfl) ?_
  obtain ⟨g9, hf⟩ := gd_e hf
  refine n_new (ci := 4) (cells1 := 4) (slots1 := 216) (n1 := 5) hx hb hts hown hK X g9 rfl ln_X11_16 rfl rfl rfl (by decide) (by decide) dX11_init_16 (fun H X => ?_)
  obtain ⟨h10, e11, hf⟩ := lt_e hf
  rw [← e11] at X
  refine lv_dup hx hb dX11_init_19 rfl ?_
  obtain ⟨r14, h12, q13, hf⟩ := bd_e hf
  refine c_IN1 (As := []) (rest := [.ref (bs G + 5), .ref (bs G + x0)]) (n1 := 8) (cells1 := 7) (slots1 := 253) hx hb hml hown hts hK X (k_X4_init l G 5 (by omega) q13) rfl lc_X4_init li_X11_18 (by decide) rfl hl.1 (Nat.le_of_ble_eq_true rfl) dX11_init_20 rfl rfl ⟨by decide, by decide⟩ (fun H locs X => ?_)
  refine g_PRa hx hb hts hown hK X o0 (by omega) (by omega) fl_X11_19 ft_11_1 (by decide) rfl (fun _ => rfl) (fun _ => rfl) dX11_init_23 (fun H locs X => ?_)
  obtain ⟨h15, e16, hf⟩ := lt_e hf
  rw [← e16] at X
  refine lv_aload_n hx hb dX11_init_26 rfl (lv_at hl 0 rfl) ?_
  obtain ⟨g17, hf⟩ := gd_e hf
  refine n_new (ci := 4) (cells1 := 8) (slots1 := 261) (n1 := 9) hx hb hts hown hK X g17 rfl ln_X11_16 rfl rfl rfl (by decide) (by decide) dX11_init_27 (fun H X => ?_)
  obtain ⟨h18, e19, hf⟩ := lt_e hf
  rw [← e19] at X
  refine lv_dup hx hb dX11_init_30 rfl ?_
  obtain ⟨r22, h20, q21, hf⟩ := bd_e hf
  refine c_IN1 (As := []) (rest := [.ref (bs G + 9), .ref (bs G + x0)]) (n1 := 12) (cells1 := 11) (slots1 := 298) hx hb hml hown hts hK X (k_X4_init l G 9 (by omega) q21) rfl lc_X4_init li_X11_18 (by decide) rfl hl.1 (Nat.le_of_ble_eq_true rfl) dX11_init_31 rfl rfl ⟨by decide, by decide⟩ (fun H locs X => ?_)
  refine g_PRa hx hb hts hown hK X o0 (by omega) (by omega) fl_X11_23 ft_11_2 (by decide) rfl (fun _ => rfl) (fun _ => rfl) dX11_init_34 (fun H locs X => ?_)
  obtain ⟨h23, e24, hf⟩ := lt_e hf
  rw [← e24] at X
  refine lv_aload_n hx hb dX11_init_37 rfl (lv_at hl 0 rfl) ?_
  obtain ⟨g25, hf⟩ := gd_e hf
  refine n_new (ci := 2) (cells1 := 12) (slots1 := 303) (n1 := 13) hx hb hts hown hK X g25 rfl ln_X11_26 rfl rfl rfl (by decide) (by decide) dX11_init_38 (fun H X => ?_)
  obtain ⟨h26, e27, hf⟩ := lt_e hf
  rw [← e27] at X
  refine lv_dup hx hb dX11_init_41 rfl ?_
  obtain ⟨r30, h28, q29, hf⟩ := bd_e hf
  refine c_IN1 (As := []) (rest := [.ref (bs G + 13), .ref (bs G + x0)]) (n1 := 15) (cells1 := 14) (slots1 := 317) hx hb hml hown hts hK X (k_X2_init l G 13 (by omega) q29) rfl lc_X2_init li_X11_28 (by decide) rfl hl.1 (Nat.le_of_ble_eq_true rfl) dX11_init_42 rfl rfl ⟨by decide, by decide⟩ (fun H locs X => ?_)
  refine g_PFa hx hb hts hown hK X o0 (by omega) (by omega) fl_X11_29 ft_11_3 (by decide) rfl hnm fo_11_3 (fun _ => rfl) (fun _ => rfl) dX11_init_45 (fun H locs X => ?_)
  obtain ⟨h31, e32, hf⟩ := lt_e hf
  rw [← e32] at X
  refine lv_aload_n hx hb dX11_init_48 rfl (lv_at hl 0 rfl) ?_
  obtain ⟨g33, hf⟩ := gd_e hf
  refine n_new (ci := 3) (cells1 := 15) (slots1 := 319) (n1 := 16) hx hb hts hown hK X g33 rfl ln_X11_33 rfl rfl rfl (by decide) (by decide) dX11_init_49 (fun H X => ?_)
  obtain ⟨h34, e35, hf⟩ := lt_e hf
  rw [← e35] at X
  refine lv_dup hx hb dX11_init_52 rfl ?_
  refine lv_bipush (v := (8 : Int32)) hx hb dX11_init_53 (by decide) ?_
  obtain ⟨r38, h36, q37, hf⟩ := bd_e hf
  refine c_I1 (As := [.int (8 : Int32)]) (rest := [.ref (bs G + 16), .ref (bs G + x0)]) (n1 := 41) (cells1 := 40) (slots1 := 479) hx hb hml hown hts hK X (k_X3_init l G 8 16 (by omega) q37) rfl lc_X3_init li_X11_35 (by decide) rfl hl.1 (Nat.le_of_ble_eq_true rfl) dX11_init_55 rfl rfl ⟨by decide, by decide⟩ (fun H locs X => ?_)
  refine g_PFa hx hb hts hown hK X o0 (by omega) (by omega) fl_X11_38 ft_11_4 (by decide) rfl hnm fo_11_4 (fun _ => rfl) (fun _ => rfl) dX11_init_58 (fun H locs X => ?_)
  obtain ⟨h39, e40, hf⟩ := lt_e hf
  rw [← e40] at X
  refine lv_aload_n hx hb dX11_init_61 rfl (lv_at hl 0 rfl) ?_
  obtain ⟨g41, hf⟩ := gd_e hf
  refine n_new (ci := 3) (cells1 := 41) (slots1 := 481) (n1 := 42) hx hb hts hown hK X g41 rfl ln_X11_33 rfl rfl rfl (by decide) (by decide) dX11_init_62 (fun H X => ?_)
  obtain ⟨h42, e43, hf⟩ := lt_e hf
  rw [← e43] at X
  refine lv_dup hx hb dX11_init_65 rfl ?_
  refine lv_iconst (v := (2 : Int32)) hx hb dX11_init_66 (by decide) ?_
  obtain ⟨r46, h44, q45, hf⟩ := bd_e hf
  refine c_I1 (As := [.int (2 : Int32)]) (rest := [.ref (bs G + 42), .ref (bs G + x0)]) (n1 := 49) (cells1 := 48) (slots1 := 521) hx hb hml hown hts hK X (k_X3_init l G 2 42 (by omega) q45) rfl lc_X3_init li_X11_35 (by decide) rfl hl.1 (Nat.le_of_ble_eq_true rfl) dX11_init_67 rfl rfl ⟨by decide, by decide⟩ (fun H locs X => ?_)
  refine g_PFa hx hb hts hown hK X o0 (by omega) (by omega) fl_X11_42 ft_11_5 (by decide) rfl hnm fo_11_5 (fun _ => rfl) (fun _ => rfl) dX11_init_70 (fun H locs X => ?_)
  obtain ⟨h47, e48, hf⟩ := lt_e hf
  rw [← e48] at X
  refine lv_aload_n hx hb dX11_init_73 rfl (lv_at hl 0 rfl) ?_
  obtain ⟨g49, hf⟩ := gd_e hf
  refine n_new (ci := 10) (cells1 := 49) (slots1 := 524) (n1 := 50) hx hb hts hown hK X g49 rfl ln_X11_45 rfl rfl rfl (by decide) (by decide) dX11_init_74 (fun H X => ?_)
  obtain ⟨h50, e51, hf⟩ := lt_e hf
  rw [← e51] at X
  refine lv_dup hx hb dX11_init_77 rfl ?_
  obtain ⟨r54, h52, q53, hf⟩ := bd_e hf
  refine c_IN1 (As := []) (rest := [.ref (bs G + 50), .ref (bs G + x0)]) (n1 := 52) (cells1 := 51) (slots1 := 544) hx hb hml hown hts hK X (k_X10_init l G 50 (by omega) q53) rfl lc_X10_init li_X11_47 (by decide) rfl hl.1 (Nat.le_of_ble_eq_true rfl) dX11_init_78 rfl rfl ⟨by decide, by decide⟩ (fun H locs X => ?_)
  refine g_PFa hx hb hts hown hK X o0 (by omega) (by omega) fl_X11_48 ft_11_6 (by decide) rfl hnm fo_11_6 (fun _ => rfl) (fun _ => rfl) dX11_init_81 (fun H locs X => ?_)
  obtain ⟨h55, e56, hf⟩ := lt_e hf
  rw [← e56] at X
  refine lv_aload_n hx hb dX11_init_84 rfl (lv_at hl 0 rfl) ?_
  obtain ⟨g57, hf⟩ := gd_e hf
  refine n_new (ci := 0) (cells1 := 52) (slots1 := 550) (n1 := 53) hx hb hts hown hK X g57 rfl ln_X11_52 rfl rfl rfl (by decide) (by decide) dX11_init_85 (fun H X => ?_)
  obtain ⟨h58, e59, hf⟩ := lt_e hf
  rw [← e59] at X
  refine lv_dup hx hb dX11_init_88 rfl ?_
  obtain ⟨r62, h60, q61, hf⟩ := bd_e hf
  refine c_IN1 (As := []) (rest := [.ref (bs G + 53), .ref (bs G + x0)]) (n1 := 57) (cells1 := 56) (slots1 := 574) hx hb hml hown hts hK X (k_X0_init l G 53 (by omega) q61) rfl lc_X0_init li_X11_54 (by decide) rfl hl.1 (Nat.le_of_ble_eq_true rfl) dX11_init_89 rfl rfl ⟨by decide, by decide⟩ (fun H locs X => ?_)
  refine g_PFa hx hb hts hown hK X o0 (by omega) (by omega) fl_X11_55 ft_11_7 (by decide) rfl hnm fo_11_7 (fun _ => rfl) (fun _ => rfl) dX11_init_92 (fun H locs X => ?_)
  obtain ⟨h63, e64, hf⟩ := lt_e hf
  rw [← e64] at X
  refine lv_aload_n hx hb dX11_init_95 rfl (lv_at hl 0 rfl) ?_
  obtain ⟨g65, hf⟩ := gd_e hf
  refine n_new (ci := 9) (cells1 := 57) (slots1 := 577) (n1 := 58) hx hb hts hown hK X g65 rfl ln_X11_59 rfl rfl rfl (by decide) (by decide) dX11_init_96 (fun H X => ?_)
  obtain ⟨h66, e67, hf⟩ := lt_e hf
  rw [← e67] at X
  refine lv_dup hx hb dX11_init_99 rfl ?_
  obtain ⟨r70, h68, q69, hf⟩ := bd_e hf
  refine c_IN1 (As := []) (rest := [.ref (bs G + 58), .ref (bs G + x0)]) (n1 := 60) (cells1 := 59) (slots1 := 1779) hx hb hml hown hts hK X (k_X9_init l G 58 (by omega) q69) rfl lc_X9_init li_X11_61 (by decide) rfl hl.1 (Nat.le_of_ble_eq_true rfl) dX11_init_100 rfl rfl ⟨by decide, by decide⟩ (fun H locs X => ?_)
  refine g_PFa hx hb hts hown hK X o0 (by omega) (by omega) fl_X11_62 ft_11_8 (by decide) rfl hnm fo_11_8 (fun _ => rfl) (fun _ => rfl) dX11_init_103 (fun H locs X => ?_)
  obtain ⟨h71, e72, hf⟩ := lt_e hf
  rw [← e72] at X
  refine lv_aload_n hx hb dX11_init_106 rfl (lv_at hl 0 rfl) ?_
  obtain ⟨g73, hf⟩ := gd_e hf
  refine n_new (ci := 5) (cells1 := 60) (slots1 := 1788) (n1 := 61) hx hb hts hown hK X g73 rfl ln_X11_66 rfl rfl rfl (by decide) (by decide) dX11_init_107 (fun H X => ?_)
  obtain ⟨h74, e75, hf⟩ := lt_e hf
  rw [← e75] at X
  refine lv_dup hx hb dX11_init_110 rfl ?_
  obtain ⟨r78, h76, q77, hf⟩ := bd_e hf
  refine c_IN1 (As := []) (rest := [.ref (bs G + 61), .ref (bs G + x0)]) (n1 := 74) (cells1 := 73) (slots1 := 21899) hx hb hml hown hts hK X (k_X5_init l G 61 (by omega) q77) rfl lc_X5_init li_X11_68 (by decide) rfl hl.1 (Nat.le_of_ble_eq_true rfl) dX11_init_111 rfl rfl ⟨by decide, by decide⟩ (fun H locs X => ?_)
  refine g_PFa hx hb hts hown hK X o0 (by omega) (by omega) fl_X11_69 ft_11_9 (by decide) rfl hnm fo_11_9 (fun _ => rfl) (fun _ => rfl) dX11_init_114 (fun H locs X => ?_)
  obtain ⟨h79, e80, hf⟩ := lt_e hf
  rw [← e80] at X
  refine lv_aload_n hx hb dX11_init_117 rfl (lv_at hl 0 rfl) ?_
  obtain ⟨g81, hf⟩ := gd_e hf
  refine n_new (ci := 6) (cells1 := 74) (slots1 := 21906) (n1 := 75) hx hb hts hown hK X g81 rfl ln_X11_73 rfl rfl rfl (by decide) (by decide) dX11_init_118 (fun H X => ?_)
  obtain ⟨h82, e83, hf⟩ := lt_e hf
  rw [← e83] at X
  refine lv_dup hx hb dX11_init_121 rfl ?_
  obtain ⟨r86, h84, q85, hf⟩ := bd_e hf
  refine c_IN1 (As := []) (rest := [.ref (bs G + 75), .ref (bs G + x0)]) (n1 := 77) (cells1 := 76) (slots1 := 21918) hx hb hml hown hts hK X (k_X6_init l G 75 (by omega) q85) rfl lc_X6_init li_X11_75 (by decide) rfl hl.1 (Nat.le_of_ble_eq_true rfl) dX11_init_122 rfl rfl ⟨by decide, by decide⟩ (fun H locs X => ?_)
  refine g_PFa hx hb hts hown hK X o0 (by omega) (by omega) fl_X11_76 ft_11_10 (by decide) rfl hnm fo_11_10 (fun _ => rfl) (fun _ => rfl) dX11_init_125 (fun H locs X => ?_)
  obtain ⟨h87, e88, hf⟩ := lt_e hf
  rw [← e88] at X
  refine lv_aload_n hx hb dX11_init_128 rfl (lv_at hl 0 rfl) ?_
  obtain ⟨g89, hf⟩ := gd_e hf
  refine n_new (ci := 1) (cells1 := 77) (slots1 := 21928) (n1 := 78) hx hb hts hown hK X g89 rfl ln_X11_80 rfl rfl rfl (by decide) (by decide) dX11_init_129 (fun H X => ?_)
  obtain ⟨h90, e91, hf⟩ := lt_e hf
  rw [← e91] at X
  refine lv_dup hx hb dX11_init_132 rfl ?_
  refine lv_aload_n hx hb dX11_init_133 rfl (lv_at hl 0 rfl) ?_
  obtain ⟨g92, hf⟩ := gd_e hf
  obtain ⟨g93, hf⟩ := gd_e hf
  refine g_Ra hx hb hts hown hK X o0 (by omega) g92 fl_X11_69 (by decide) rfl (by decide) dX11_init_134 ?_
  obtain ⟨r96, h94, q95, hf⟩ := bd_e hf
  refine c_I1 (As := [.ref (bs G + (h90.2 x0 9))]) (rest := [.ref (bs G + 78), .ref (bs G + x0)]) (n1 := 82) (cells1 := 81) (slots1 := 22076) hx hb hml hown hts hK X (k_X1_init l G 78 (by omega) (by omega) q95) rfl lc_X1_init li_X11_82 (by decide) rfl hl.1 (Nat.le_of_ble_eq_true rfl) dX11_init_137 rfl rfl ⟨by decide, by decide⟩ (fun H locs X => ?_)
  refine g_PFa hx hb hts hown hK X o0 (by omega) (by omega) fl_X11_85 ft_11_11 (by decide) rfl hnm fo_11_11 (fun _ => rfl) (fun _ => rfl) dX11_init_140 (fun H locs X => ?_)
  obtain ⟨h97, e98, hf⟩ := lt_e hf
  rw [← e98] at X
  refine lv_iconst (v := (0 : Int32)) hx hb dX11_init_143 (by decide) ?_
  refine lv_istore_n (lv' := [(1, .int (0 : Int32)), (0, .ref (bs G + x0))]) hx hb dX11_init_144 rfl hl (by decide) rfl (fun ls hl => ?_)
  exact j_X11_init_145 C0 hN hS FU X (lv_sub hl [1, 0] rfl) o0 hf
end
theorem dX12_init_0 : decode bX12_init 0 = .ok (.aload_n 0, 1) := by decide +kernel
theorem dX12_init_1 : decode bX12_init 1 = .ok (.invokespecial 7, 3) := by decide +kernel
theorem dX12_init_4 : decode bX12_init 4 = .ok (.aload_n 0, 1) := by decide +kernel
theorem dX12_init_5 : decode bX12_init 5 = .ok (.bipush 59, 2) := by decide +kernel
theorem dX12_init_7 : decode bX12_init 7 = .ok (.newarray .int, 2) := by decide +kernel
theorem dX12_init_9 : decode bX12_init 9 = .ok (.putfield 13, 3) := by decide +kernel
theorem dX12_init_12 : decode bX12_init 12 = .ok (.aload_n 0, 1) := by decide +kernel
theorem dX12_init_13 : decode bX12_init 13 = .ok (.bipush 59, 2) := by decide +kernel
theorem dX12_init_15 : decode bX12_init 15 = .ok (.newarray .int, 2) := by decide +kernel
theorem dX12_init_17 : decode bX12_init 17 = .ok (.putfield 17, 3) := by decide +kernel
theorem dX12_init_20 : decode bX12_init 20 = .ok (.aload_n 0, 1) := by decide +kernel
theorem dX12_init_21 : decode bX12_init 21 = .ok (.bipush 51, 2) := by decide +kernel
theorem dX12_init_23 : decode bX12_init 23 = .ok (.newarray .int, 2) := by decide +kernel
theorem dX12_init_25 : decode bX12_init 25 = .ok (.putfield 20, 3) := by decide +kernel
theorem dX12_init_28 : decode bX12_init 28 = .ok (.aload_n 0, 1) := by decide +kernel
theorem dX12_init_29 : decode bX12_init 29 = .ok (.sipush 408, 3) := by decide +kernel
theorem dX12_init_32 : decode bX12_init 32 = .ok (.newarray .int, 2) := by decide +kernel
theorem dX12_init_34 : decode bX12_init 34 = .ok (.putfield 23, 3) := by decide +kernel
theorem dX12_init_37 : decode bX12_init 37 = .ok (.aload_n 0, 1) := by decide +kernel
theorem dX12_init_38 : decode bX12_init 38 = .ok (.bipush 102, 2) := by decide +kernel
theorem dX12_init_40 : decode bX12_init 40 = .ok (.newarray .int, 2) := by decide +kernel
theorem dX12_init_42 : decode bX12_init 42 = .ok (.putfield 26, 3) := by decide +kernel
theorem dX12_init_45 : decode bX12_init 45 = .ok (.aload_n 0, 1) := by decide +kernel
theorem dX12_init_46 : decode bX12_init 46 = .ok (.sipush 200, 3) := by decide +kernel
theorem dX12_init_49 : decode bX12_init 49 = .ok (.newarray .int, 2) := by decide +kernel
theorem dX12_init_51 : decode bX12_init 51 = .ok (.putfield 29, 3) := by decide +kernel
theorem dX12_init_54 : decode bX12_init 54 = .ok (.aload_n 0, 1) := by decide +kernel
theorem dX12_init_55 : decode bX12_init 55 = .ok (.iconst 3, 1) := by decide +kernel
theorem dX12_init_56 : decode bX12_init 56 = .ok (.newarray .int, 2) := by decide +kernel
theorem dX12_init_58 : decode bX12_init 58 = .ok (.putfield 32, 3) := by decide +kernel
theorem dX12_init_61 : decode bX12_init 61 = .ok (.aload_n 0, 1) := by decide +kernel
theorem dX12_init_62 : decode bX12_init 62 = .ok (.bipush 20, 2) := by decide +kernel
theorem dX12_init_64 : decode bX12_init 64 = .ok (.newarray .int, 2) := by decide +kernel
theorem dX12_init_66 : decode bX12_init 66 = .ok (.putfield 35, 3) := by decide +kernel
theorem dX12_init_69 : decode bX12_init 69 = .ok (.aload_n 0, 1) := by decide +kernel
theorem dX12_init_70 : decode bX12_init 70 = .ok (.sipush 15626, 3) := by decide +kernel
theorem dX12_init_73 : decode bX12_init 73 = .ok (.newarray .int, 2) := by decide +kernel
theorem dX12_init_75 : decode bX12_init 75 = .ok (.putfield 38, 3) := by decide +kernel
theorem dX12_init_78 : decode bX12_init 78 = .ok (.aload_n 0, 1) := by decide +kernel
theorem dX12_init_79 : decode bX12_init 79 = .ok (.bipush 7, 2) := by decide +kernel
theorem dX12_init_81 : decode bX12_init 81 = .ok (.newarray .int, 2) := by decide +kernel
theorem dX12_init_83 : decode bX12_init 83 = .ok (.putfield 41, 3) := by decide +kernel
theorem dX12_init_86 : decode bX12_init 86 = .ok (.aload_n 0, 1) := by decide +kernel
theorem dX12_init_87 : decode bX12_init 87 = .ok (.bipush 7, 2) := by decide +kernel
theorem dX12_init_89 : decode bX12_init 89 = .ok (.newarray .int, 2) := by decide +kernel
theorem dX12_init_91 : decode bX12_init 91 = .ok (.putfield 44, 3) := by decide +kernel
theorem dX12_init_94 : decode bX12_init 94 = .ok (.aload_n 0, 1) := by decide +kernel
theorem dX12_init_95 : decode bX12_init 95 = .ok (.bipush 7, 2) := by decide +kernel
theorem dX12_init_97 : decode bX12_init 97 = .ok (.newarray .int, 2) := by decide +kernel
theorem dX12_init_99 : decode bX12_init 99 = .ok (.putfield 47, 3) := by decide +kernel
theorem dX12_init_102 : decode bX12_init 102 = .ok (.aload_n 0, 1) := by decide +kernel
theorem dX12_init_103 : decode bX12_init 103 = .ok (.bipush 6, 2) := by decide +kernel
theorem dX12_init_105 : decode bX12_init 105 = .ok (.newarray .int, 2) := by decide +kernel
theorem dX12_init_107 : decode bX12_init 107 = .ok (.putfield 50, 3) := by decide +kernel
theorem dX12_init_110 : decode bX12_init 110 = .ok (.aload_n 0, 1) := by decide +kernel
theorem dX12_init_111 : decode bX12_init 111 = .ok (.sipush 601, 3) := by decide +kernel
theorem dX12_init_114 : decode bX12_init 114 = .ok (.newarray .int, 2) := by decide +kernel
theorem dX12_init_116 : decode bX12_init 116 = .ok (.putfield 53, 3) := by decide +kernel
theorem dX12_init_119 : decode bX12_init 119 = .ok (.aload_n 0, 1) := by decide +kernel
theorem dX12_init_120 : decode bX12_init 120 = .ok (.sipush 601, 3) := by decide +kernel
theorem dX12_init_123 : decode bX12_init 123 = .ok (.newarray .int, 2) := by decide +kernel
theorem dX12_init_125 : decode bX12_init 125 = .ok (.putfield 56, 3) := by decide +kernel
theorem dX12_init_128 : decode bX12_init 128 = .ok (.aload_n 0, 1) := by decide +kernel
theorem dX12_init_129 : decode bX12_init 129 = .ok (.bipush 6, 2) := by decide +kernel
theorem dX12_init_131 : decode bX12_init 131 = .ok (.newarray .int, 2) := by decide +kernel
theorem dX12_init_133 : decode bX12_init 133 = .ok (.putfield 59, 3) := by decide +kernel
theorem dX12_init_136 : decode bX12_init 136 = .ok (.aload_n 0, 1) := by decide +kernel
theorem dX12_init_137 : decode bX12_init 137 = .ok (.bipush 6, 2) := by decide +kernel
theorem dX12_init_139 : decode bX12_init 139 = .ok (.newarray .int, 2) := by decide +kernel
theorem dX12_init_141 : decode bX12_init 141 = .ok (.putfield 62, 3) := by decide +kernel
theorem dX12_init_144 : decode bX12_init 144 = .ok (.aload_n 0, 1) := by decide +kernel
theorem dX12_init_145 : decode bX12_init 145 = .ok (.bipush 64, 2) := by decide +kernel
theorem dX12_init_147 : decode bX12_init 147 = .ok (.newarray .int, 2) := by decide +kernel
theorem dX12_init_149 : decode bX12_init 149 = .ok (.putfield 65, 3) := by decide +kernel
theorem dX12_init_152 : decode bX12_init 152 = .ok (.aload_n 0, 1) := by decide +kernel
theorem dX12_init_153 : decode bX12_init 153 = .ok (.invokevirtual 68, 3) := by decide +kernel
theorem dX12_init_156 : decode bX12_init 156 = .ok (.aload_n 0, 1) := by decide +kernel
theorem dX12_init_157 : decode bX12_init 157 = .ok (.getfield 13, 3) := by decide +kernel
theorem dX12_init_160 : decode bX12_init 160 = .ok (.iconst 0, 1) := by decide +kernel
theorem dX12_init_161 : decode bX12_init 161 = .ok (.bipush 9, 2) := by decide +kernel
theorem dX12_init_163 : decode bX12_init 163 = .ok (.iastore, 1) := by decide +kernel
theorem dX12_init_164 : decode bX12_init 164 = .ok (.aload_n 0, 1) := by decide +kernel
theorem dX12_init_165 : decode bX12_init 165 = .ok (.getfield 13, 3) := by decide +kernel
theorem dX12_init_168 : decode bX12_init 168 = .ok (.iconst 1, 1) := by decide +kernel
theorem dX12_init_169 : decode bX12_init 169 = .ok (.iconst 4, 1) := by decide +kernel
theorem dX12_init_170 : decode bX12_init 170 = .ok (.iastore, 1) := by decide +kernel
theorem dX12_init_171 : decode bX12_init 171 = .ok (.aload_n 0, 1) := by decide +kernel
theorem dX12_init_172 : decode bX12_init 172 = .ok (.getfield 13, 3) := by decide +kernel
theorem dX12_init_175 : decode bX12_init 175 = .ok (.bipush 11, 2) := by decide +kernel
theorem dX12_init_177 : decode bX12_init 177 = .ok (.iconst 3, 1) := by decide +kernel
theorem dX12_init_178 : decode bX12_init 178 = .ok (.iastore, 1) := by decide +kernel
theorem dX12_init_179 : decode bX12_init 179 = .ok (.aload_n 0, 1) := by decide +kernel
theorem dX12_init_180 : decode bX12_init 180 = .ok (.getfield 13, 3) := by decide +kernel
theorem dX12_init_183 : decode bX12_init 183 = .ok (.bipush 53, 2) := by decide +kernel
theorem dX12_init_185 : decode bX12_init 185 = .ok (.iconst 4, 1) := by decide +kernel
theorem dX12_init_186 : decode bX12_init 186 = .ok (.iastore, 1) := by decide +kernel
theorem dX12_init_187 : decode bX12_init 187 = .ok (.aload_n 0, 1) := by decide +kernel
theorem dX12_init_188 : decode bX12_init 188 = .ok (.getfield 13, 3) := by decide +kernel
theorem dX12_init_191 : decode bX12_init 191 = .ok (.bipush 54, 2) := by decide +kernel
theorem dX12_init_193 : decode bX12_init 193 = .ok (.iconst 4, 1) := by decide +kernel
theorem dX12_init_194 : decode bX12_init 194 = .ok (.iastore, 1) := by decide +kernel
theorem dX12_init_195 : decode bX12_init 195 = .ok (.aload_n 0, 1) := by decide +kernel
theorem dX12_init_196 : decode bX12_init 196 = .ok (.getfield 13, 3) := by decide +kernel
theorem dX12_init_199 : decode bX12_init 199 = .ok (.bipush 55, 2) := by decide +kernel
theorem dX12_init_201 : decode bX12_init 201 = .ok (.bipush 7, 2) := by decide +kernel
theorem dX12_init_203 : decode bX12_init 203 = .ok (.iastore, 1) := by decide +kernel
theorem dX12_init_204 : decode bX12_init 204 = .ok (.aload_n 0, 1) := by decide +kernel
theorem dX12_init_205 : decode bX12_init 205 = .ok (.getfield 13, 3) := by decide +kernel
theorem dX12_init_208 : decode bX12_init 208 = .ok (.bipush 56, 2) := by decide +kernel
theorem dX12_init_210 : decode bX12_init 210 = .ok (.bipush 12, 2) := by decide +kernel
theorem dX12_init_212 : decode bX12_init 212 = .ok (.iastore, 1) := by decide +kernel
theorem dX12_init_213 : decode bX12_init 213 = .ok (.iconst 0, 1) := by decide +kernel
theorem dX12_init_214 : decode bX12_init 214 = .ok (.istore_n 1, 1) := by decide +kernel
theorem dX12_init_215 : decode bX12_init 215 = .ok (.iload_n 1, 1) := by decide +kernel
theorem dX12_init_216 : decode bX12_init 216 = .ok (.bipush 59, 2) := by decide +kernel
theorem dX12_init_218 : decode bX12_init 218 = .ok (.if_icmp .ge 51, 3) := by decide +kernel
theorem dX12_init_221 : decode bX12_init 221 = .ok (.aload_n 0, 1) := by decide +kernel
theorem dX12_init_222 : decode bX12_init 222 = .ok (.getfield 13, 3) := by decide +kernel
theorem dX12_init_225 : decode bX12_init 225 = .ok (.iload_n 1, 1) := by decide +kernel
theorem dX12_init_226 : decode bX12_init 226 = .ok (.iload_n 1, 1) := by decide +kernel
theorem dX12_init_227 : decode bX12_init 227 = .ok (.ifCond .eq 20, 3) := by decide +kernel
theorem dX12_init_230 : decode bX12_init 230 = .ok (.iload_n 1, 1) := by decide +kernel
theorem dX12_init_231 : decode bX12_init 231 = .ok (.iconst 1, 1) := by decide +kernel
theorem dX12_init_232 : decode bX12_init 232 = .ok (.if_icmp .eq 15, 3) := by decide +kernel
theorem dX12_init_235 : decode bX12_init 235 = .ok (.iload_n 1, 1) := by decide +kernel
theorem dX12_init_236 : decode bX12_init 236 = .ok (.bipush 53, 2) := by decide +kernel
theorem dX12_init_238 : decode bX12_init 238 = .ok (.if_icmp .ge 9, 3) := by decide +kernel
theorem dX12_init_241 : decode bX12_init 241 = .ok (.iload_n 1, 1) := by decide +kernel
theorem dX12_init_242 : decode bX12_init 242 = .ok (.bipush 11, 2) := by decide +kernel
theorem dX12_init_244 : decode bX12_init 244 = .ok (.if_icmp .ne 12, 3) := by decide +kernel
theorem dX12_init_247 : decode bX12_init 247 = .ok (.aload_n 0, 1) := by decide +kernel
theorem dX12_init_248 : decode bX12_init 248 = .ok (.getfield 13, 3) := by decide +kernel
theorem dX12_init_251 : decode bX12_init 251 = .ok (.iload_n 1, 1) := by decide +kernel
theorem dX12_init_252 : decode bX12_init 252 = .ok (.iaload, 1) := by decide +kernel
theorem dX12_init_253 : decode bX12_init 253 = .ok (.goto 9, 3) := by decide +kernel
theorem dX12_init_256 : decode bX12_init 256 = .ok (.aload_n 0, 1) := by decide +kernel
theorem dX12_init_257 : decode bX12_init 257 = .ok (.getfield 17, 3) := by decide +kernel
theorem dX12_init_260 : decode bX12_init 260 = .ok (.iload_n 1, 1) := by decide +kernel
theorem dX12_init_261 : decode bX12_init 261 = .ok (.iaload, 1) := by decide +kernel
theorem dX12_init_262 : decode bX12_init 262 = .ok (.iastore, 1) := by decide +kernel
theorem dX12_init_263 : decode bX12_init 263 = .ok (.iinc 1 1, 3) := by decide +kernel
theorem dX12_init_266 : decode bX12_init 266 = .ok (.goto (-51), 3) := by decide +kernel
theorem dX12_init_269 : decode bX12_init 269 = .ok (.aload_n 0, 1) := by decide +kernel
theorem dX12_init_270 : decode bX12_init 270 = .ok (.getfield 13, 3) := by decide +kernel
theorem dX12_init_273 : decode bX12_init 273 = .ok (.bipush 33, 2) := by decide +kernel
theorem dX12_init_275 : decode bX12_init 275 = .ok (.iconst 0, 1) := by decide +kernel
theorem dX12_init_276 : decode bX12_init 276 = .ok (.iastore, 1) := by decide +kernel
theorem dX12_init_277 : decode bX12_init 277 = .ok (.aload_n 0, 1) := by decide +kernel
theorem dX12_init_278 : decode bX12_init 278 = .ok (.iconst 0, 1) := by decide +kernel
theorem dX12_init_279 : decode bX12_init 279 = .ok (.invokevirtual 71, 3) := by decide +kernel
theorem dX12_init_282 : decode bX12_init 282 = .ok (.return_, 1) := by decide +kernel
def f_X12_init_262 (k215 : Hp → Nat → Int32 → Option (Unit × Hp)) (h : Hp) (x0 : Nat) (x1 : Int32) (t0 : Nat) (t1 : Int32) (t2 : Int32) : Option (Unit × Hp) :=
  gd (inr t1 (ln t0) = true) <|
  lt ((si h t0 t1.toNatClampNeg t2)) <| fun h2 =>
  k215 h2 x0 (x1 + (1 : Int32))
def f_X12_init_247 (k215 : Hp → Nat → Int32 → Option (Unit × Hp)) (h : Hp) (x0 : Nat) (x1 : Int32) (t0 : Nat) (t1 : Int32) : Option (Unit × Hp) :=
  gd (kd (h.2 x0 1) = 16) <|
  gd (inr x1 (ln (h.2 x0 1)) = true) <|
  f_X12_init_262 k215 h x0 x1 t0 t1 (h.1 (h.2 x0 1) x1.toNatClampNeg)
def f_X12_init_215 : Nat → Hp → Nat → Int32 → Option (Unit × Hp)
  | 0 => fun _ _ _ => none
  | fu + 1 => fun h x0 x1 =>
    if (59 : Int32) ≤ x1 then
      gd (kd (h.2 x0 1) = 16) <|
      gd (inr (33 : Int32) (ln (h.2 x0 1)) = true) <|
      lt ((si h (h.2 x0 1) (33 : Int32).toNatClampNeg (0 : Int32))) <| fun h3 =>
      bd (f_X12_dawn h3 x0 (0 : Int32)) <| fun r5 h6 =>
      some ((), h6)
    else
      gd (kd (h.2 x0 1) = 16) <|
      if x1 = 0 then
        f_X12_init_247 (f_X12_init_215 fu) h x0 x1 (h.2 x0 1) x1
      else
        if x1 = (1 : Int32) then
          f_X12_init_247 (f_X12_init_215 fu) h x0 x1 (h.2 x0 1) x1
        else
          if (53 : Int32) ≤ x1 then
            f_X12_init_247 (f_X12_init_215 fu) h x0 x1 (h.2 x0 1) x1
          else
            if x1 = (11 : Int32) then
              f_X12_init_247 (f_X12_init_215 fu) h x0 x1 (h.2 x0 1) x1
            else
              gd (kd (h.2 x0 2) = 16) <|
              gd (inr x1 (ln (h.2 x0 2)) = true) <|
              f_X12_init_262 (f_X12_init_215 fu) h x0 x1 (h.2 x0 1) x1 (h.1 (h.2 x0 2) x1.toNatClampNeg)
def f_X12_init (h : Hp) (x0 : Nat) : Option (Unit × Hp) :=
  gd (kd x0 = 12) <|
  gd (kd 84 = 16) <|
  gd (ln 84 = 59) <|
  lt (sz h 84) <| fun h3 =>
  lt (sr h3 x0 1 84) <| fun h5 =>
  gd (kd 85 = 16) <|
  gd (ln 85 = 59) <|
  lt (sz h5 85) <| fun h9 =>
  lt (sr h9 x0 2 85) <| fun h11 =>
  gd (kd 86 = 16) <|
  gd (ln 86 = 51) <|
  lt (sz h11 86) <| fun h15 =>
  lt (sr h15 x0 3 86) <| fun h17 =>
  gd (kd 87 = 16) <|
  gd (ln 87 = 408) <|
  lt (sz h17 87) <| fun h21 =>
  lt (sr h21 x0 4 87) <| fun h23 =>
  gd (kd 88 = 16) <|
  gd (ln 88 = 102) <|
  lt (sz h23 88) <| fun h27 =>
  lt (sr h27 x0 6 88) <| fun h29 =>
  gd (kd 89 = 16) <|
  gd (ln 89 = 200) <|
  lt (sz h29 89) <| fun h33 =>
  lt (sr h33 x0 8 89) <| fun h35 =>
  gd (kd 90 = 16) <|
  gd (ln 90 = 3) <|
  lt (sz h35 90) <| fun h39 =>
  lt (sr h39 x0 11 90) <| fun h41 =>
  gd (kd 91 = 16) <|
  gd (ln 91 = 20) <|
  lt (sz h41 91) <| fun h45 =>
  lt (sr h45 x0 13 91) <| fun h47 =>
  gd (kd 92 = 16) <|
  gd (ln 92 = 15626) <|
  lt (sz h47 92) <| fun h51 =>
  lt (sr h51 x0 15 92) <| fun h53 =>
  gd (kd 93 = 16) <|
  gd (ln 93 = 7) <|
  lt (sz h53 93) <| fun h57 =>
  lt (sr h57 x0 19 93) <| fun h59 =>
  gd (kd 94 = 16) <|
  gd (ln 94 = 7) <|
  lt (sz h59 94) <| fun h63 =>
  lt (sr h63 x0 20 94) <| fun h65 =>
  gd (kd 95 = 16) <|
  gd (ln 95 = 7) <|
  lt (sz h65 95) <| fun h69 =>
  lt (sr h69 x0 21 95) <| fun h71 =>
  gd (kd 96 = 16) <|
  gd (ln 96 = 6) <|
  lt (sz h71 96) <| fun h75 =>
  lt (sr h75 x0 22 96) <| fun h77 =>
  gd (kd 97 = 16) <|
  gd (ln 97 = 601) <|
  lt (sz h77 97) <| fun h81 =>
  lt (sr h81 x0 24 97) <| fun h83 =>
  gd (kd 98 = 16) <|
  gd (ln 98 = 601) <|
  lt (sz h83 98) <| fun h87 =>
  lt (sr h87 x0 25 98) <| fun h89 =>
  gd (kd 99 = 16) <|
  gd (ln 99 = 6) <|
  lt (sz h89 99) <| fun h93 =>
  lt (sr h93 x0 26 99) <| fun h95 =>
  gd (kd 100 = 16) <|
  gd (ln 100 = 6) <|
  lt (sz h95 100) <| fun h99 =>
  lt (sr h99 x0 28 100) <| fun h101 =>
  gd (kd 101 = 16) <|
  gd (ln 101 = 64) <|
  lt (sz h101 101) <| fun h105 =>
  lt (sr h105 x0 29 101) <| fun h107 =>
  bd (f_X12_begin h107 x0) <| fun r109 h110 =>
  gd (kd (h110.2 x0 1) = 16) <|
  gd (inr (0 : Int32) (ln (h110.2 x0 1)) = true) <|
  lt ((si h110 (h110.2 x0 1) (0 : Int32).toNatClampNeg (9 : Int32))) <| fun h114 =>
  gd (kd (h114.2 x0 1) = 16) <|
  gd (inr (1 : Int32) (ln (h114.2 x0 1)) = true) <|
  lt ((si h114 (h114.2 x0 1) (1 : Int32).toNatClampNeg (4 : Int32))) <| fun h118 =>
  gd (kd (h118.2 x0 1) = 16) <|
  gd (inr (11 : Int32) (ln (h118.2 x0 1)) = true) <|
  lt ((si h118 (h118.2 x0 1) (11 : Int32).toNatClampNeg (3 : Int32))) <| fun h122 =>
  gd (kd (h122.2 x0 1) = 16) <|
  gd (inr (53 : Int32) (ln (h122.2 x0 1)) = true) <|
  lt ((si h122 (h122.2 x0 1) (53 : Int32).toNatClampNeg (4 : Int32))) <| fun h126 =>
  gd (kd (h126.2 x0 1) = 16) <|
  gd (inr (54 : Int32) (ln (h126.2 x0 1)) = true) <|
  lt ((si h126 (h126.2 x0 1) (54 : Int32).toNatClampNeg (4 : Int32))) <| fun h130 =>
  gd (kd (h130.2 x0 1) = 16) <|
  gd (inr (55 : Int32) (ln (h130.2 x0 1)) = true) <|
  lt ((si h130 (h130.2 x0 1) (55 : Int32).toNatClampNeg (7 : Int32))) <| fun h134 =>
  gd (kd (h134.2 x0 1) = 16) <|
  gd (inr (56 : Int32) (ln (h134.2 x0 1)) = true) <|
  lt ((si h134 (h134.2 x0 1) (56 : Int32).toNatClampNeg (12 : Int32))) <| fun h138 =>
  f_X12_init_215 FU h138 x0 (0 : Int32)
section
variable {p : Program} {l : Launch} {e : Env} {s : State} {m : MethodId} {args : Array Value} {below : List Frame} {meth : Method} {c : Code} {G : GG} {n : Nat} {h' : Hp} {rv : Unit}
set_option maxHeartbeats 4000000
set_option maxRecDepth 100000
theorem j_X12_init_262 (C0 : Cx p s m args meth c G bX12_init RX12 2 none "<init>") (hN : NT ≤ 101) {k215 : Hp → Nat → Int32 → Option (Unit × Hp)} (ih215 : ∀ {H : Heap} {locs : List Loc} {ls : Array Slot} {h : Hp} {x0 : Nat} {x1 : Int32}, XW G 101 h s 18 H locs → lv_has ls 2 [(0, .ref (bs G + x0)), (1, .int x1)] → kd x0 = 12 → k215 h x0 x1 = some (rv, h') → W p l e (rmC 1 18 17833) s m args below meth c H locs 18 17833 (MQ below (QP G 101 h' none) args s 18 17833 (Ab G)) (F0 m 215 ls [])) {H : Heap} {locs : List Loc} {ls : Array Slot} {h : Hp} {x0 : Nat} {x1 : Int32} {t0 : Nat} {t1 : Int32} {t2 : Int32} (X : XW G 101 h s 18 H locs) (hl : lv_has ls 2 [(0, .ref (bs G + x0)), (1, .int x1)]) (o0 : kd x0 = 12) (ot0 : kd t0 = 16) (hf : f_X12_init_262 k215 h x0 x1 t0 t1 t2 = some (rv, h')) : W p l e (rmC 1 18 17833) s m args below meth c H locs 18 17833 (MQ below (QP G 101 h' none) args s 18 17833 (Ab G)) (F0 m 262 ls [.int t2, .int t1, .ref (bs G + t0)]) := by
  obtain ⟨hx, hb, hr, hml, hown, hts, hK, hlocks, hnm⟩ := id C0
  unfold f_X12_init_262 at hf
  obtain ⟨g1, hf⟩ := gd_e hf
  refine g_is hx hb hK X ot0 hN g1 (by decide) dX12_init_262 (fun H locs X => ?_)
  obtain ⟨h2, e3, hf⟩ := lt_e hf
  rw [← e3] at X
  refine lv_iinc (v := (x1 + (1 : Int32))) (lv' := [(1, .int (x1 + (1 : Int32))), (0, .ref (bs G + x0))]) hx hb dX12_init_263 hl (k := 1) rfl rfl (by decide) rfl (fun ls hl => ?_)
  refine lv_goto (tgt := 215) hx hb dX12_init_266 (by decide) ?_
  exact ih215 X (lv_sub hl [1, 0] rfl) o0 hf
theorem j_X12_init_247 (C0 : Cx p s m args meth c G bX12_init RX12 2 none "<init>") (hN : NT ≤ 101) {k215 : Hp → Nat → Int32 → Option (Unit × Hp)} (ih215 : ∀ {H : Heap} {locs : List Loc} {ls : Array Slot} {h : Hp} {x0 : Nat} {x1 : Int32}, XW G 101 h s 18 H locs → lv_has ls 2 [(0, .ref (bs G + x0)), (1, .int x1)] → kd x0 = 12 → k215 h x0 x1 = some (rv, h') → W p l e (rmC 1 18 17833) s m args below meth c H locs 18 17833 (MQ below (QP G 101 h' none) args s 18 17833 (Ab G)) (F0 m 215 ls [])) {H : Heap} {locs : List Loc} {ls : Array Slot} {h : Hp} {x0 : Nat} {x1 : Int32} {t0 : Nat} {t1 : Int32} (X : XW G 101 h s 18 H locs) (hl : lv_has ls 2 [(0, .ref (bs G + x0)), (1, .int x1)]) (o0 : kd x0 = 12) (ot0 : kd t0 = 16) (hf : f_X12_init_247 k215 h x0 x1 t0 t1 = some (rv, h')) : W p l e (rmC 1 18 17833) s m args below meth c H locs 18 17833 (MQ below (QP G 101 h' none) args s 18 17833 (Ab G)) (F0 m 247 ls [.int t1, .ref (bs G + t0)]) := by
  obtain ⟨hx, hb, hr, hml, hown, hts, hK, hlocks, hnm⟩ := id C0
  unfold f_X12_init_247 at hf
  refine lv_aload_n hx hb dX12_init_247 rfl (lv_at hl 0 rfl) ?_
  obtain ⟨g1, hf⟩ := gd_e hf
  refine g_R hx hb hts hown hK X o0 hN g1 fl_X12_13 (by decide) rfl (by decide) dX12_init_248 ?_
  refine lv_iload_n hx hb dX12_init_251 rfl (lv_at hl 1 rfl) ?_
  obtain ⟨g2, hf⟩ := gd_e hf
  refine g_ia hx hb hK X g1 hN g2 (by decide) dX12_init_252 ?_
  refine lv_goto (tgt := 262) hx hb dX12_init_253 (by decide) ?_
  exact j_X12_init_262 C0 hN @ih215 X (lv_sub hl [0, 1] rfl) o0 ot0 hf
theorem j_X12_init_215 (C0 : Cx p s m args meth c G bX12_init RX12 2 none "<init>") (hN : NT ≤ 101) : ∀ (fu : Nat), ∀ {H : Heap} {locs : List Loc} {ls : Array Slot} {h : Hp} {x0 : Nat} {x1 : Int32}, XW G 101 h s 18 H locs → lv_has ls 2 [(0, .ref (bs G + x0)), (1, .int x1)] → kd x0 = 12 → f_X12_init_215 fu h x0 x1 = some (rv, h') → W p l e (rmC 1 18 17833) s m args below meth c H locs 18 17833 (MQ below (QP G 101 h' none) args s 18 17833 (Ab G)) (F0 m 215 ls []) := by
  obtain ⟨hx, hb, hr, hml, hown, hts, hK, hlocks, hnm⟩ := id C0
  intro fu
  induction fu with
  | zero => intro H locs ls h x0 x1 X hl o0 hf; cases hf
  | succ fu ih =>
    intro H locs ls h x0 x1 X hl o0 hf
    rw [f_X12_init_215] at hf
    refine lv_iload_n hx hb dX12_init_215 rfl (lv_at hl 1 rfl) ?_
    refine lv_bipush (v := (59 : Int32)) hx hb dX12_init_216 (by decide) ?_
    refine lv_icmp_ge (tgt := 269) hx hb dX12_init_218 (by decide) (fun c218 => ?_) (fun c218 => ?_)
    · have hf := ite_t hf c218
      refine lv_aload_n hx hb dX12_init_269 rfl (lv_at hl 0 rfl) ?_
      obtain ⟨g1, hf⟩ := gd_e hf
      refine g_R hx hb hts hown hK X o0 hN g1 fl_X12_13 (by decide) rfl (by decide) dX12_init_270 ?_
      refine lv_bipush (v := (33 : Int32)) hx hb dX12_init_273 (by decide) ?_
      refine lv_iconst (v := (0 : Int32)) hx hb dX12_init_275 (by decide) ?_
      obtain ⟨g2, hf⟩ := gd_e hf
      refine g_is hx hb hK X g1 hN g2 (by decide) dX12_init_276 (fun H locs X => ?_)
      obtain ⟨h3, e4, hf⟩ := lt_e hf
      rw [← e4] at X
      refine lv_aload_n hx hb dX12_init_277 rfl (lv_at hl 0 rfl) ?_
      refine lv_iconst (v := (0 : Int32)) hx hb dX12_init_278 (by decide) ?_
      obtain ⟨r5, h6, q7, hf⟩ := bd_e hf
      refine c_V1 (As := [.int (0 : Int32)]) (rest := []) (st1 := []) hx hb hml hown hts hK X (k_X12_dawn l G 101 hN q7) o0 hN lc_X12_dawn lv_X12_71 (ci := 12) rfl rfl (by decide) rfl hl.1 (Nat.le_of_ble_eq_true rfl) dX12_init_279 rfl ⟨by decide, by decide⟩ (fun H locs X => ?_)
      exact r_V hx hb hr hlocks X hf dX12_init_282
    · have hf := ite_f hf c218
      refine lv_aload_n hx hb dX12_init_221 rfl (lv_at hl 0 rfl) ?_
      obtain ⟨g8, hf⟩ := gd_e hf
      refine g_R hx hb hts hown hK X o0 hN g8 fl_X12_13 (by decide) rfl (by decide) dX12_init_222 ?_
      refine lv_iload_n hx hb dX12_init_225 rfl (lv_at hl 1 rfl) ?_
      refine lv_iload_n hx hb dX12_init_226 rfl (lv_at hl 1 rfl) ?_
      refine lv_if_eq (tgt := 247) hx hb dX12_init_227 (by decide) (fun c227 => ?_) (fun c227 => ?_)
      · have hf := ite_t hf c227
        exact j_X12_init_247 C0 hN @ih X (lv_sub hl [0, 1] rfl) o0 g8 hf
      · have hf := ite_f hf c227
        refine lv_iload_n hx hb dX12_init_230 rfl (lv_at hl 1 rfl) ?_
        refine lv_iconst (v := (1 : Int32)) hx hb dX12_init_231 (by decide) ?_
        refine lv_icmp_eq (tgt := 247) hx hb dX12_init_232 (by decide) (fun c232 => ?_) (fun c232 => ?_)
        · have hf := ite_t hf c232
          exact j_X12_init_247 C0 hN @ih X (lv_sub hl [0, 1] rfl) o0 g8 hf
        · have hf := ite_f hf c232
          refine lv_iload_n hx hb dX12_init_235 rfl (lv_at hl 1 rfl) ?_
          refine lv_bipush (v := (53 : Int32)) hx hb dX12_init_236 (by decide) ?_
          refine lv_icmp_ge (tgt := 247) hx hb dX12_init_238 (by decide) (fun c238 => ?_) (fun c238 => ?_)
          · have hf := ite_t hf c238
            exact j_X12_init_247 C0 hN @ih X (lv_sub hl [0, 1] rfl) o0 g8 hf
          · have hf := ite_f hf c238
            refine lv_iload_n hx hb dX12_init_241 rfl (lv_at hl 1 rfl) ?_
            refine lv_bipush (v := (11 : Int32)) hx hb dX12_init_242 (by decide) ?_
            refine lv_icmp_ne (tgt := 256) hx hb dX12_init_244 (by decide) (fun c244 => ?_) (fun c244 => ?_)
            · have hf := ite_f hf c244
              refine lv_aload_n hx hb dX12_init_256 rfl (lv_at hl 0 rfl) ?_
              obtain ⟨g9, hf⟩ := gd_e hf
              refine g_R hx hb hts hown hK X o0 hN g9 fl_X12_17 (by decide) rfl (by decide) dX12_init_257 ?_
              refine lv_iload_n hx hb dX12_init_260 rfl (lv_at hl 1 rfl) ?_
              obtain ⟨g10, hf⟩ := gd_e hf
              refine g_ia hx hb hK X g9 hN g10 (by decide) dX12_init_261 ?_
              exact j_X12_init_262 C0 hN @ih X (lv_sub hl [0, 1] rfl) o0 g8 hf
            · have hf := ite_t hf c244
              exact j_X12_init_247 C0 hN @ih X (lv_sub hl [0, 1] rfl) o0 g8 hf
theorem k_X12_init (l : Launch) (G : GG) {h h' : Hp} {x0 : Nat} {rv : Unit} (b0 : 1 ≤ x0 ∧ x0 ≤ 83) (hf : f_X12_init h x0 = some (rv, h')) : CT l G 83 101 yX12_init (.code yX12_init bX12_init 2 none) 1 18 17833 [.ref (bs G + x0)] h h' none := by
  refine ct_of (maxL := 2) (ret := none) (bytes := bX12_init) (by decide) (Nat.le_of_ble_eq_true rfl) (fun p e s m below meth c C0 X ls hl => ?_)
  have hl : lv_has ls 2 [(0, .ref (bs G + x0))] := hl
  obtain ⟨hx, hb, hr, hml, hown, hts, hK, hlocks, hnm⟩ := id C0
  have hN : NT ≤ 101 := by decide
  unfold f_X12_init at hf
  obtain ⟨o0, hf⟩ := gd_e hf
  refine lv_aload_n hx hb dX12_init_0 rfl (lv_at hl 0 rfl) ?_
  refine n_obj hx hb (hml.trans hl.1.symm) hown hts lo_X12_7 (by decide) (Nat.le_of_ble_eq_true rfl) dX12_init_1 ?_
  refine lv_aload_n hx hb dX12_init_4 rfl (lv_at hl 0 rfl) ?_
  refine lv_bipush (v := (59 : Int32)) hx hb dX12_init_5 (by decide) ?_
  obtain ⟨g1, hf⟩ := gd_e hf
  obtain ⟨g2, hf⟩ := gd_e hf
  refine n_arr (at0 := .int) (ty := .int) (t0 := 0) (cA0 := G.2.1) (N := 59) (cells1 := 1) (slots1 := 59) (n1 := 84) hx hb hts hK X rfl rfl (fun _ _ z => z) la_int rfl (cE_ni (Or.inr g1) g2) (by decide) (by decide) (by decide) rfl rfl rfl (by decide) (by decide) dX12_init_7 (fun H X => ?_)
  obtain ⟨h3, e4, hf⟩ := lt_e hf
  rw [← e4] at X
  refine g_PFa hx hb hts hown hK X o0 (by omega) (by omega) fl_X12_13 ft_12_1 (by decide) rfl hnm fo_12_1 (fun _ => rfl) (fun _ => rfl) dX12_init_9 (fun H locs X => ?_)
  obtain ⟨h5, e6, hf⟩ := lt_e hf
  rw [← e6] at X
  refine lv_aload_n hx hb dX12_init_12 rfl (lv_at hl 0 rfl) ?_
  refine lv_bipush (v := (59 : Int32)) hx hb dX12_init_13 (by decide) ?_
  obtain ⟨g7, hf⟩ := gd_e hf
  obtain ⟨g8, hf⟩ := gd_e hf
  refine n_arr (at0 := .int) (ty := .int) (t0 := 0) (cA0 := G.2.1) (N := 59) (cells1 := 2) (slots1 := 118) (n1 := 85) hx hb hts hK X rfl rfl (fun _ _ z => z) la_int rfl (cE_ni (Or.inr g7) g8) (by decide) (by decide) (by decide) rfl rfl rfl (by decide) (by decide) dX12_init_15 (fun H X => ?_)
  obtain ⟨h9, e10, hf⟩ := lt_e hf
  rw [← e10] at X
  refine g_PFa hx hb hts hown hK X o0 (by omega) (by omega) fl_X12_17 ft_12_2 (by decide) rfl hnm fo_12_2 (fun _ => rfl) (fun _ => rfl) dX12_init_17 (fun H locs X => ?_)
  obtain ⟨h11, e12, hf⟩ := lt_e hf
  rw [← e12] at X
  refine lv_aload_n hx hb dX12_init_20 rfl (lv_at hl 0 rfl) ?_
  refine lv_bipush (v := (51 : Int32)) hx hb dX12_init_21 (by decide) ?_
  obtain ⟨g13, hf⟩ := gd_e hf
  obtain ⟨g14, hf⟩ := gd_e hf
  refine n_arr (at0 := .int) (ty := .int) (t0 := 0) (cA0 := G.2.1) (N := 51) (cells1 := 3) (slots1 := 169) (n1 := 86) hx hb hts hK X rfl rfl (fun _ _ z => z) la_int rfl (cE_ni (Or.inr g13) g14) (by decide) (by decide) (by decide) rfl rfl rfl (by decide) (by decide) dX12_init_23 (fun H X => ?_)
  obtain ⟨h15, e16, hf⟩ := lt_e hf
  rw [← e16] at X
  refine g_PFa hx hb hts hown hK X o0 (by omega) (by omega) fl_X12_20 ft_12_3 (by decide) rfl hnm fo_12_3 (fun _ => rfl) (fun _ => rfl) dX12_init_25 (fun H locs X => ?_)
  obtain ⟨h17, e18, hf⟩ := lt_e hf
  rw [← e18] at X
  refine lv_aload_n hx hb dX12_init_28 rfl (lv_at hl 0 rfl) ?_
  refine lv_sipush (v := (408 : Int32)) hx hb dX12_init_29 (by decide) ?_
  obtain ⟨g19, hf⟩ := gd_e hf
  obtain ⟨g20, hf⟩ := gd_e hf
  refine n_arr (at0 := .int) (ty := .int) (t0 := 0) (cA0 := G.2.1) (N := 408) (cells1 := 4) (slots1 := 577) (n1 := 87) hx hb hts hK X rfl rfl (fun _ _ z => z) la_int rfl (cE_ni (Or.inr g19) g20) (by decide) (by decide) (by decide) rfl rfl rfl (by decide) (by decide) dX12_init_32 (fun H X => ?_)
  obtain ⟨h21, e22, hf⟩ := lt_e hf
  rw [← e22] at X
  refine g_PFa hx hb hts hown hK X o0 (by omega) (by omega) fl_X12_23 ft_12_4 (by decide) rfl hnm fo_12_4 (fun _ => rfl) (fun _ => rfl) dX12_init_34 (fun H locs X => ?_)
  obtain ⟨h23, e24, hf⟩ := lt_e hf
  rw [← e24] at X
  refine lv_aload_n hx hb dX12_init_37 rfl (lv_at hl 0 rfl) ?_
  refine lv_bipush (v := (102 : Int32)) hx hb dX12_init_38 (by decide) ?_
  obtain ⟨g25, hf⟩ := gd_e hf
  obtain ⟨g26, hf⟩ := gd_e hf
  refine n_arr (at0 := .int) (ty := .int) (t0 := 0) (cA0 := G.2.1) (N := 102) (cells1 := 5) (slots1 := 679) (n1 := 88) hx hb hts hK X rfl rfl (fun _ _ z => z) la_int rfl (cE_ni (Or.inr g25) g26) (by decide) (by decide) (by decide) rfl rfl rfl (by decide) (by decide) dX12_init_40 (fun H X => ?_)
  obtain ⟨h27, e28, hf⟩ := lt_e hf
  rw [← e28] at X
  refine g_PFa hx hb hts hown hK X o0 (by omega) (by omega) fl_X12_26 ft_12_6 (by decide) rfl hnm fo_12_6 (fun _ => rfl) (fun _ => rfl) dX12_init_42 (fun H locs X => ?_)
  obtain ⟨h29, e30, hf⟩ := lt_e hf
  rw [← e30] at X
  refine lv_aload_n hx hb dX12_init_45 rfl (lv_at hl 0 rfl) ?_
  refine lv_sipush (v := (200 : Int32)) hx hb dX12_init_46 (by decide) ?_
  obtain ⟨g31, hf⟩ := gd_e hf
  obtain ⟨g32, hf⟩ := gd_e hf
  refine n_arr (at0 := .int) (ty := .int) (t0 := 0) (cA0 := G.2.1) (N := 200) (cells1 := 6) (slots1 := 879) (n1 := 89) hx hb hts hK X rfl rfl (fun _ _ z => z) la_int rfl (cE_ni (Or.inr g31) g32) (by decide) (by decide) (by decide) rfl rfl rfl (by decide) (by decide) dX12_init_49 (fun H X => ?_)
  obtain ⟨h33, e34, hf⟩ := lt_e hf
  rw [← e34] at X
  refine g_PFa hx hb hts hown hK X o0 (by omega) (by omega) fl_X12_29 ft_12_8 (by decide) rfl hnm fo_12_8 (fun _ => rfl) (fun _ => rfl) dX12_init_51 (fun H locs X => ?_)
  obtain ⟨h35, e36, hf⟩ := lt_e hf
  rw [← e36] at X
  refine lv_aload_n hx hb dX12_init_54 rfl (lv_at hl 0 rfl) ?_
  refine lv_iconst (v := (3 : Int32)) hx hb dX12_init_55 (by decide) ?_
  obtain ⟨g37, hf⟩ := gd_e hf
  obtain ⟨g38, hf⟩ := gd_e hf
  refine n_arr (at0 := .int) (ty := .int) (t0 := 0) (cA0 := G.2.1) (N := 3) (cells1 := 7) (slots1 := 882) (n1 := 90) hx hb hts hK X rfl rfl (fun _ _ z => z) la_int rfl (cE_ni (Or.inr g37) g38) (by decide) (by decide) (by decide) rfl rfl rfl (by decide) (by decide) dX12_init_56 (fun H X => ?_)
  obtain ⟨h39, e40, hf⟩ := lt_e hf
  rw [← e40] at X
  refine g_PFa hx hb hts hown hK X o0 (by omega) (by omega) fl_X12_32 ft_12_11 (by decide) rfl hnm fo_12_11 (fun _ => rfl) (fun _ => rfl) dX12_init_58 (fun H locs X => ?_)
  obtain ⟨h41, e42, hf⟩ := lt_e hf
  rw [← e42] at X
  refine lv_aload_n hx hb dX12_init_61 rfl (lv_at hl 0 rfl) ?_
  refine lv_bipush (v := (20 : Int32)) hx hb dX12_init_62 (by decide) ?_
  obtain ⟨g43, hf⟩ := gd_e hf
  obtain ⟨g44, hf⟩ := gd_e hf
  refine n_arr (at0 := .int) (ty := .int) (t0 := 0) (cA0 := G.2.1) (N := 20) (cells1 := 8) (slots1 := 902) (n1 := 91) hx hb hts hK X rfl rfl (fun _ _ z => z) la_int rfl (cE_ni (Or.inr g43) g44) (by decide) (by decide) (by decide) rfl rfl rfl (by decide) (by decide) dX12_init_64 (fun H X => ?_)
  obtain ⟨h45, e46, hf⟩ := lt_e hf
  rw [← e46] at X
  refine g_PFa hx hb hts hown hK X o0 (by omega) (by omega) fl_X12_35 ft_12_13 (by decide) rfl hnm fo_12_13 (fun _ => rfl) (fun _ => rfl) dX12_init_66 (fun H locs X => ?_)
  obtain ⟨h47, e48, hf⟩ := lt_e hf
  rw [← e48] at X
  refine lv_aload_n hx hb dX12_init_69 rfl (lv_at hl 0 rfl) ?_
  refine lv_sipush (v := (15626 : Int32)) hx hb dX12_init_70 (by decide) ?_
  obtain ⟨g49, hf⟩ := gd_e hf
  obtain ⟨g50, hf⟩ := gd_e hf
  refine n_arr (at0 := .int) (ty := .int) (t0 := 0) (cA0 := G.2.1) (N := 15626) (cells1 := 9) (slots1 := 16528) (n1 := 92) hx hb hts hK X rfl rfl (fun _ _ z => z) la_int rfl (cE_ni (Or.inr g49) g50) (by decide) (by decide) (by decide) rfl rfl rfl (by decide) (by decide) dX12_init_73 (fun H X => ?_)
  obtain ⟨h51, e52, hf⟩ := lt_e hf
  rw [← e52] at X
  refine g_PFa hx hb hts hown hK X o0 (by omega) (by omega) fl_X12_38 ft_12_15 (by decide) rfl hnm fo_12_15 (fun _ => rfl) (fun _ => rfl) dX12_init_75 (fun H locs X => ?_)
  obtain ⟨h53, e54, hf⟩ := lt_e hf
  rw [← e54] at X
  refine lv_aload_n hx hb dX12_init_78 rfl (lv_at hl 0 rfl) ?_
  refine lv_bipush (v := (7 : Int32)) hx hb dX12_init_79 (by decide) ?_
  obtain ⟨g55, hf⟩ := gd_e hf
  obtain ⟨g56, hf⟩ := gd_e hf
  refine n_arr (at0 := .int) (ty := .int) (t0 := 0) (cA0 := G.2.1) (N := 7) (cells1 := 10) (slots1 := 16535) (n1 := 93) hx hb hts hK X rfl rfl (fun _ _ z => z) la_int rfl (cE_ni (Or.inr g55) g56) (by decide) (by decide) (by decide) rfl rfl rfl (by decide) (by decide) dX12_init_81 (fun H X => ?_)
  obtain ⟨h57, e58, hf⟩ := lt_e hf
  rw [← e58] at X
  refine g_PFa hx hb hts hown hK X o0 (by omega) (by omega) fl_X12_41 ft_12_19 (by decide) rfl hnm fo_12_19 (fun _ => rfl) (fun _ => rfl) dX12_init_83 (fun H locs X => ?_)
  obtain ⟨h59, e60, hf⟩ := lt_e hf
  rw [← e60] at X
  refine lv_aload_n hx hb dX12_init_86 rfl (lv_at hl 0 rfl) ?_
  refine lv_bipush (v := (7 : Int32)) hx hb dX12_init_87 (by decide) ?_
  obtain ⟨g61, hf⟩ := gd_e hf
  obtain ⟨g62, hf⟩ := gd_e hf
  refine n_arr (at0 := .int) (ty := .int) (t0 := 0) (cA0 := G.2.1) (N := 7) (cells1 := 11) (slots1 := 16542) (n1 := 94) hx hb hts hK X rfl rfl (fun _ _ z => z) la_int rfl (cE_ni (Or.inr g61) g62) (by decide) (by decide) (by decide) rfl rfl rfl (by decide) (by decide) dX12_init_89 (fun H X => ?_)
  obtain ⟨h63, e64, hf⟩ := lt_e hf
  rw [← e64] at X
  refine g_PFa hx hb hts hown hK X o0 (by omega) (by omega) fl_X12_44 ft_12_20 (by decide) rfl hnm fo_12_20 (fun _ => rfl) (fun _ => rfl) dX12_init_91 (fun H locs X => ?_)
  obtain ⟨h65, e66, hf⟩ := lt_e hf
  rw [← e66] at X
  refine lv_aload_n hx hb dX12_init_94 rfl (lv_at hl 0 rfl) ?_
  refine lv_bipush (v := (7 : Int32)) hx hb dX12_init_95 (by decide) ?_
  obtain ⟨g67, hf⟩ := gd_e hf
  obtain ⟨g68, hf⟩ := gd_e hf
  refine n_arr (at0 := .int) (ty := .int) (t0 := 0) (cA0 := G.2.1) (N := 7) (cells1 := 12) (slots1 := 16549) (n1 := 95) hx hb hts hK X rfl rfl (fun _ _ z => z) la_int rfl (cE_ni (Or.inr g67) g68) (by decide) (by decide) (by decide) rfl rfl rfl (by decide) (by decide) dX12_init_97 (fun H X => ?_)
  obtain ⟨h69, e70, hf⟩ := lt_e hf
  rw [← e70] at X
  refine g_PFa hx hb hts hown hK X o0 (by omega) (by omega) fl_X12_47 ft_12_21 (by decide) rfl hnm fo_12_21 (fun _ => rfl) (fun _ => rfl) dX12_init_99 (fun H locs X => ?_)
  obtain ⟨h71, e72, hf⟩ := lt_e hf
  rw [← e72] at X
  refine lv_aload_n hx hb dX12_init_102 rfl (lv_at hl 0 rfl) ?_
  refine lv_bipush (v := (6 : Int32)) hx hb dX12_init_103 (by decide) ?_
  obtain ⟨g73, hf⟩ := gd_e hf
  obtain ⟨g74, hf⟩ := gd_e hf
  refine n_arr (at0 := .int) (ty := .int) (t0 := 0) (cA0 := G.2.1) (N := 6) (cells1 := 13) (slots1 := 16555) (n1 := 96) hx hb hts hK X rfl rfl (fun _ _ z => z) la_int rfl (cE_ni (Or.inr g73) g74) (by decide) (by decide) (by decide) rfl rfl rfl (by decide) (by decide) dX12_init_105 (fun H X => ?_)
  obtain ⟨h75, e76, hf⟩ := lt_e hf
  rw [← e76] at X
  refine g_PFa hx hb hts hown hK X o0 (by omega) (by omega) fl_X12_50 ft_12_22 (by decide) rfl hnm fo_12_22 (fun _ => rfl) (fun _ => rfl) dX12_init_107 (fun H locs X => ?_)
  obtain ⟨h77, e78, hf⟩ := lt_e hf
  rw [← e78] at X
  refine lv_aload_n hx hb dX12_init_110 rfl (lv_at hl 0 rfl) ?_
  refine lv_sipush (v := (601 : Int32)) hx hb dX12_init_111 (by decide) ?_
  obtain ⟨g79, hf⟩ := gd_e hf
  obtain ⟨g80, hf⟩ := gd_e hf
  refine n_arr (at0 := .int) (ty := .int) (t0 := 0) (cA0 := G.2.1) (N := 601) (cells1 := 14) (slots1 := 17156) (n1 := 97) hx hb hts hK X rfl rfl (fun _ _ z => z) la_int rfl (cE_ni (Or.inr g79) g80) (by decide) (by decide) (by decide) rfl rfl rfl (by decide) (by decide) dX12_init_114 (fun H X => ?_)
  obtain ⟨h81, e82, hf⟩ := lt_e hf
  rw [← e82] at X
  refine g_PFa hx hb hts hown hK X o0 (by omega) (by omega) fl_X12_53 ft_12_24 (by decide) rfl hnm fo_12_24 (fun _ => rfl) (fun _ => rfl) dX12_init_116 (fun H locs X => ?_)
  obtain ⟨h83, e84, hf⟩ := lt_e hf
  rw [← e84] at X
  refine lv_aload_n hx hb dX12_init_119 rfl (lv_at hl 0 rfl) ?_
  refine lv_sipush (v := (601 : Int32)) hx hb dX12_init_120 (by decide) ?_
  obtain ⟨g85, hf⟩ := gd_e hf
  obtain ⟨g86, hf⟩ := gd_e hf
  refine n_arr (at0 := .int) (ty := .int) (t0 := 0) (cA0 := G.2.1) (N := 601) (cells1 := 15) (slots1 := 17757) (n1 := 98) hx hb hts hK X rfl rfl (fun _ _ z => z) la_int rfl (cE_ni (Or.inr g85) g86) (by decide) (by decide) (by decide) rfl rfl rfl (by decide) (by decide) dX12_init_123 (fun H X => ?_)
  obtain ⟨h87, e88, hf⟩ := lt_e hf
  rw [← e88] at X
  refine g_PFa hx hb hts hown hK X o0 (by omega) (by omega) fl_X12_56 ft_12_25 (by decide) rfl hnm fo_12_25 (fun _ => rfl) (fun _ => rfl) dX12_init_125 (fun H locs X => ?_)
  obtain ⟨h89, e90, hf⟩ := lt_e hf
  rw [← e90] at X
  refine lv_aload_n hx hb dX12_init_128 rfl (lv_at hl 0 rfl) ?_
  refine lv_bipush (v := (6 : Int32)) hx hb dX12_init_129 (by decide) ?_
  obtain ⟨g91, hf⟩ := gd_e hf
  obtain ⟨g92, hf⟩ := gd_e hf
  refine n_arr (at0 := .int) (ty := .int) (t0 := 0) (cA0 := G.2.1) (N := 6) (cells1 := 16) (slots1 := 17763) (n1 := 99) hx hb hts hK X rfl rfl (fun _ _ z => z) la_int rfl (cE_ni (Or.inr g91) g92) (by decide) (by decide) (by decide) rfl rfl rfl (by decide) (by decide) dX12_init_131 (fun H X => ?_)
  obtain ⟨h93, e94, hf⟩ := lt_e hf
  rw [← e94] at X
  refine g_PFa hx hb hts hown hK X o0 (by omega) (by omega) fl_X12_59 ft_12_26 (by decide) rfl hnm fo_12_26 (fun _ => rfl) (fun _ => rfl) dX12_init_133 (fun H locs X => ?_)
  obtain ⟨h95, e96, hf⟩ := lt_e hf
  rw [← e96] at X
  refine lv_aload_n hx hb dX12_init_136 rfl (lv_at hl 0 rfl) ?_
  refine lv_bipush (v := (6 : Int32)) hx hb dX12_init_137 (by decide) ?_
  obtain ⟨g97, hf⟩ := gd_e hf
  obtain ⟨g98, hf⟩ := gd_e hf
  refine n_arr (at0 := .int) (ty := .int) (t0 := 0) (cA0 := G.2.1) (N := 6) (cells1 := 17) (slots1 := 17769) (n1 := 100) hx hb hts hK X rfl rfl (fun _ _ z => z) la_int rfl (cE_ni (Or.inr g97) g98) (by decide) (by decide) (by decide) rfl rfl rfl (by decide) (by decide) dX12_init_139 (fun H X => ?_)
  obtain ⟨h99, e100, hf⟩ := lt_e hf
  rw [← e100] at X
  refine g_PFa hx hb hts hown hK X o0 (by omega) (by omega) fl_X12_62 ft_12_28 (by decide) rfl hnm fo_12_28 (fun _ => rfl) (fun _ => rfl) dX12_init_141 (fun H locs X => ?_)
  obtain ⟨h101, e102, hf⟩ := lt_e hf
  rw [← e102] at X
  refine lv_aload_n hx hb dX12_init_144 rfl (lv_at hl 0 rfl) ?_
  refine lv_bipush (v := (64 : Int32)) hx hb dX12_init_145 (by decide) ?_
  obtain ⟨g103, hf⟩ := gd_e hf
  obtain ⟨g104, hf⟩ := gd_e hf
  refine n_arr (at0 := .int) (ty := .int) (t0 := 0) (cA0 := G.2.1) (N := 64) (cells1 := 18) (slots1 := 17833) (n1 := 101) hx hb hts hK X rfl rfl (fun _ _ z => z) la_int rfl (cE_ni (Or.inr g103) g104) (by decide) (by decide) (by decide) rfl rfl rfl (by decide) (by decide) dX12_init_147 (fun H X => ?_)
  obtain ⟨h105, e106, hf⟩ := lt_e hf
  rw [← e106] at X
  refine g_PFa hx hb hts hown hK X o0 (by omega) (by omega) fl_X12_65 ft_12_29 (by decide) rfl hnm fo_12_29 (fun _ => rfl) (fun _ => rfl) dX12_init_149 (fun H locs X => ?_)
  obtain ⟨h107, e108, hf⟩ := lt_e hf
  rw [← e108] at X
  refine lv_aload_n hx hb dX12_init_152 rfl (lv_at hl 0 rfl) ?_
  obtain ⟨r109, h110, q111, hf⟩ := bd_e hf
  refine c_V1 (As := []) (rest := []) (st1 := []) hx hb hml hown hts hK X (k_X12_begin l G 101 hN q111) o0 hN lc_X12_begin lv_X12_68 (ci := 12) rfl rfl (by decide) rfl hl.1 (Nat.le_of_ble_eq_true rfl) dX12_init_153 rfl ⟨by decide, by decide⟩ (fun H locs X => ?_)
  refine lv_aload_n hx hb dX12_init_156 rfl (lv_at hl 0 rfl) ?_
  obtain ⟨g112, hf⟩ := gd_e hf
  refine g_R hx hb hts hown hK X o0 hN g112 fl_X12_13 (by decide) rfl (by decide) dX12_init_157 ?_
  refine lv_iconst (v := (0 : Int32)) hx hb dX12_init_160 (by decide) ?_
  refine lv_bipush (v := (9 : Int32)) hx hb dX12_init_161 (by decide) ?_
  obtain ⟨g113, hf⟩ := gd_e hf
  refine g_is hx hb hK X g112 hN g113 (by decide) dX12_init_163 (fun H locs X => ?_)
  obtain ⟨h114, e115, hf⟩ := lt_e hf
  rw [← e115] at X
  refine lv_aload_n hx hb dX12_init_164 rfl (lv_at hl 0 rfl) ?_
  obtain ⟨g116, hf⟩ := gd_e hf
  refine g_R hx hb hts hown hK X o0 hN g116 fl_X12_13 (by decide) rfl (by decide) dX12_init_165 ?_
  refine lv_iconst (v := (1 : Int32)) hx hb dX12_init_168 (by decide) ?_
  refine lv_iconst (v := (4 : Int32)) hx hb dX12_init_169 (by decide) ?_
  obtain ⟨g117, hf⟩ := gd_e hf
  refine g_is hx hb hK X g116 hN g117 (by decide) dX12_init_170 (fun H locs X => ?_)
  obtain ⟨h118, e119, hf⟩ := lt_e hf
  rw [← e119] at X
  refine lv_aload_n hx hb dX12_init_171 rfl (lv_at hl 0 rfl) ?_
  obtain ⟨g120, hf⟩ := gd_e hf
  refine g_R hx hb hts hown hK X o0 hN g120 fl_X12_13 (by decide) rfl (by decide) dX12_init_172 ?_
  refine lv_bipush (v := (11 : Int32)) hx hb dX12_init_175 (by decide) ?_
  refine lv_iconst (v := (3 : Int32)) hx hb dX12_init_177 (by decide) ?_
  obtain ⟨g121, hf⟩ := gd_e hf
  refine g_is hx hb hK X g120 hN g121 (by decide) dX12_init_178 (fun H locs X => ?_)
  obtain ⟨h122, e123, hf⟩ := lt_e hf
  rw [← e123] at X
  refine lv_aload_n hx hb dX12_init_179 rfl (lv_at hl 0 rfl) ?_
  obtain ⟨g124, hf⟩ := gd_e hf
  refine g_R hx hb hts hown hK X o0 hN g124 fl_X12_13 (by decide) rfl (by decide) dX12_init_180 ?_
  refine lv_bipush (v := (53 : Int32)) hx hb dX12_init_183 (by decide) ?_
  refine lv_iconst (v := (4 : Int32)) hx hb dX12_init_185 (by decide) ?_
  obtain ⟨g125, hf⟩ := gd_e hf
  refine g_is hx hb hK X g124 hN g125 (by decide) dX12_init_186 (fun H locs X => ?_)
  obtain ⟨h126, e127, hf⟩ := lt_e hf
  rw [← e127] at X
  refine lv_aload_n hx hb dX12_init_187 rfl (lv_at hl 0 rfl) ?_
  obtain ⟨g128, hf⟩ := gd_e hf
  refine g_R hx hb hts hown hK X o0 hN g128 fl_X12_13 (by decide) rfl (by decide) dX12_init_188 ?_
  refine lv_bipush (v := (54 : Int32)) hx hb dX12_init_191 (by decide) ?_
  refine lv_iconst (v := (4 : Int32)) hx hb dX12_init_193 (by decide) ?_
  obtain ⟨g129, hf⟩ := gd_e hf
  refine g_is hx hb hK X g128 hN g129 (by decide) dX12_init_194 (fun H locs X => ?_)
  obtain ⟨h130, e131, hf⟩ := lt_e hf
  rw [← e131] at X
  refine lv_aload_n hx hb dX12_init_195 rfl (lv_at hl 0 rfl) ?_
  obtain ⟨g132, hf⟩ := gd_e hf
  refine g_R hx hb hts hown hK X o0 hN g132 fl_X12_13 (by decide) rfl (by decide) dX12_init_196 ?_
  refine lv_bipush (v := (55 : Int32)) hx hb dX12_init_199 (by decide) ?_
  refine lv_bipush (v := (7 : Int32)) hx hb dX12_init_201 (by decide) ?_
  obtain ⟨g133, hf⟩ := gd_e hf
  refine g_is hx hb hK X g132 hN g133 (by decide) dX12_init_203 (fun H locs X => ?_)
  obtain ⟨h134, e135, hf⟩ := lt_e hf
  rw [← e135] at X
  refine lv_aload_n hx hb dX12_init_204 rfl (lv_at hl 0 rfl) ?_
  obtain ⟨g136, hf⟩ := gd_e hf
  refine g_R hx hb hts hown hK X o0 hN g136 fl_X12_13 (by decide) rfl (by decide) dX12_init_205 ?_
  refine lv_bipush (v := (56 : Int32)) hx hb dX12_init_208 (by decide) ?_
  refine lv_bipush (v := (12 : Int32)) hx hb dX12_init_210 (by decide) ?_
  obtain ⟨g137, hf⟩ := gd_e hf
  refine g_is hx hb hK X g136 hN g137 (by decide) dX12_init_212 (fun H locs X => ?_)
  obtain ⟨h138, e139, hf⟩ := lt_e hf
  rw [← e139] at X
  refine lv_iconst (v := (0 : Int32)) hx hb dX12_init_213 (by decide) ?_
  refine lv_istore_n (lv' := [(1, .int (0 : Int32)), (0, .ref (bs G + x0))]) hx hb dX12_init_214 rfl hl (by decide) rfl (fun ls hl => ?_)
  exact j_X12_init_215 C0 hN FU X (lv_sub hl [1, 0] rfl) o0 hf
end
end
