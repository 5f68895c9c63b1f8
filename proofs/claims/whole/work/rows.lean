section
-- ===== PART A: goes FIRST, ahead of the names: the tables' words, and 'selects' of the private methods out of them =====
/-- a private method of a class that the tables say can be made, by its rows of tables_1 -/
def lw_okq (q : MethodName × Nat) : Prop := (q.1.cls ≠ "java/lang/invoke/MethodHandle" ∧ q.1.cls ≠ "java/lang/invoke/VarHandle") ∧ Cond.instantiable q.1.cls q.2 ∈ tables_1 ∧ Cond.privateMethod q.1 ∈ tables_1 ∧ Cond.instanceMethod q.1 ∈ tables_1
theorem lw_p0 : lw_okq (⟨"TakenNumbers$Text", "readItem", "(I)Z"⟩, 5) := ⟨⟨by decide +kernel, by decide +kernel⟩, List.mem_of_getElem? (i := 30) (by decide +kernel), List.mem_of_getElem? (i := 439) (by decide +kernel), List.mem_of_getElem? (i := 440) (by decide +kernel)⟩
theorem lw_p1 : lw_okq (⟨"TakenNumbers$Text", "readNumber", "(I)Z"⟩, 5) := ⟨⟨by decide +kernel, by decide +kernel⟩, List.mem_of_getElem? (i := 30) (by decide +kernel), List.mem_of_getElem? (i := 443) (by decide +kernel), List.mem_of_getElem? (i := 444) (by decide +kernel)⟩
theorem lw_p2 : lw_okq (⟨"TakenNumbers$Text", "accept", "(CLTakenNumbers$Port;)Z"⟩, 5) := ⟨⟨by decide +kernel, by decide +kernel⟩, List.mem_of_getElem? (i := 30) (by decide +kernel), List.mem_of_getElem? (i := 447) (by decide +kernel), List.mem_of_getElem? (i := 448) (by decide +kernel)⟩
theorem lw_p3 : lw_okq (⟨"TakenNumbers", "sceneNow", "()LTakenNumbers$Scene;"⟩, 12) := ⟨⟨by decide +kernel, by decide +kernel⟩, List.mem_of_getElem? (i := 22) (by decide +kernel), List.mem_of_getElem? (i := 562) (by decide +kernel), List.mem_of_getElem? (i := 563) (by decide +kernel)⟩
theorem lw_p4 : lw_okq (⟨"TakenNumbers$Scene", "setFree", "(LTakenNumbers$Port;)V"⟩, 7) := ⟨⟨by decide +kernel, by decide +kernel⟩, List.mem_of_getElem? (i := 291) (by decide +kernel), List.mem_of_getElem? (i := 570) (by decide +kernel), List.mem_of_getElem? (i := 571) (by decide +kernel)⟩
theorem lw_p5 : lw_okq (⟨"TakenNumbers$DayStack", "dropOldest", "()V"⟩, 2) := ⟨⟨by decide +kernel, by decide +kernel⟩, List.mem_of_getElem? (i := 130) (by decide +kernel), List.mem_of_getElem? (i := 645) (by decide +kernel), List.mem_of_getElem? (i := 646) (by decide +kernel)⟩
theorem lw_p6 : lw_okq (⟨"TakenNumbers", "usedNow", "(II)I"⟩, 12) := ⟨⟨by decide +kernel, by decide +kernel⟩, List.mem_of_getElem? (i := 22) (by decide +kernel), List.mem_of_getElem? (i := 664) (by decide +kernel), List.mem_of_getElem? (i := 665) (by decide +kernel)⟩
theorem lw_p7 : lw_okq (⟨"TakenNumbers$Sayings", "used", "(I)I"⟩, 9) := ⟨⟨by decide +kernel, by decide +kernel⟩, List.mem_of_getElem? (i := 210) (by decide +kernel), List.mem_of_getElem? (i := 672) (by decide +kernel), List.mem_of_getElem? (i := 673) (by decide +kernel)⟩
theorem lw_p8 : lw_okq (⟨"TakenNumbers$Table", "listNumbers", "()V"⟩, 12) := ⟨⟨by decide +kernel, by decide +kernel⟩, List.mem_of_getElem? (i := 216) (by decide +kernel), List.mem_of_getElem? (i := 683) (by decide +kernel), List.mem_of_getElem? (i := 684) (by decide +kernel)⟩
theorem lw_p9 : lw_okq (⟨"TakenNumbers$Table", "setBounds", "()V"⟩, 12) := ⟨⟨by decide +kernel, by decide +kernel⟩, List.mem_of_getElem? (i := 216) (by decide +kernel), List.mem_of_getElem? (i := 688) (by decide +kernel), List.mem_of_getElem? (i := 689) (by decide +kernel)⟩
theorem lw_p10 : lw_okq (⟨"TakenNumbers$Table", "spread", "(III)V"⟩, 12) := ⟨⟨by decide +kernel, by decide +kernel⟩, List.mem_of_getElem? (i := 216) (by decide +kernel), List.mem_of_getElem? (i := 697) (by decide +kernel), List.mem_of_getElem? (i := 698) (by decide +kernel)⟩
theorem lw_p11 : lw_okq (⟨"TakenNumbers$Table", "weight", "(II)I"⟩, 12) := ⟨⟨by decide +kernel, by decide +kernel⟩, List.mem_of_getElem? (i := 216) (by decide +kernel), List.mem_of_getElem? (i := 704) (by decide +kernel), List.mem_of_getElem? (i := 705) (by decide +kernel)⟩
theorem lw_p12 : lw_okq (⟨"TakenNumbers$Table", "at", "(II)I"⟩, 12) := ⟨⟨by decide +kernel, by decide +kernel⟩, List.mem_of_getElem? (i := 216) (by decide +kernel), List.mem_of_getElem? (i := 712) (by decide +kernel), List.mem_of_getElem? (i := 713) (by decide +kernel)⟩
theorem lw_p13 : lw_okq (⟨"TakenNumbers$Table", "firstUse", "(III)I"⟩, 12) := ⟨⟨by decide +kernel, by decide +kernel⟩, List.mem_of_getElem? (i := 216) (by decide +kernel), List.mem_of_getElem? (i := 716) (by decide +kernel), List.mem_of_getElem? (i := 717) (by decide +kernel)⟩
theorem lw_p14 : lw_okq (⟨"TakenNumbers$Table", "add", "(II)V"⟩, 12) := ⟨⟨by decide +kernel, by decide +kernel⟩, List.mem_of_getElem? (i := 216) (by decide +kernel), List.mem_of_getElem? (i := 720) (by decide +kernel), List.mem_of_getElem? (i := 721) (by decide +kernel)⟩
theorem lw_p15 : lw_okq (⟨"TakenNumbers$Crowd", "search", "(LTakenNumbers$Scene;IIII)V"⟩, 10) := ⟨⟨by decide +kernel, by decide +kernel⟩, List.mem_of_getElem? (i := 328) (by decide +kernel), List.mem_of_getElem? (i := 789) (by decide +kernel), List.mem_of_getElem? (i := 790) (by decide +kernel)⟩
def lw_privs_1 : List (MethodName × Nat) := [(⟨"TakenNumbers$Text", "readItem", "(I)Z"⟩, 5), (⟨"TakenNumbers$Text", "readNumber", "(I)Z"⟩, 5), (⟨"TakenNumbers$Text", "accept", "(CLTakenNumbers$Port;)Z"⟩, 5), (⟨"TakenNumbers", "sceneNow", "()LTakenNumbers$Scene;"⟩, 12), (⟨"TakenNumbers$Scene", "setFree", "(LTakenNumbers$Port;)V"⟩, 7), (⟨"TakenNumbers$DayStack", "dropOldest", "()V"⟩, 2), (⟨"TakenNumbers", "usedNow", "(II)I"⟩, 12), (⟨"TakenNumbers$Sayings", "used", "(I)I"⟩, 9), (⟨"TakenNumbers$Table", "listNumbers", "()V"⟩, 12), (⟨"TakenNumbers$Table", "setBounds", "()V"⟩, 12), (⟨"TakenNumbers$Table", "spread", "(III)V"⟩, 12), (⟨"TakenNumbers$Table", "weight", "(II)I"⟩, 12), (⟨"TakenNumbers$Table", "at", "(II)I"⟩, 12), (⟨"TakenNumbers$Table", "firstUse", "(III)I"⟩, 12), (⟨"TakenNumbers$Table", "add", "(II)V"⟩, 12), (⟨"TakenNumbers$Crowd", "search", "(LTakenNumbers$Scene;IIII)V"⟩, 10)]
theorem lw_r1 : ∀ q ∈ lw_privs_1, lw_okq q := List.forall_mem_cons.mpr ⟨lw_p0, List.forall_mem_cons.mpr ⟨lw_p1, List.forall_mem_cons.mpr ⟨lw_p2, List.forall_mem_cons.mpr ⟨lw_p3, List.forall_mem_cons.mpr ⟨lw_p4, List.forall_mem_cons.mpr ⟨lw_p5, List.forall_mem_cons.mpr ⟨lw_p6, List.forall_mem_cons.mpr ⟨lw_p7, List.forall_mem_cons.mpr ⟨lw_p8, List.forall_mem_cons.mpr ⟨lw_p9, List.forall_mem_cons.mpr ⟨lw_p10, List.forall_mem_cons.mpr ⟨lw_p11, List.forall_mem_cons.mpr ⟨lw_p12, List.forall_mem_cons.mpr ⟨lw_p13, List.forall_mem_cons.mpr ⟨lw_p14, List.forall_mem_cons.mpr ⟨lw_p15, fun _ h => absurd h List.not_mem_nil⟩⟩⟩⟩⟩⟩⟩⟩⟩⟩⟩⟩⟩⟩⟩⟩
theorem lw_p16 : lw_okq (⟨"TakenNumbers$Crowd", "ableAt", "(LTakenNumbers$Scene;III)I"⟩, 10) := ⟨⟨by decide +kernel, by decide +kernel⟩, List.mem_of_getElem? (i := 328) (by decide +kernel), List.mem_of_getElem? (i := 793) (by decide +kernel), List.mem_of_getElem? (i := 794) (by decide +kernel)⟩
theorem lw_p17 : lw_okq (⟨"TakenNumbers$Crowd", "record", "(III)V"⟩, 10) := ⟨⟨by decide +kernel, by decide +kernel⟩, List.mem_of_getElem? (i := 328) (by decide +kernel), List.mem_of_getElem? (i := 798) (by decide +kernel), List.mem_of_getElem? (i := 799) (by decide +kernel)⟩
theorem lw_p18 : lw_okq (⟨"TakenNumbers$Crowd", "getsWorse", "(LTakenNumbers$Scene;I)Z"⟩, 10) := ⟨⟨by decide +kernel, by decide +kernel⟩, List.mem_of_getElem? (i := 328) (by decide +kernel), List.mem_of_getElem? (i := 810) (by decide +kernel), List.mem_of_getElem? (i := 811) (by decide +kernel)⟩
theorem lw_p19 : lw_okq (⟨"TakenNumbers$WaySums", "join", "(II)V"⟩, 3) := ⟨⟨by decide +kernel, by decide +kernel⟩, List.mem_of_getElem? (i := 194) (by decide +kernel), List.mem_of_getElem? (i := 847) (by decide +kernel), List.mem_of_getElem? (i := 848) (by decide +kernel)⟩
theorem lw_p20 : lw_okq (⟨"TakenNumbers$Book", "readFrom", "(II)V"⟩, 6) := ⟨⟨by decide +kernel, by decide +kernel⟩, List.mem_of_getElem? (i := 167) (by decide +kernel), List.mem_of_getElem? (i := 884) (by decide +kernel), List.mem_of_getElem? (i := 885) (by decide +kernel)⟩
theorem lw_p21 : lw_okq (⟨"TakenNumbersModel", "begin", "()V"⟩, 30) := ⟨⟨by decide +kernel, by decide +kernel⟩, List.mem_of_getElem? (i := 939) (by decide +kernel), List.mem_of_getElem? (i := 945) (by decide +kernel), List.mem_of_getElem? (i := 946) (by decide +kernel)⟩
theorem lw_p22 : lw_okq (⟨"TakenNumbersModel", "dawn", "(Z)V"⟩, 30) := ⟨⟨by decide +kernel, by decide +kernel⟩, List.mem_of_getElem? (i := 939) (by decide +kernel), List.mem_of_getElem? (i := 949) (by decide +kernel), List.mem_of_getElem? (i := 950) (by decide +kernel)⟩
theorem lw_p23 : lw_okq (⟨"TakenNumbersModel", "readAll", "()I"⟩, 30) := ⟨⟨by decide +kernel, by decide +kernel⟩, List.mem_of_getElem? (i := 939) (by decide +kernel), List.mem_of_getElem? (i := 1061) (by decide +kernel), List.mem_of_getElem? (i := 1062) (by decide +kernel)⟩
theorem lw_p24 : lw_okq (⟨"TakenNumbersModel", "readItem", "(IZ)Z"⟩, 30) := ⟨⟨by decide +kernel, by decide +kernel⟩, List.mem_of_getElem? (i := 939) (by decide +kernel), List.mem_of_getElem? (i := 1065) (by decide +kernel), List.mem_of_getElem? (i := 1066) (by decide +kernel)⟩
theorem lw_p25 : lw_okq (⟨"TakenNumbersModel", "areNumbers", "(I)Z"⟩, 30) := ⟨⟨by decide +kernel, by decide +kernel⟩, List.mem_of_getElem? (i := 939) (by decide +kernel), List.mem_of_getElem? (i := 1069) (by decide +kernel), List.mem_of_getElem? (i := 1070) (by decide +kernel)⟩
theorem lw_p26 : lw_okq (⟨"TakenNumbersModel", "isFigure", "()Z"⟩, 30) := ⟨⟨by decide +kernel, by decide +kernel⟩, List.mem_of_getElem? (i := 939) (by decide +kernel), List.mem_of_getElem? (i := 1073) (by decide +kernel), List.mem_of_getElem? (i := 1074) (by decide +kernel)⟩
theorem lw_p27 : lw_okq (⟨"TakenNumbersModel", "noNumber", "(I)Z"⟩, 30) := ⟨⟨by decide +kernel, by decide +kernel⟩, List.mem_of_getElem? (i := 939) (by decide +kernel), List.mem_of_getElem? (i := 1089) (by decide +kernel), List.mem_of_getElem? (i := 1090) (by decide +kernel)⟩
theorem lw_p28 : lw_okq (⟨"TakenNumbersModel", "noOne", "(I)Z"⟩, 30) := ⟨⟨by decide +kernel, by decide +kernel⟩, List.mem_of_getElem? (i := 939) (by decide +kernel), List.mem_of_getElem? (i := 1097) (by decide +kernel), List.mem_of_getElem? (i := 1098) (by decide +kernel)⟩
theorem lw_p29 : lw_okq (⟨"TakenNumbersModel", "mayOf", "(I)I"⟩, 30) := ⟨⟨by decide +kernel, by decide +kernel⟩, List.mem_of_getElem? (i := 939) (by decide +kernel), List.mem_of_getElem? (i := 1101) (by decide +kernel), List.mem_of_getElem? (i := 1102) (by decide +kernel)⟩
theorem lw_p30 : lw_okq (⟨"TakenNumbersModel", "ofOne", "(I)I"⟩, 30) := ⟨⟨by decide +kernel, by decide +kernel⟩, List.mem_of_getElem? (i := 939) (by decide +kernel), List.mem_of_getElem? (i := 1105) (by decide +kernel), List.mem_of_getElem? (i := 1106) (by decide +kernel)⟩
theorem lw_p31 : lw_okq (⟨"TakenNumbersModel", "taken", "()I"⟩, 30) := ⟨⟨by decide +kernel, by decide +kernel⟩, List.mem_of_getElem? (i := 939) (by decide +kernel), List.mem_of_getElem? (i := 1109) (by decide +kernel), List.mem_of_getElem? (i := 1110) (by decide +kernel)⟩
def lw_privs_2 : List (MethodName × Nat) := [(⟨"TakenNumbers$Crowd", "ableAt", "(LTakenNumbers$Scene;III)I"⟩, 10), (⟨"TakenNumbers$Crowd", "record", "(III)V"⟩, 10), (⟨"TakenNumbers$Crowd", "getsWorse", "(LTakenNumbers$Scene;I)Z"⟩, 10), (⟨"TakenNumbers$WaySums", "join", "(II)V"⟩, 3), (⟨"TakenNumbers$Book", "readFrom", "(II)V"⟩, 6), (⟨"TakenNumbersModel", "begin", "()V"⟩, 30), (⟨"TakenNumbersModel", "dawn", "(Z)V"⟩, 30), (⟨"TakenNumbersModel", "readAll", "()I"⟩, 30), (⟨"TakenNumbersModel", "readItem", "(IZ)Z"⟩, 30), (⟨"TakenNumbersModel", "areNumbers", "(I)Z"⟩, 30), (⟨"TakenNumbersModel", "isFigure", "()Z"⟩, 30), (⟨"TakenNumbersModel", "noNumber", "(I)Z"⟩, 30), (⟨"TakenNumbersModel", "noOne", "(I)Z"⟩, 30), (⟨"TakenNumbersModel", "mayOf", "(I)I"⟩, 30), (⟨"TakenNumbersModel", "ofOne", "(I)I"⟩, 30), (⟨"TakenNumbersModel", "taken", "()I"⟩, 30)]
theorem lw_r2 : ∀ q ∈ lw_privs_2, lw_okq q := List.forall_mem_cons.mpr ⟨lw_p16, List.forall_mem_cons.mpr ⟨lw_p17, List.forall_mem_cons.mpr ⟨lw_p18, List.forall_mem_cons.mpr ⟨lw_p19, List.forall_mem_cons.mpr ⟨lw_p20, List.forall_mem_cons.mpr ⟨lw_p21, List.forall_mem_cons.mpr ⟨lw_p22, List.forall_mem_cons.mpr ⟨lw_p23, List.forall_mem_cons.mpr ⟨lw_p24, List.forall_mem_cons.mpr ⟨lw_p25, List.forall_mem_cons.mpr ⟨lw_p26, List.forall_mem_cons.mpr ⟨lw_p27, List.forall_mem_cons.mpr ⟨lw_p28, List.forall_mem_cons.mpr ⟨lw_p29, List.forall_mem_cons.mpr ⟨lw_p30, List.forall_mem_cons.mpr ⟨lw_p31, fun _ h => absurd h List.not_mem_nil⟩⟩⟩⟩⟩⟩⟩⟩⟩⟩⟩⟩⟩⟩⟩⟩
theorem lw_p32 : lw_okq (⟨"TakenNumbersModel", "sumOfWords", "()I"⟩, 30) := ⟨⟨by decide +kernel, by decide +kernel⟩, List.mem_of_getElem? (i := 939) (by decide +kernel), List.mem_of_getElem? (i := 1130) (by decide +kernel), List.mem_of_getElem? (i := 1131) (by decide +kernel)⟩
theorem lw_p33 : lw_okq (⟨"TakenNumbersModel", "priceOfWords", "()I"⟩, 30) := ⟨⟨by decide +kernel, by decide +kernel⟩, List.mem_of_getElem? (i := 939) (by decide +kernel), List.mem_of_getElem? (i := 1137) (by decide +kernel), List.mem_of_getElem? (i := 1138) (by decide +kernel)⟩
theorem lw_p34 : lw_okq (⟨"TakenNumbersModel", "priceOf", "(II)I"⟩, 30) := ⟨⟨by decide +kernel, by decide +kernel⟩, List.mem_of_getElem? (i := 939) (by decide +kernel), List.mem_of_getElem? (i := 1141) (by decide +kernel), List.mem_of_getElem? (i := 1142) (by decide +kernel)⟩
theorem lw_p35 : lw_okq (⟨"TakenNumbersModel", "isSaying", "()Z"⟩, 30) := ⟨⟨by decide +kernel, by decide +kernel⟩, List.mem_of_getElem? (i := 939) (by decide +kernel), List.mem_of_getElem? (i := 1145) (by decide +kernel), List.mem_of_getElem? (i := 1146) (by decide +kernel)⟩
theorem lw_p36 : lw_okq (⟨"TakenNumbersModel", "keepDay", "()V"⟩, 30) := ⟨⟨by decide +kernel, by decide +kernel⟩, List.mem_of_getElem? (i := 939) (by decide +kernel), List.mem_of_getElem? (i := 1156) (by decide +kernel), List.mem_of_getElem? (i := 1157) (by decide +kernel)⟩
theorem lw_p37 : lw_okq (⟨"TakenNumbersModel", "take", "(II)V"⟩, 30) := ⟨⟨by decide +kernel, by decide +kernel⟩, List.mem_of_getElem? (i := 939) (by decide +kernel), List.mem_of_getElem? (i := 1160) (by decide +kernel), List.mem_of_getElem? (i := 1161) (by decide +kernel)⟩
theorem lw_p38 : lw_okq (⟨"TakenNumbersModel", "bestOf", "(III)I"⟩, 30) := ⟨⟨by decide +kernel, by decide +kernel⟩, List.mem_of_getElem? (i := 939) (by decide +kernel), List.mem_of_getElem? (i := 1168) (by decide +kernel), List.mem_of_getElem? (i := 1169) (by decide +kernel)⟩
theorem lw_p39 : lw_okq (⟨"TakenNumbersModel", "layTable", "(II)V"⟩, 30) := ⟨⟨by decide +kernel, by decide +kernel⟩, List.mem_of_getElem? (i := 939) (by decide +kernel), List.mem_of_getElem? (i := 1172) (by decide +kernel), List.mem_of_getElem? (i := 1173) (by decide +kernel)⟩
theorem lw_p40 : lw_okq (⟨"TakenNumbersModel", "laid", "(II)I"⟩, 30) := ⟨⟨by decide +kernel, by decide +kernel⟩, List.mem_of_getElem? (i := 939) (by decide +kernel), List.mem_of_getElem? (i := 1177) (by decide +kernel), List.mem_of_getElem? (i := 1178) (by decide +kernel)⟩
theorem lw_p41 : lw_okq (⟨"TakenNumbersModel", "by", "(IIII)I"⟩, 30) := ⟨⟨by decide +kernel, by decide +kernel⟩, List.mem_of_getElem? (i := 939) (by decide +kernel), List.mem_of_getElem? (i := 1183) (by decide +kernel), List.mem_of_getElem? (i := 1184) (by decide +kernel)⟩
theorem lw_p42 : lw_okq (⟨"TakenNumbersModel", "usedSet", "()I"⟩, 30) := ⟨⟨by decide +kernel, by decide +kernel⟩, List.mem_of_getElem? (i := 939) (by decide +kernel), List.mem_of_getElem? (i := 1187) (by decide +kernel), List.mem_of_getElem? (i := 1188) (by decide +kernel)⟩
theorem lw_p43 : lw_okq (⟨"TakenNumbersModel", "silent", "()I"⟩, 30) := ⟨⟨by decide +kernel, by decide +kernel⟩, List.mem_of_getElem? (i := 939) (by decide +kernel), List.mem_of_getElem? (i := 1220) (by decide +kernel), List.mem_of_getElem? (i := 1221) (by decide +kernel)⟩
theorem lw_p44 : lw_okq (⟨"TakenNumbersModel", "stuckOf", "(III)I"⟩, 30) := ⟨⟨by decide +kernel, by decide +kernel⟩, List.mem_of_getElem? (i := 939) (by decide +kernel), List.mem_of_getElem? (i := 1224) (by decide +kernel), List.mem_of_getElem? (i := 1225) (by decide +kernel)⟩
theorem lw_p45 : lw_okq (⟨"TakenNumbersModel", "hasBest", "(III)Z"⟩, 30) := ⟨⟨by decide +kernel, by decide +kernel⟩, List.mem_of_getElem? (i := 939) (by decide +kernel), List.mem_of_getElem? (i := 1228) (by decide +kernel), List.mem_of_getElem? (i := 1229) (by decide +kernel)⟩
theorem lw_p46 : lw_okq (⟨"TakenNumbersModel", "layOrder", "()V"⟩, 30) := ⟨⟨by decide +kernel, by decide +kernel⟩, List.mem_of_getElem? (i := 939) (by decide +kernel), List.mem_of_getElem? (i := 1242) (by decide +kernel), List.mem_of_getElem? (i := 1243) (by decide +kernel)⟩
theorem lw_p47 : lw_okq (⟨"TakenNumbersModel", "isAhead", "(II)Z"⟩, 30) := ⟨⟨by decide +kernel, by decide +kernel⟩, List.mem_of_getElem? (i := 939) (by decide +kernel), List.mem_of_getElem? (i := 1246) (by decide +kernel), List.mem_of_getElem? (i := 1247) (by decide +kernel)⟩
def lw_privs_3 : List (MethodName × Nat) := [(⟨"TakenNumbersModel", "sumOfWords", "()I"⟩, 30), (⟨"TakenNumbersModel", "priceOfWords", "()I"⟩, 30), (⟨"TakenNumbersModel", "priceOf", "(II)I"⟩, 30), (⟨"TakenNumbersModel", "isSaying", "()Z"⟩, 30), (⟨"TakenNumbersModel", "keepDay", "()V"⟩, 30), (⟨"TakenNumbersModel", "take", "(II)V"⟩, 30), (⟨"TakenNumbersModel", "bestOf", "(III)I"⟩, 30), (⟨"TakenNumbersModel", "layTable", "(II)V"⟩, 30), (⟨"TakenNumbersModel", "laid", "(II)I"⟩, 30), (⟨"TakenNumbersModel", "by", "(IIII)I"⟩, 30), (⟨"TakenNumbersModel", "usedSet", "()I"⟩, 30), (⟨"TakenNumbersModel", "silent", "()I"⟩, 30), (⟨"TakenNumbersModel", "stuckOf", "(III)I"⟩, 30), (⟨"TakenNumbersModel", "hasBest", "(III)Z"⟩, 30), (⟨"TakenNumbersModel", "layOrder", "()V"⟩, 30), (⟨"TakenNumbersModel", "isAhead", "(II)Z"⟩, 30)]
theorem lw_r3 : ∀ q ∈ lw_privs_3, lw_okq q := List.forall_mem_cons.mpr ⟨lw_p32, List.forall_mem_cons.mpr ⟨lw_p33, List.forall_mem_cons.mpr ⟨lw_p34, List.forall_mem_cons.mpr ⟨lw_p35, List.forall_mem_cons.mpr ⟨lw_p36, List.forall_mem_cons.mpr ⟨lw_p37, List.forall_mem_cons.mpr ⟨lw_p38, List.forall_mem_cons.mpr ⟨lw_p39, List.forall_mem_cons.mpr ⟨lw_p40, List.forall_mem_cons.mpr ⟨lw_p41, List.forall_mem_cons.mpr ⟨lw_p42, List.forall_mem_cons.mpr ⟨lw_p43, List.forall_mem_cons.mpr ⟨lw_p44, List.forall_mem_cons.mpr ⟨lw_p45, List.forall_mem_cons.mpr ⟨lw_p46, List.forall_mem_cons.mpr ⟨lw_p47, fun _ h => absurd h List.not_mem_nil⟩⟩⟩⟩⟩⟩⟩⟩⟩⟩⟩⟩⟩⟩⟩⟩
theorem lw_p48 : lw_okq (⟨"TakenNumbersModel", "noSet", "(I)Z"⟩, 30) := ⟨⟨by decide +kernel, by decide +kernel⟩, List.mem_of_getElem? (i := 939) (by decide +kernel), List.mem_of_getElem? (i := 1270) (by decide +kernel), List.mem_of_getElem? (i := 1271) (by decide +kernel)⟩
theorem lw_p49 : lw_okq (⟨"TakenNumbersModel", "waysOf", "(III)I"⟩, 30) := ⟨⟨by decide +kernel, by decide +kernel⟩, List.mem_of_getElem? (i := 939) (by decide +kernel), List.mem_of_getElem? (i := 1274) (by decide +kernel), List.mem_of_getElem? (i := 1275) (by decide +kernel)⟩
theorem lw_p50 : lw_okq (⟨"TakenNumbersModel", "readingsBy", "(II)I"⟩, 30) := ⟨⟨by decide +kernel, by decide +kernel⟩, List.mem_of_getElem? (i := 939) (by decide +kernel), List.mem_of_getElem? (i := 1295) (by decide +kernel), List.mem_of_getElem? (i := 1296) (by decide +kernel)⟩
def lw_privs_4 : List (MethodName × Nat) := [(⟨"TakenNumbersModel", "noSet", "(I)Z"⟩, 30), (⟨"TakenNumbersModel", "waysOf", "(III)I"⟩, 30), (⟨"TakenNumbersModel", "readingsBy", "(II)I"⟩, 30)]
theorem lw_r4 : ∀ q ∈ lw_privs_4, lw_okq q := List.forall_mem_cons.mpr ⟨lw_p48, List.forall_mem_cons.mpr ⟨lw_p49, List.forall_mem_cons.mpr ⟨lw_p50, fun _ h => absurd h List.not_mem_nil⟩⟩⟩
def lw_privs : List (MethodName × Nat) := lw_privs_1 ++ (lw_privs_2 ++ (lw_privs_3 ++ (lw_privs_4)))
def lw_tbl : List Cond := k2_sels lw_privs ++ tables_1
theorem lw_privs_ok : ∀ q ∈ lw_privs, lw_okq q := by
  show ∀ q ∈ lw_privs_1 ++ (lw_privs_2 ++ (lw_privs_3 ++ (lw_privs_4))), lw_okq q
  exact List.forall_mem_append.mpr ⟨lw_r1, List.forall_mem_append.mpr ⟨lw_r2, List.forall_mem_append.mpr ⟨lw_r3, lw_r4⟩⟩⟩
def R_law : String := "TakenNumbersLaw"
def TT : List Cond := lw_tbl.filter goodWord
theorem mt {i : Nat} {w : Cond} (h : lw_tbl[i]? = some w) (hg : goodWord w = true) : w ∈ TT := List.mem_filter.mpr ⟨List.mem_of_getElem? h, hg⟩
theorem TT_good : ∀ w ∈ TT, (w.onTables && w.keeps) = true ∨ ∃ ty, w = .arrayClass ty := fun w h => good_of_word (List.mem_filter.mp h).2
theorem TT_in {cd : Cond} (h : cd ∈ TT) : GoodIn TT (cd :: TT) := fun w hw => by
  rcases List.mem_cons.mp hw with e | e
  · subst e; exact ⟨h, TT_good _ h⟩
  · exact ⟨e, TT_good _ e⟩
def RX0 : String := "TakenNumbers$Book"
def TX0 : u_T := fun k => match k with
  | 0 => ("TakenNumbers$Book", "size", "I", false)
  | 1 => ("TakenNumbers$Book", "readings", "I", false)
  | 2 => ("TakenNumbers$Book", "rows", "[I", true)
  | 3 => ("TakenNumbers$Book", "canBe", "[I", true)
  | 4 => ("TakenNumbers$Book", "wasOf", "[I", true)
  | _ => ("TakenNumbers$Book", "isOf", "[I", true)
def tX0 : Nat → FieldType := fun k => match k with
  | 0 => .int
  | 1 => .int
  | 2 => .array .int
  | 3 => .array .int
  | 4 => .array .int
  | _ => .array .int
theorem tX0_ok : ∀ k, k < 6 → parseFieldDescriptor (TX0 k).2.2.1 = some (tX0 k) := by decide +kernel
theorem nX0 : ∀ a, a < 6 → ∀ b, b < 6 → a ≠ b → (TX0 a).2.1 ≠ (TX0 b).2.1 := by decide +kernel
theorem iX0 : ∀ k, k < 6 → (lw_tbl[([231, 233, 235, 237, 239, 241] : List Nat).getD k 0]? = some (u_lay RX0 TX0 k) ∧ goodWord (u_lay RX0 TX0 k) = true) := by decide +kernel
theorem wX0 : ∀ w ∈ u_ws RX0 TX0 6, w ∈ TT := fun w hw => by
  obtain ⟨k, hk, e⟩ := List.mem_map.mp hw
  rw [← e]
  exact mt (iX0 k (List.mem_range.mp hk)).1 (iX0 k (List.mem_range.mp hk)).2
def RX1 : String := "TakenNumbers$Crowd"
def TX1 : u_T := fun k => match k with
  | 0 => ("TakenNumbers$Crowd", "mostStuck", "I", false)
  | 1 => ("TakenNumbers$Crowd", "lower", "I", false)
  | 2 => ("TakenNumbers$Crowd", "higher", "I", false)
  | 3 => ("TakenNumbers$Crowd", "cornerAmount", "I", false)
  | 4 => ("TakenNumbers$Crowd", "mostCan", "I", false)
  | 5 => ("TakenNumbers$Crowd", "bestRow", "[I", true)
  | 6 => ("TakenNumbers$Crowd", "sayings", "LTakenNumbers$Sayings;", true)
  | 7 => ("TakenNumbers$Crowd", "usedFor", "[I", true)
  | 8 => ("TakenNumbers$Crowd", "row", "[I", true)
  | _ => ("TakenNumbers$Crowd", "usedAt", "[I", true)
def tX1 : Nat → FieldType := fun k => match k with
  | 0 => .int
  | 1 => .int
  | 2 => .int
  | 3 => .int
  | 4 => .int
  | 5 => .array .int
  | 6 => .object "TakenNumbers$Sayings"
  | 7 => .array .int
  | 8 => .array .int
  | _ => .array .int
theorem tX1_ok : ∀ k, k < 10 → parseFieldDescriptor (TX1 k).2.2.1 = some (tX1 k) := by decide +kernel
theorem nX1 : ∀ a, a < 10 → ∀ b, b < 10 → a ≠ b → (TX1 a).2.1 ≠ (TX1 b).2.1 := by decide +kernel
theorem iX1 : ∀ k, k < 10 → (lw_tbl[([400, 402, 404, 406, 408, 410, 412, 414, 416, 418] : List Nat).getD k 0]? = some (u_lay RX1 TX1 k) ∧ goodWord (u_lay RX1 TX1 k) = true) := by decide +kernel
theorem wX1 : ∀ w ∈ u_ws RX1 TX1 10, w ∈ TT := fun w hw => by
  obtain ⟨k, hk, e⟩ := List.mem_map.mp hw
  rw [← e]
  exact mt (iX1 k (List.mem_range.mp hk)).1 (iX1 k (List.mem_range.mp hk)).2
def RX2 : String := "TakenNumbers$Day"
def TX2 : u_T := fun k => match k with
  | 0 => ("TakenNumbers$Day", "takenBy", "[I", true)
  | 1 => ("TakenNumbers$Day", "lentTo", "[I", true)
  | 2 => ("TakenNumbers$Day", "said", "I", false)
  | 3 => ("TakenNumbers$Day", "births", "I", false)
  | _ => ("TakenNumbers$Day", "feast", "Z", false)
def tX2 : Nat → FieldType := fun k => match k with
  | 0 => .array .int
  | 1 => .array .int
  | 2 => .int
  | 3 => .int
  | _ => .boolean
theorem tX2_ok : ∀ k, k < 5 → parseFieldDescriptor (TX2 k).2.2.1 = some (tX2 k) := by decide +kernel
theorem nX2 : ∀ a, a < 5 → ∀ b, b < 5 → a ≠ b → (TX2 a).2.1 ≠ (TX2 b).2.1 := by decide +kernel
theorem iX2 : ∀ k, k < 5 → (lw_tbl[([169, 171, 173, 175, 177] : List Nat).getD k 0]? = some (u_lay RX2 TX2 k) ∧ goodWord (u_lay RX2 TX2 k) = true) := by decide +kernel
theorem wX2 : ∀ w ∈ u_ws RX2 TX2 5, w ∈ TT := fun w hw => by
  obtain ⟨k, hk, e⟩ := List.mem_map.mp hw
  rw [← e]
  exact mt (iX2 k (List.mem_range.mp hk)).1 (iX2 k (List.mem_range.mp hk)).2
def RX3 : String := "TakenNumbers$DayStack"
def TX3 : u_T := fun k => match k with
  | 0 => ("TakenNumbers$DayStack", "size", "I", false)
  | _ => ("TakenNumbers$DayStack", "days", "[LTakenNumbers$Day;", true)
def tX3 : Nat → FieldType := fun k => match k with
  | 0 => .int
  | _ => .array (.object "TakenNumbers$Day")
theorem tX3_ok : ∀ k, k < 2 → parseFieldDescriptor (TX3 k).2.2.1 = some (tX3 k) := by decide +kernel
theorem nX3 : ∀ a, a < 2 → ∀ b, b < 2 → a ≠ b → (TX3 a).2.1 ≠ (TX3 b).2.1 := by decide +kernel
theorem iX3 : ∀ k, k < 2 → (lw_tbl[([195, 197] : List Nat).getD k 0]? = some (u_lay RX3 TX3 k) ∧ goodWord (u_lay RX3 TX3 k) = true) := by decide +kernel
theorem wX3 : ∀ w ∈ u_ws RX3 TX3 2, w ∈ TT := fun w hw => by
  obtain ⟨k, hk, e⟩ := List.mem_map.mp hw
  rw [← e]
  exact mt (iX3 k (List.mem_range.mp hk)).1 (iX3 k (List.mem_range.mp hk)).2
def RX4 : String := "TakenNumbers$Port"
def TX4 : u_T := fun k => match k with
  | 0 => ("TakenNumbers$Port", "numbers", "I", false)
  | 1 => ("TakenNumbers$Port", "persons", "I", false)
  | 2 => ("TakenNumbers$Port", "kind", "I", false)
  | 3 => ("TakenNumbers$Port", "lessCost", "I", false)
  | 4 => ("TakenNumbers$Port", "halfCost", "I", false)
  | 5 => ("TakenNumbers$Port", "cost", "[I", true)
  | 6 => ("TakenNumbers$Port", "owned", "[I", true)
  | _ => ("TakenNumbers$Port", "amount", "[I", true)
def tX4 : Nat → FieldType := fun k => match k with
  | 0 => .int
  | 1 => .int
  | 2 => .int
  | 3 => .int
  | 4 => .int
  | 5 => .array .int
  | 6 => .array .int
  | _ => .array .int
theorem tX4_ok : ∀ k, k < 8 → parseFieldDescriptor (TX4 k).2.2.1 = some (tX4 k) := by decide +kernel
theorem nX4 : ∀ a, a < 8 → ∀ b, b < 8 → a ≠ b → (TX4 a).2.1 ≠ (TX4 b).2.1 := by decide +kernel
theorem iX4 : ∀ k, k < 8 → (lw_tbl[([134, 136, 138, 140, 142, 144, 146, 148] : List Nat).getD k 0]? = some (u_lay RX4 TX4 k) ∧ goodWord (u_lay RX4 TX4 k) = true) := by decide +kernel
theorem wX4 : ∀ w ∈ u_ws RX4 TX4 8, w ∈ TT := fun w hw => by
  obtain ⟨k, hk, e⟩ := List.mem_map.mp hw
  rw [← e]
  exact mt (iX4 k (List.mem_range.mp hk)).1 (iX4 k (List.mem_range.mp hk)).2
def RX5 : String := "TakenNumbers$Sayings"
def TX5 : u_T := fun k => match k with
  | 0 => ("TakenNumbers$Sayings", "table", "LTakenNumbers$Table;", true)
  | 1 => ("TakenNumbers$Sayings", "mays", "[I", true)
  | 2 => ("TakenNumbers$Sayings", "kinds", "[I", true)
  | 3 => ("TakenNumbers$Sayings", "ands", "[I", true)
  | 4 => ("TakenNumbers$Sayings", "lesses", "[I", true)
  | 5 => ("TakenNumbers$Sayings", "halves", "[I", true)
  | 6 => ("TakenNumbers$Sayings", "prices", "[I", true)
  | 7 => ("TakenNumbers$Sayings", "turn", "[I", true)
  | _ => ("TakenNumbers$Sayings", "found", "I", false)
def tX5 : Nat → FieldType := fun k => match k with
  | 0 => .object "TakenNumbers$Table"
  | 1 => .array .int
  | 2 => .array .int
  | 3 => .array .int
  | 4 => .array .int
  | 5 => .array .int
  | 6 => .array .int
  | 7 => .array .int
  | _ => .int
theorem tX5_ok : ∀ k, k < 9 → parseFieldDescriptor (TX5 k).2.2.1 = some (tX5 k) := by decide +kernel
theorem nX5 : ∀ a, a < 9 → ∀ b, b < 9 → a ≠ b → (TX5 a).2.1 ≠ (TX5 b).2.1 := by decide +kernel
theorem iX5 : ∀ k, k < 9 → (lw_tbl[([322, 324, 326, 328, 330, 332, 334, 336, 338] : List Nat).getD k 0]? = some (u_lay RX5 TX5 k) ∧ goodWord (u_lay RX5 TX5 k) = true) := by decide +kernel
theorem wX5 : ∀ w ∈ u_ws RX5 TX5 9, w ∈ TT := fun w hw => by
  obtain ⟨k, hk, e⟩ := List.mem_map.mp hw
  rw [← e]
  exact mt (iX5 k (List.mem_range.mp hk)).1 (iX5 k (List.mem_range.mp hk)).2
def RX6 : String := "TakenNumbers$Scene"
def TX6 : u_T := fun k => match k with
  | 0 => ("TakenNumbers$Scene", "who", "I", false)
  | 1 => ("TakenNumbers$Scene", "all", "I", false)
  | 2 => ("TakenNumbers$Scene", "taken", "I", false)
  | 3 => ("TakenNumbers$Scene", "nobodys", "I", false)
  | 4 => ("TakenNumbers$Scene", "kind", "I", false)
  | 5 => ("TakenNumbers$Scene", "amount", "[I", true)
  | _ => ("TakenNumbers$Scene", "own", "[I", true)
def tX6 : Nat → FieldType := fun k => match k with
  | 0 => .int
  | 1 => .int
  | 2 => .int
  | 3 => .int
  | 4 => .int
  | 5 => .array .int
  | _ => .array .int
theorem tX6_ok : ∀ k, k < 7 → parseFieldDescriptor (TX6 k).2.2.1 = some (tX6 k) := by decide +kernel
theorem nX6 : ∀ a, a < 7 → ∀ b, b < 7 → a ≠ b → (TX6 a).2.1 ≠ (TX6 b).2.1 := by decide +kernel
theorem iX6 : ∀ k, k < 7 → (lw_tbl[([363, 365, 367, 369, 371, 373, 375] : List Nat).getD k 0]? = some (u_lay RX6 TX6 k) ∧ goodWord (u_lay RX6 TX6 k) = true) := by decide +kernel
theorem wX6 : ∀ w ∈ u_ws RX6 TX6 7, w ∈ TT := fun w hw => by
  obtain ⟨k, hk, e⟩ := List.mem_map.mp hw
  rw [← e]
  exact mt (iX6 k (List.mem_range.mp hk)).1 (iX6 k (List.mem_range.mp hk)).2
def RX7 : String := "TakenNumbers$Table"
def TX7 : u_T := fun k => match k with
  | 0 => ("TakenNumbers$Table", "ands", "I", false)
  | 1 => ("TakenNumbers$Table", "lesses", "I", false)
  | 2 => ("TakenNumbers$Table", "halves", "I", false)
  | 3 => ("TakenNumbers$Table", "price", "I", false)
  | 4 => ("TakenNumbers$Table", "least", "[I", true)
  | 5 => ("TakenNumbers$Table", "low", "[I", true)
  | 6 => ("TakenNumbers$Table", "high", "[I", true)
  | 7 => ("TakenNumbers$Table", "numbers", "[I", true)
  | 8 => ("TakenNumbers$Table", "prices", "[I", true)
  | 9 => ("TakenNumbers$Table", "size", "I", false)
  | 10 => ("TakenNumbers$Table", "builtMay", "I", false)
  | _ => ("TakenNumbers$Table", "builtKind", "I", false)
def tX7 : Nat → FieldType := fun k => match k with
  | 0 => .int
  | 1 => .int
  | 2 => .int
  | 3 => .int
  | 4 => .array .int
  | 5 => .array .int
  | 6 => .array .int
  | 7 => .array .int
  | 8 => .array .int
  | 9 => .int
  | 10 => .int
  | _ => .int
theorem tX7_ok : ∀ k, k < 12 → parseFieldDescriptor (TX7 k).2.2.1 = some (tX7 k) := by decide +kernel
theorem nX7 : ∀ a, a < 12 → ∀ b, b < 12 → a ≠ b → (TX7 a).2.1 ≠ (TX7 b).2.1 := by decide +kernel
theorem iX7 : ∀ k, k < 12 → (lw_tbl[([288, 290, 292, 294, 296, 298, 300, 302, 304, 306, 308, 310] : List Nat).getD k 0]? = some (u_lay RX7 TX7 k) ∧ goodWord (u_lay RX7 TX7 k) = true) := by decide +kernel
theorem wX7 : ∀ w ∈ u_ws RX7 TX7 12, w ∈ TT := fun w hw => by
  obtain ⟨k, hk, e⟩ := List.mem_map.mp hw
  rw [← e]
  exact mt (iX7 k (List.mem_range.mp hk)).1 (iX7 k (List.mem_range.mp hk)).2
def RX8 : String := "TakenNumbers$Text"
def TX8 : u_T := fun k => match k with
  | 0 => ("TakenNumbers$Text", "length", "I", false)
  | 1 => ("TakenNumbers$Text", "letters", "[C", true)
  | 2 => ("TakenNumbers$Text", "told", "[I", true)
  | 3 => ("TakenNumbers$Text", "at", "I", false)
  | _ => ("TakenNumbers$Text", "onlyN", "Z", false)
def tX8 : Nat → FieldType := fun k => match k with
  | 0 => .int
  | 1 => .array .char
  | 2 => .array .int
  | 3 => .int
  | _ => .boolean
theorem tX8_ok : ∀ k, k < 5 → parseFieldDescriptor (TX8 k).2.2.1 = some (tX8 k) := by decide +kernel
theorem nX8 : ∀ a, a < 5 → ∀ b, b < 5 → a ≠ b → (TX8 a).2.1 ≠ (TX8 b).2.1 := by decide +kernel
theorem iX8 : ∀ k, k < 5 → (lw_tbl[([92, 94, 96, 98, 100] : List Nat).getD k 0]? = some (u_lay RX8 TX8 k) ∧ goodWord (u_lay RX8 TX8 k) = true) := by decide +kernel
theorem wX8 : ∀ w ∈ u_ws RX8 TX8 5, w ∈ TT := fun w hw => by
  obtain ⟨k, hk, e⟩ := List.mem_map.mp hw
  rw [← e]
  exact mt (iX8 k (List.mem_range.mp hk)).1 (iX8 k (List.mem_range.mp hk)).2
def RX9 : String := "TakenNumbers$WaySums"
def TX9 : u_T := fun k => match k with
  | 0 => ("TakenNumbers$WaySums", "ways", "[I", false)
  | 1 => ("TakenNumbers$WaySums", "next", "[I", false)
  | _ => ("TakenNumbers$WaySums", "bound", "I", false)
def tX9 : Nat → FieldType := fun k => match k with
  | 0 => .array .int
  | 1 => .array .int
  | _ => .int
theorem tX9_ok : ∀ k, k < 3 → parseFieldDescriptor (TX9 k).2.2.1 = some (tX9 k) := by decide +kernel
theorem nX9 : ∀ a, a < 3 → ∀ b, b < 3 → a ≠ b → (TX9 a).2.1 ≠ (TX9 b).2.1 := by decide +kernel
theorem iX9 : ∀ k, k < 3 → (lw_tbl[([253, 255, 257] : List Nat).getD k 0]? = some (u_lay RX9 TX9 k) ∧ goodWord (u_lay RX9 TX9 k) = true) := by decide +kernel
theorem wX9 : ∀ w ∈ u_ws RX9 TX9 3, w ∈ TT := fun w hw => by
  obtain ⟨k, hk, e⟩ := List.mem_map.mp hw
  rw [← e]
  exact mt (iX9 k (List.mem_range.mp hk)).1 (iX9 k (List.mem_range.mp hk)).2
def RX10 : String := "TakenNumbers$Words"
def TX10 : u_T := fun k => match k with
  | 0 => ("TakenNumbers$Words", "size", "I", false)
  | 1 => ("TakenNumbers$Words", "numbers", "[I", true)
  | _ => ("TakenNumbers$Words", "uses", "[I", true)
def tX10 : Nat → FieldType := fun k => match k with
  | 0 => .int
  | 1 => .array .int
  | _ => .array .int
theorem tX10_ok : ∀ k, k < 3 → parseFieldDescriptor (TX10 k).2.2.1 = some (tX10 k) := by decide +kernel
theorem nX10 : ∀ a, a < 3 → ∀ b, b < 3 → a ≠ b → (TX10 a).2.1 ≠ (TX10 b).2.1 := by decide +kernel
theorem iX10 : ∀ k, k < 3 → (lw_tbl[([210, 212, 214] : List Nat).getD k 0]? = some (u_lay RX10 TX10 k) ∧ goodWord (u_lay RX10 TX10 k) = true) := by decide +kernel
theorem wX10 : ∀ w ∈ u_ws RX10 TX10 3, w ∈ TT := fun w hw => by
  obtain ⟨k, hk, e⟩ := List.mem_map.mp hw
  rw [← e]
  exact mt (iX10 k (List.mem_range.mp hk)).1 (iX10 k (List.mem_range.mp hk)).2
def RX11 : String := "TakenNumbers"
def TX11 : u_T := fun k => match k with
  | 0 => ("TakenNumbers", "text", "LTakenNumbers$Text;", true)
  | 1 => ("TakenNumbers", "port", "LTakenNumbers$Port;", false)
  | 2 => ("TakenNumbers", "draft", "LTakenNumbers$Port;", false)
  | 3 => ("TakenNumbers", "day", "LTakenNumbers$Day;", true)
  | 4 => ("TakenNumbers", "past", "LTakenNumbers$DayStack;", true)
  | 5 => ("TakenNumbers", "kept", "LTakenNumbers$DayStack;", true)
  | 6 => ("TakenNumbers", "theWords", "LTakenNumbers$Words;", true)
  | 7 => ("TakenNumbers", "theBook", "LTakenNumbers$Book;", true)
  | 8 => ("TakenNumbers", "waySums", "LTakenNumbers$WaySums;", true)
  | 9 => ("TakenNumbers", "sayings", "LTakenNumbers$Sayings;", true)
  | 10 => ("TakenNumbers", "scene", "LTakenNumbers$Scene;", true)
  | _ => ("TakenNumbers", "crowd", "LTakenNumbers$Crowd;", true)
def tX11 : Nat → FieldType := fun k => match k with
  | 0 => .object "TakenNumbers$Text"
  | 1 => .object "TakenNumbers$Port"
  | 2 => .object "TakenNumbers$Port"
  | 3 => .object "TakenNumbers$Day"
  | 4 => .object "TakenNumbers$DayStack"
  | 5 => .object "TakenNumbers$DayStack"
  | 6 => .object "TakenNumbers$Words"
  | 7 => .object "TakenNumbers$Book"
  | 8 => .object "TakenNumbers$WaySums"
  | 9 => .object "TakenNumbers$Sayings"
  | 10 => .object "TakenNumbers$Scene"
  | _ => .object "TakenNumbers$Crowd"
theorem tX11_ok : ∀ k, k < 12 → parseFieldDescriptor (TX11 k).2.2.1 = some (tX11 k) := by decide +kernel
theorem nX11 : ∀ a, a < 12 → ∀ b, b < 12 → a ≠ b → (TX11 a).2.1 ≠ (TX11 b).2.1 := by decide +kernel
theorem iX11 : ∀ k, k < 12 → (lw_tbl[([550, 552, 554, 556, 558, 560, 562, 564, 566, 568, 570, 572] : List Nat).getD k 0]? = some (u_lay RX11 TX11 k) ∧ goodWord (u_lay RX11 TX11 k) = true) := by decide +kernel
theorem wX11 : ∀ w ∈ u_ws RX11 TX11 12, w ∈ TT := fun w hw => by
  obtain ⟨k, hk, e⟩ := List.mem_map.mp hw
  rw [← e]
  exact mt (iX11 k (List.mem_range.mp hk)).1 (iX11 k (List.mem_range.mp hk)).2
def RX12 : String := "TakenNumbersModel"
def TX12 : u_T := fun k => match k with
  | 0 => ("TakenNumbersModel", "thrown", "I", false)
  | 1 => ("TakenNumbersModel", "port", "[I", true)
  | 2 => ("TakenNumbersModel", "fresh", "[I", true)
  | 3 => ("TakenNumbersModel", "day", "[I", true)
  | 4 => ("TakenNumbersModel", "was", "[I", true)
  | 5 => ("TakenNumbersModel", "undone", "I", false)
  | 6 => ("TakenNumbersModel", "kept", "[I", true)
  | 7 => ("TakenNumbersModel", "keeps", "I", false)
  | 8 => ("TakenNumbersModel", "text", "[I", true)
  | 9 => ("TakenNumbersModel", "size", "I", false)
  | 10 => ("TakenNumbersModel", "at", "I", false)
  | 11 => ("TakenNumbersModel", "figure", "[I", true)
  | 12 => ("TakenNumbersModel", "freed", "I", false)
  | 13 => ("TakenNumbersModel", "word", "[I", true)
  | 14 => ("TakenNumbersModel", "words", "I", false)
  | 15 => ("TakenNumbersModel", "table", "[I", true)
  | 16 => ("TakenNumbersModel", "ands", "I", false)
  | 17 => ("TakenNumbersModel", "lesses", "I", false)
  | 18 => ("TakenNumbersModel", "halves", "I", false)
  | 19 => ("TakenNumbersModel", "tried", "[I", true)
  | 20 => ("TakenNumbersModel", "gone", "[I", true)
  | 21 => ("TakenNumbersModel", "could", "[I", true)
  | 22 => ("TakenNumbersModel", "order", "[I", true)
  | 23 => ("TakenNumbersModel", "most", "I", false)
  | 24 => ("TakenNumbersModel", "sums", "[I", true)
  | 25 => ("TakenNumbersModel", "more", "[I", true)
  | 26 => ("TakenNumbersModel", "row", "[I", true)
  | 27 => ("TakenNumbersModel", "rows", "I", false)
  | 28 => ("TakenNumbersModel", "can", "[I", true)
  | _ => ("TakenNumbersModel", "readings", "[I", true)
def tX12 : Nat → FieldType := fun k => match k with
  | 0 => .int
  | 1 => .array .int
  | 2 => .array .int
  | 3 => .array .int
  | 4 => .array .int
  | 5 => .int
  | 6 => .array .int
  | 7 => .int
  | 8 => .array .int
  | 9 => .int
  | 10 => .int
  | 11 => .array .int
  | 12 => .int
  | 13 => .array .int
  | 14 => .int
  | 15 => .array .int
  | 16 => .int
  | 17 => .int
  | 18 => .int
  | 19 => .array .int
  | 20 => .array .int
  | 21 => .array .int
  | 22 => .array .int
  | 23 => .int
  | 24 => .array .int
  | 25 => .array .int
  | 26 => .array .int
  | 27 => .int
  | 28 => .array .int
  | _ => .array .int
theorem tX12_ok : ∀ k, k < 30 → parseFieldDescriptor (TX12 k).2.2.1 = some (tX12 k) := by decide +kernel
theorem nX12 : ∀ a, a < 30 → ∀ b, b < 30 → a ≠ b → (TX12 a).2.1 ≠ (TX12 b).2.1 := by decide +kernel
theorem iX12 : ∀ k, k < 30 → (lw_tbl[([1033, 1035, 1037, 1039, 1041, 1043, 1045, 1047, 1049, 1051, 1053, 1055, 1057, 1059, 1061, 1063, 1065, 1067, 1069, 1071, 1073, 1075, 1077, 1079, 1081, 1083, 1085, 1087, 1089, 1091] : List Nat).getD k 0]? = some (u_lay RX12 TX12 k) ∧ goodWord (u_lay RX12 TX12 k) = true) := by decide +kernel
theorem wX12 : ∀ w ∈ u_ws RX12 TX12 30, w ∈ TT := fun w hw => by
  obtain ⟨k, hk, e⟩ := List.mem_map.mp hw
  rw [← e]
  exact mt (iX12 k (List.mem_range.mp hk)).1 (iX12 k (List.mem_range.mp hk)).2
abbrev cls : List vw_C := [(RX0, TX0, 6), (RX1, TX1, 10), (RX2, TX2, 5), (RX3, TX3, 2), (RX4, TX4, 8), (RX5, TX5, 9), (RX6, TX6, 7), (RX7, TX7, 12), (RX8, TX8, 5), (RX9, TX9, 3), (RX10, TX10, 3), (RX11, TX11, 12), (RX12, TX12, 30)]
def kdl : List Nat := [99, 11, 8, 14, 13, 4, 13, 13, 13, 4, 13, 13, 13, 2, 13, 13, 3, 15, 2, 13, 13, 2, 13, 13, 2, 13, 13, 2, 13, 13, 2, 13, 13, 2, 13, 13, 2, 13, 13, 2, 13, 13, 3, 15, 2, 13, 13, 2, 13, 13, 10, 13, 13, 0, 13, 13, 13, 13, 9, 13, 13, 5, 7, 13, 13, 13, 13, 13, 13, 13, 13, 13, 13, 13, 13, 6, 13, 13, 1, 13, 13, 13, 13, 12, 16, 16, 16, 16, 16, 16, 16, 16, 16, 16, 16, 16, 16, 16, 16, 16, 16, 16]
def lnl : List Nat := [0, 12, 5, 200, 3, 8, 25, 6, 6, 8, 25, 6, 6, 5, 8, 6, 2, 8, 5, 8, 6, 5, 8, 6, 5, 8, 6, 5, 8, 6, 5, 8, 6, 5, 8, 6, 5, 8, 6, 5, 8, 6, 2, 2, 5, 8, 6, 5, 8, 6, 3, 10, 10, 6, 6, 6, 6, 6, 3, 601, 601, 9, 12, 15025, 25, 25, 24, 100, 800, 800, 800, 800, 800, 800, 100, 7, 6, 6, 10, 6, 100, 6, 36, 30, 59, 59, 51, 408, 102, 200, 3, 20, 15626, 7, 7, 7, 6, 601, 601, 6, 6, 64]
def nfl : List Nat := [6, 10, 5, 2, 8, 9, 7, 12, 5, 3, 3, 12, 30]
def frl : List (List Bool) := [[false, false, true, true, true, true], [false, false, false, false, false, true, true, true, true, true], [true, true, false, false, false], [false, true], [false, false, false, false, false, true, true, true], [true, true, true, true, true, true, true, true, false], [false, false, false, false, false, true, true], [false, false, false, false, true, true, true, true, true, false, false, false], [false, true, true, false, false], [true, true, false], [false, true, true], [true, true, true, true, true, true, true, true, true, true, true, true], [false, true, true, true, true, false, true, false, true, false, false, true, false, true, false, true, false, false, false, true, true, true, true, false, true, true, true, false, true, true]]
def NX : Nat := 82
def NT : Nat := 101
theorem cls_ok (ci : Nat) (C : String) (T : u_T) (N : Nat) (h : cls[ci]? = some (C, T, N)) : (∀ w ∈ u_ws C T N, w ∈ TT) ∧ nfl.getD ci 0 = N ∧ (∀ a, a < N → ∀ b, b < N → a ≠ b → (T a).2.1 ≠ (T b).2.1) ∧ ∃ ty0 : Nat → FieldType, ∀ k, k < N → parseFieldDescriptor (T k).2.2.1 = some (ty0 k) := by
  match ci, h with
  | 0, h => cases h; exact ⟨wX0, rfl, nX0, tX0, tX0_ok⟩
  | 1, h => cases h; exact ⟨wX1, rfl, nX1, tX1, tX1_ok⟩
  | 2, h => cases h; exact ⟨wX2, rfl, nX2, tX2, tX2_ok⟩
  | 3, h => cases h; exact ⟨wX3, rfl, nX3, tX3, tX3_ok⟩
  | 4, h => cases h; exact ⟨wX4, rfl, nX4, tX4, tX4_ok⟩
  | 5, h => cases h; exact ⟨wX5, rfl, nX5, tX5, tX5_ok⟩
  | 6, h => cases h; exact ⟨wX6, rfl, nX6, tX6, tX6_ok⟩
  | 7, h => cases h; exact ⟨wX7, rfl, nX7, tX7, tX7_ok⟩
  | 8, h => cases h; exact ⟨wX8, rfl, nX8, tX8, tX8_ok⟩
  | 9, h => cases h; exact ⟨wX9, rfl, nX9, tX9, tX9_ok⟩
  | 10, h => cases h; exact ⟨wX10, rfl, nX10, tX10, tX10_ok⟩
  | 11, h => cases h; exact ⟨wX11, rfl, nX11, tX11, tX11_ok⟩
  | 12, h => cases h; exact ⟨wX12, rfl, nX12, tX12, tX12_ok⟩
  | k + 13, h => simp [cls] at h
def yX0_init : MethodName := ⟨RX0, "<init>", "()V"⟩
abbrev bX0_init : ByteArray := prog_2_method_1_code
def yX0_append : MethodName := ⟨RX0, "append", "(I)Z"⟩
abbrev bX0_append : ByteArray := prog_2_method_2_code
def yX0_inTwoRows : MethodName := ⟨RX0, "inTwoRows", "()I"⟩
abbrev bX0_inTwoRows : ByteArray := prog_2_method_3_code
def yX0_read : MethodName := ⟨RX0, "read", "(LTakenNumbers$Port;LTakenNumbers$WaySums;)V"⟩
abbrev bX0_read : ByteArray := prog_2_method_4_code
def yX0_surePerson : MethodName := ⟨RX0, "surePerson", "(I)I"⟩
abbrev bX0_surePerson : ByteArray := prog_2_method_5_code
def yX0_readFrom : MethodName := ⟨RX0, "readFrom", "(II)V"⟩
abbrev bX0_readFrom : ByteArray := prog_2_method_6_code
def yX1_init : MethodName := ⟨RX1, "<init>", "(LTakenNumbers$Sayings;)V"⟩
abbrev bX1_init : ByteArray := prog_3_method_1_code
def yX1_stuckIn : MethodName := ⟨RX1, "stuckIn", "(LTakenNumbers$Scene;)I"⟩
abbrev bX1_stuckIn : ByteArray := prog_3_method_2_code
def yX1_denyOne : MethodName := ⟨RX1, "denyOne", "(LTakenNumbers$Scene;)Z"⟩
abbrev bX1_denyOne : ByteArray := prog_3_method_3_code
def yX1_denyTwo : MethodName := ⟨RX1, "denyTwo", "(LTakenNumbers$Scene;)Z"⟩
abbrev bX1_denyTwo : ByteArray := prog_3_method_4_code
def yX1_cornerBy : MethodName := ⟨RX1, "cornerBy", "(LTakenNumbers$Scene;I)Z"⟩
abbrev bX1_cornerBy : ByteArray := prog_3_method_5_code
def yX1_findOrder : MethodName := ⟨RX1, "findOrder", "(LTakenNumbers$Scene;)V"⟩
abbrev bX1_findOrder : ByteArray := prog_3_method_6_code
def yX1_getsWorse : MethodName := ⟨RX1, "getsWorse", "(LTakenNumbers$Scene;I)Z"⟩
abbrev bX1_getsWorse : ByteArray := prog_3_method_7_code
def yX1_search : MethodName := ⟨RX1, "search", "(LTakenNumbers$Scene;IIII)V"⟩
abbrev bX1_search : ByteArray := prog_3_method_8_code
def yX1_ableAt : MethodName := ⟨RX1, "ableAt", "(LTakenNumbers$Scene;III)I"⟩
abbrev bX1_ableAt : ByteArray := prog_3_method_9_code
def yX1_record : MethodName := ⟨RX1, "record", "(III)V"⟩
abbrev bX1_record : ByteArray := prog_3_method_10_code
def yX2_init : MethodName := ⟨RX2, "<init>", "()V"⟩
abbrev bX2_init : ByteArray := prog_4_method_1_code
def yX2_begin : MethodName := ⟨RX2, "begin", "(Z)V"⟩
abbrev bX2_begin : ByteArray := prog_4_method_2_code
def yX2_copy : MethodName := ⟨RX2, "copy", "(LTakenNumbers$Day;)V"⟩
abbrev bX2_copy : ByteArray := prog_4_method_3_code
def yX2_take : MethodName := ⟨RX2, "take", "(II)V"⟩
abbrev bX2_take : ByteArray := prog_4_method_4_code
def yX2_taken : MethodName := ⟨RX2, "taken", "()I"⟩
abbrev bX2_taken : ByteArray := prog_4_method_5_code
def yX2_lent : MethodName := ⟨RX2, "lent", "()I"⟩
abbrev bX2_lent : ByteArray := prog_4_method_6_code
def yX3_init : MethodName := ⟨RX3, "<init>", "(I)V"⟩
abbrev bX3_init : ByteArray := prog_5_method_1_code
def yX3_push : MethodName := ⟨RX3, "push", "(LTakenNumbers$Day;)V"⟩
abbrev bX3_push : ByteArray := prog_5_method_2_code
def yX3_pop : MethodName := ⟨RX3, "pop", "(LTakenNumbers$Day;)Z"⟩
abbrev bX3_pop : ByteArray := prog_5_method_3_code
def yX3_dropOldest : MethodName := ⟨RX3, "dropOldest", "()V"⟩
abbrev bX3_dropOldest : ByteArray := prog_5_method_4_code
def yX4_init : MethodName := ⟨RX4, "<init>", "()V"⟩
abbrev bX4_init : ByteArray := prog_6_method_1_code
def yX4_clear : MethodName := ⟨RX4, "clear", "()V"⟩
abbrev bX4_clear : ByteArray := prog_6_method_2_code
def yX4_isNumber : MethodName := ⟨RX4, "isNumber", "(I)Z"⟩
abbrev bX4_isNumber : ByteArray := prog_6_method_3_code
def yX4_isPerson : MethodName := ⟨RX4, "isPerson", "(I)Z"⟩
abbrev bX4_isPerson : ByteArray := prog_6_method_4_code
def yX4_isSet : MethodName := ⟨RX4, "isSet", "(I)Z"⟩
abbrev bX4_isSet : ByteArray := prog_6_method_5_code
def yX4_all : MethodName := ⟨RX4, "all", "()I"⟩
abbrev bX4_all : ByteArray := prog_6_method_6_code
def yX4_price : MethodName := ⟨RX4, "price", "(II)I"⟩
abbrev bX4_price : ByteArray := prog_6_method_7_code
def yX4_setNumbers : MethodName := ⟨RX4, "setNumbers", "(I)Z"⟩
abbrev bX4_setNumbers : ByteArray := prog_6_method_8_code
def yX4_setCost : MethodName := ⟨RX4, "setCost", "(II)Z"⟩
abbrev bX4_setCost : ByteArray := prog_6_method_9_code
def yX4_addPerson : MethodName := ⟨RX4, "addPerson", "(I)Z"⟩
abbrev bX4_addPerson : ByteArray := prog_6_method_10_code
def yX4_setOwner : MethodName := ⟨RX4, "setOwner", "(II)Z"⟩
abbrev bX4_setOwner : ByteArray := prog_6_method_11_code
def yX4_setLaw : MethodName := ⟨RX4, "setLaw", "(III)Z"⟩
abbrev bX4_setLaw : ByteArray := prog_6_method_12_code
def yX5_init : MethodName := ⟨RX5, "<init>", "()V"⟩
abbrev bX5_init : ByteArray := prog_7_method_1_code
def yX5_forget : MethodName := ⟨RX5, "forget", "(LTakenNumbers$Port;)V"⟩
abbrev bX5_forget : ByteArray := prog_7_method_2_code
def yX5_find : MethodName := ⟨RX5, "find", "(III)I"⟩
abbrev bX5_find : ByteArray := prog_7_method_3_code
def yX5_price : MethodName := ⟨RX5, "price", "()I"⟩
abbrev bX5_price : ByteArray := prog_7_method_4_code
def yX5_inUse : MethodName := ⟨RX5, "inUse", "(I)I"⟩
abbrev bX5_inUse : ByteArray := prog_7_method_5_code
def yX5_used : MethodName := ⟨RX5, "used", "(I)I"⟩
abbrev bX5_used : ByteArray := prog_7_method_6_code
def yX5_oneOf : MethodName := ⟨RX5, "oneOf", "(I)I"⟩
abbrev bX5_oneOf : ByteArray := prog_7_method_7_code
def yX6_init : MethodName := ⟨RX6, "<init>", "()V"⟩
abbrev bX6_init : ByteArray := prog_8_method_1_code
def yX6_setNow : MethodName := ⟨RX6, "setNow", "(LTakenNumbers$Port;LTakenNumbers$Day;)V"⟩
abbrev bX6_setNow : ByteArray := prog_8_method_2_code
def yX6_setDrawn : MethodName := ⟨RX6, "setDrawn", "(LTakenNumbers$Port;II)V"⟩
abbrev bX6_setDrawn : ByteArray := prog_8_method_3_code
def yX6_mayUse : MethodName := ⟨RX6, "mayUse", "(II)I"⟩
abbrev bX6_mayUse : ByteArray := prog_8_method_4_code
def yX6_setFree : MethodName := ⟨RX6, "setFree", "(LTakenNumbers$Port;)V"⟩
abbrev bX6_setFree : ByteArray := prog_8_method_5_code
def yX7_init : MethodName := ⟨RX7, "<init>", "()V"⟩
abbrev bX7_init : ByteArray := prog_9_method_1_code
def yX7_setPort : MethodName := ⟨RX7, "setPort", "(LTakenNumbers$Port;)V"⟩
abbrev bX7_setPort : ByteArray := prog_9_method_2_code
def yX7_build : MethodName := ⟨RX7, "build", "(II)V"⟩
abbrev bX7_build : ByteArray := prog_9_method_3_code
def yX7_pick : MethodName := ⟨RX7, "pick", "(I)V"⟩
abbrev bX7_pick : ByteArray := prog_9_method_4_code
def yX7_listNumbers : MethodName := ⟨RX7, "listNumbers", "()V"⟩
abbrev bX7_listNumbers : ByteArray := prog_9_method_5_code
def yX7_setBounds : MethodName := ⟨RX7, "setBounds", "()V"⟩
abbrev bX7_setBounds : ByteArray := prog_9_method_6_code
def yX7_spread : MethodName := ⟨RX7, "spread", "(III)V"⟩
abbrev bX7_spread : ByteArray := prog_9_method_7_code
def yX7_firstUse : MethodName := ⟨RX7, "firstUse", "(III)I"⟩
abbrev bX7_firstUse : ByteArray := prog_9_method_8_code
def yX7_at : MethodName := ⟨RX7, "at", "(II)I"⟩
abbrev bX7_at : ByteArray := prog_9_method_9_code
def yX7_weight : MethodName := ⟨RX7, "weight", "(II)I"⟩
abbrev bX7_weight : ByteArray := prog_9_method_10_code
def yX7_add : MethodName := ⟨RX7, "add", "(II)V"⟩
abbrev bX7_add : ByteArray := prog_9_method_11_code
def yX8_init : MethodName := ⟨RX8, "<init>", "()V"⟩
abbrev bX8_init : ByteArray := prog_10_method_1_code
def yX8_append : MethodName := ⟨RX8, "append", "(C)Z"⟩
abbrev bX8_append : ByteArray := prog_10_method_2_code
def yX8_readInto : MethodName := ⟨RX8, "readInto", "(LTakenNumbers$Port;)I"⟩
abbrev bX8_readInto : ByteArray := prog_10_method_3_code
def yX8_numbersBehind : MethodName := ⟨RX8, "numbersBehind", "(C)I"⟩
abbrev bX8_numbersBehind : ByteArray := prog_10_method_4_code
def yX8_readItem : MethodName := ⟨RX8, "readItem", "(I)Z"⟩
abbrev bX8_readItem : ByteArray := prog_10_method_5_code
def yX8_readNumber : MethodName := ⟨RX8, "readNumber", "(I)Z"⟩
abbrev bX8_readNumber : ByteArray := prog_10_method_6_code
def yX8_accept : MethodName := ⟨RX8, "accept", "(CLTakenNumbers$Port;)Z"⟩
abbrev bX8_accept : ByteArray := prog_10_method_7_code
def yX9_init : MethodName := ⟨RX9, "<init>", "()V"⟩
abbrev bX9_init : ByteArray := prog_11_method_1_code
def yX9_reckon : MethodName := ⟨RX9, "reckon", "(II)V"⟩
abbrev bX9_reckon : ByteArray := prog_11_method_2_code
def yX9_comingTo : MethodName := ⟨RX9, "comingTo", "(I)I"⟩
abbrev bX9_comingTo : ByteArray := prog_11_method_3_code
def yX9_join : MethodName := ⟨RX9, "join", "(II)V"⟩
abbrev bX9_join : ByteArray := prog_11_method_4_code
def yX10_init : MethodName := ⟨RX10, "<init>", "()V"⟩
abbrev bX10_init : ByteArray := prog_12_method_1_code
def yX10_append : MethodName := ⟨RX10, "append", "(II)Z"⟩
abbrev bX10_append : ByteArray := prog_12_method_2_code
def yX10_set : MethodName := ⟨RX10, "set", "()I"⟩
abbrev bX10_set : ByteArray := prog_12_method_3_code
def yX10_sum : MethodName := ⟨RX10, "sum", "()I"⟩
abbrev bX10_sum : ByteArray := prog_12_method_4_code
def yX10_price : MethodName := ⟨RX10, "price", "(LTakenNumbers$Port;)I"⟩
abbrev bX10_price : ByteArray := prog_12_method_5_code
def yX10_areSaying : MethodName := ⟨RX10, "areSaying", "(I)Z"⟩
abbrev bX10_areSaying : ByteArray := prog_12_method_6_code
def yX11_init : MethodName := ⟨RX11, "<init>", "()V"⟩
abbrev bX11_init : ByteArray := prog_1_method_1_code
def yX11_write : MethodName := ⟨RX11, "write", "(I)I"⟩
abbrev bX11_write : ByteArray := prog_1_method_2_code
def yX11_wipe : MethodName := ⟨RX11, "wipe", "()I"⟩
abbrev bX11_wipe : ByteArray := prog_1_method_3_code
def yX11_fault : MethodName := ⟨RX11, "fault", "()I"⟩
abbrev bX11_fault : ByteArray := prog_1_method_4_code
def yX11_lay : MethodName := ⟨RX11, "lay", "()I"⟩
abbrev bX11_lay : ByteArray := prog_1_method_5_code
def yX11_number : MethodName := ⟨RX11, "number", "(II)I"⟩
abbrev bX11_number : ByteArray := prog_1_method_6_code
def yX11_person : MethodName := ⟨RX11, "person", "(II)I"⟩
abbrev bX11_person : ByteArray := prog_1_method_7_code
def yX11_law : MethodName := ⟨RX11, "law", "(I)I"⟩
abbrev bX11_law : ByteArray := prog_1_method_8_code
def yX11_tell : MethodName := ⟨RX11, "tell", "(II)I"⟩
abbrev bX11_tell : ByteArray := prog_1_method_9_code
def yX11_hush : MethodName := ⟨RX11, "hush", "()I"⟩
abbrev bX11_hush : ByteArray := prog_1_method_10_code
def yX11_words : MethodName := ⟨RX11, "words", "(I)I"⟩
abbrev bX11_words : ByteArray := prog_1_method_11_code
def yX11_say : MethodName := ⟨RX11, "say", "(I)I"⟩
abbrev bX11_say : ByteArray := prog_1_method_12_code
def yX11_speak : MethodName := ⟨RX11, "speak", "(I)I"⟩
abbrev bX11_speak : ByteArray := prog_1_method_13_code
def yX11_lend : MethodName := ⟨RX11, "lend", "(II)I"⟩
abbrev bX11_lend : ByteArray := prog_1_method_14_code
def yX11_born : MethodName := ⟨RX11, "born", "()I"⟩
abbrev bX11_born : ByteArray := prog_1_method_15_code
def yX11_dusk : MethodName := ⟨RX11, "dusk", "(Z)I"⟩
abbrev bX11_dusk : ByteArray := prog_1_method_16_code
def yX11_undo : MethodName := ⟨RX11, "undo", "()I"⟩
abbrev bX11_undo : ByteArray := prog_1_method_17_code
def yX11_best : MethodName := ⟨RX11, "best", "(III)I"⟩
abbrev bX11_best : ByteArray := prog_1_method_18_code
def yX11_stuck : MethodName := ⟨RX11, "stuck", "()I"⟩
abbrev bX11_stuck : ByteArray := prog_1_method_19_code
def yX11_freed : MethodName := ⟨RX11, "freed", "(I)I"⟩
abbrev bX11_freed : ByteArray := prog_1_method_20_code
def yX11_order : MethodName := ⟨RX11, "order", "(I)I"⟩
abbrev bX11_order : ByteArray := prog_1_method_21_code
def yX11_deny : MethodName := ⟨RX11, "deny", "(II)I"⟩
abbrev bX11_deny : ByteArray := prog_1_method_22_code
def yX11_guard : MethodName := ⟨RX11, "guard", "()I"⟩
abbrev bX11_guard : ByteArray := prog_1_method_23_code
def yX11_value : MethodName := ⟨RX11, "value", "(I)I"⟩
abbrev bX11_value : ByteArray := prog_1_method_24_code
def yX11_changed : MethodName := ⟨RX11, "changed", "()I"⟩
abbrev bX11_changed : ByteArray := prog_1_method_25_code
def yX11_ways : MethodName := ⟨RX11, "ways", "(III)I"⟩
abbrev bX11_ways : ByteArray := prog_1_method_26_code
def yX11_lowest : MethodName := ⟨RX11, "lowest", "(I)I"⟩
abbrev bX11_lowest : ByteArray := prog_1_method_27_code
def yX11_enter : MethodName := ⟨RX11, "enter", "(I)I"⟩
abbrev bX11_enter : ByteArray := prog_1_method_28_code
def yX11_close : MethodName := ⟨RX11, "close", "()I"⟩
abbrev bX11_close : ByteArray := prog_1_method_29_code
def yX11_book : MethodName := ⟨RX11, "book", "(I)I"⟩
abbrev bX11_book : ByteArray := prog_1_method_30_code
def yX11_twice : MethodName := ⟨RX11, "twice", "()I"⟩
abbrev bX11_twice : ByteArray := prog_1_method_31_code
def yX11_corner : MethodName := ⟨RX11, "corner", "(II)I"⟩
abbrev bX11_corner : ByteArray := prog_1_method_32_code
def yX11_year : MethodName := ⟨RX11, "year", "(III)I"⟩
abbrev bX11_year : ByteArray := prog_1_method_33_code
def yX11_keep : MethodName := ⟨RX11, "keep", "()I"⟩
abbrev bX11_keep : ByteArray := prog_1_method_34_code
def yX11_back : MethodName := ⟨RX11, "back", "()I"⟩
abbrev bX11_back : ByteArray := prog_1_method_35_code
def yX11_count : MethodName := ⟨RX11, "count", "(I)I"⟩
abbrev bX11_count : ByteArray := prog_1_method_36_code
def yX11_sceneNow : MethodName := ⟨RX11, "sceneNow", "()LTakenNumbers$Scene;"⟩
abbrev bX11_sceneNow : ByteArray := prog_1_method_37_code
def yX11_usedNow : MethodName := ⟨RX11, "usedNow", "(II)I"⟩
abbrev bX11_usedNow : ByteArray := prog_1_method_38_code
def yX11_hasBit : MethodName := ⟨RX11, "hasBit", "(II)Z"⟩
abbrev bX11_hasBit : ByteArray := prog_1_method_39_code
def yX11_firstBit : MethodName := ⟨RX11, "firstBit", "(I)I"⟩
abbrev bX11_firstBit : ByteArray := prog_1_method_40_code
def yX11_holderOf : MethodName := ⟨RX11, "holderOf", "(I[I)I"⟩
abbrev bX11_holderOf : ByteArray := prog_1_method_41_code
def yX11_countsAs : MethodName := ⟨RX11, "countsAs", "(II)I"⟩
abbrev bX11_countsAs : ByteArray := prog_1_method_42_code
def yX11_canStand : MethodName := ⟨RX11, "canStand", "(II)Z"⟩
abbrev bX11_canStand : ByteArray := prog_1_method_43_code
def yX11_lastUse : MethodName := ⟨RX11, "lastUse", "(I)I"⟩
abbrev bX11_lastUse : ByteArray := prog_1_method_44_code
def yX11_together : MethodName := ⟨RX11, "together", "([I)I"⟩
abbrev bX11_together : ByteArray := prog_1_method_45_code
def yX12_in : MethodName := ⟨RX12, "in", "(JJJ)Z"⟩
abbrev bX12_in : ByteArray := prog_14_method_2_code
def yX12_has : MethodName := ⟨RX12, "has", "(II)Z"⟩
abbrev bX12_has : ByteArray := prog_14_method_3_code
def yX12_bits : MethodName := ⟨RX12, "bits", "(I)I"⟩
abbrev bX12_bits : ByteArray := prog_14_method_4_code
def yX12_init : MethodName := ⟨RX12, "<init>", "()V"⟩
abbrev bX12_init : ByteArray := prog_14_method_5_code
def yX12_begin : MethodName := ⟨RX12, "begin", "()V"⟩
abbrev bX12_begin : ByteArray := prog_14_method_6_code
def yX12_dawn : MethodName := ⟨RX12, "dawn", "(Z)V"⟩
abbrev bX12_dawn : ByteArray := prog_14_method_7_code
def yX12_noNumber : MethodName := ⟨RX12, "noNumber", "(I)Z"⟩
abbrev bX12_noNumber : ByteArray := prog_14_method_8_code
def yX12_noOne : MethodName := ⟨RX12, "noOne", "(I)Z"⟩
abbrev bX12_noOne : ByteArray := prog_14_method_9_code
def yX12_noSet : MethodName := ⟨RX12, "noSet", "(I)Z"⟩
abbrev bX12_noSet : ByteArray := prog_14_method_10_code
def yX12_write : MethodName := ⟨RX12, "write", "(I)I"⟩
abbrev bX12_write : ByteArray := prog_14_method_11_code
def yX12_wipe : MethodName := ⟨RX12, "wipe", "()I"⟩
abbrev bX12_wipe : ByteArray := prog_14_method_12_code
def yX12_isFigure : MethodName := ⟨RX12, "isFigure", "()Z"⟩
abbrev bX12_isFigure : ByteArray := prog_14_method_13_code
def yX12_areNumbers : MethodName := ⟨RX12, "areNumbers", "(I)Z"⟩
abbrev bX12_areNumbers : ByteArray := prog_14_method_14_code
def yX12_readItem : MethodName := ⟨RX12, "readItem", "(IZ)Z"⟩
abbrev bX12_readItem : ByteArray := prog_14_method_15_code
def yX12_readAll : MethodName := ⟨RX12, "readAll", "()I"⟩
abbrev bX12_readAll : ByteArray := prog_14_method_16_code
def yX12_fault : MethodName := ⟨RX12, "fault", "()I"⟩
abbrev bX12_fault : ByteArray := prog_14_method_17_code
def yX12_lay : MethodName := ⟨RX12, "lay", "()I"⟩
abbrev bX12_lay : ByteArray := prog_14_method_18_code
def yX12_number : MethodName := ⟨RX12, "number", "(II)I"⟩
abbrev bX12_number : ByteArray := prog_14_method_19_code
def yX12_taken : MethodName := ⟨RX12, "taken", "()I"⟩
abbrev bX12_taken : ByteArray := prog_14_method_20_code
def yX12_ofOne : MethodName := ⟨RX12, "ofOne", "(I)I"⟩
abbrev bX12_ofOne : ByteArray := prog_14_method_21_code
def yX12_mayOf : MethodName := ⟨RX12, "mayOf", "(I)I"⟩
abbrev bX12_mayOf : ByteArray := prog_14_method_22_code
def yX12_person : MethodName := ⟨RX12, "person", "(II)I"⟩
abbrev bX12_person : ByteArray := prog_14_method_23_code
def yX12_law : MethodName := ⟨RX12, "law", "(I)I"⟩
abbrev bX12_law : ByteArray := prog_14_method_24_code
def yX12_counts : MethodName := ⟨RX12, "counts", "(II)I"⟩
abbrev bX12_counts : ByteArray := prog_14_method_25_code
def yX12_priceOf : MethodName := ⟨RX12, "priceOf", "(II)I"⟩
abbrev bX12_priceOf : ByteArray := prog_14_method_26_code
def yX12_tell : MethodName := ⟨RX12, "tell", "(II)I"⟩
abbrev bX12_tell : ByteArray := prog_14_method_27_code
def yX12_hush : MethodName := ⟨RX12, "hush", "()I"⟩
abbrev bX12_hush : ByteArray := prog_14_method_28_code
def yX12_sumOfWords : MethodName := ⟨RX12, "sumOfWords", "()I"⟩
abbrev bX12_sumOfWords : ByteArray := prog_14_method_29_code
def yX12_priceOfWords : MethodName := ⟨RX12, "priceOfWords", "()I"⟩
abbrev bX12_priceOfWords : ByteArray := prog_14_method_30_code
def yX12_isSaying : MethodName := ⟨RX12, "isSaying", "()Z"⟩
abbrev bX12_isSaying : ByteArray := prog_14_method_31_code
def yX12_words : MethodName := ⟨RX12, "words", "(I)I"⟩
abbrev bX12_words : ByteArray := prog_14_method_32_code
def yX12_laid : MethodName := ⟨RX12, "laid", "(II)I"⟩
abbrev bX12_laid : ByteArray := prog_14_method_33_code
def yX12_by : MethodName := ⟨RX12, "by", "(IIII)I"⟩
abbrev bX12_by : ByteArray := prog_14_method_34_code
def yX12_layTable : MethodName := ⟨RX12, "layTable", "(II)V"⟩
abbrev bX12_layTable : ByteArray := prog_14_method_35_code
def yX12_bestOf : MethodName := ⟨RX12, "bestOf", "(III)I"⟩
abbrev bX12_bestOf : ByteArray := prog_14_method_36_code
def yX12_hasBest : MethodName := ⟨RX12, "hasBest", "(III)Z"⟩
abbrev bX12_hasBest : ByteArray := prog_14_method_37_code
def yX12_usedSet : MethodName := ⟨RX12, "usedSet", "()I"⟩
abbrev bX12_usedSet : ByteArray := prog_14_method_38_code
def yX12_keepDay : MethodName := ⟨RX12, "keepDay", "()V"⟩
abbrev bX12_keepDay : ByteArray := prog_14_method_39_code
def yX12_take : MethodName := ⟨RX12, "take", "(II)V"⟩
abbrev bX12_take : ByteArray := prog_14_method_40_code
def yX12_say : MethodName := ⟨RX12, "say", "(I)I"⟩
abbrev bX12_say : ByteArray := prog_14_method_41_code
def yX12_speak : MethodName := ⟨RX12, "speak", "(I)I"⟩
abbrev bX12_speak : ByteArray := prog_14_method_42_code
def yX12_lend : MethodName := ⟨RX12, "lend", "(II)I"⟩
abbrev bX12_lend : ByteArray := prog_14_method_43_code
def yX12_born : MethodName := ⟨RX12, "born", "()I"⟩
abbrev bX12_born : ByteArray := prog_14_method_44_code
def yX12_dusk : MethodName := ⟨RX12, "dusk", "(Z)I"⟩
abbrev bX12_dusk : ByteArray := prog_14_method_45_code
def yX12_undo : MethodName := ⟨RX12, "undo", "()I"⟩
abbrev bX12_undo : ByteArray := prog_14_method_46_code
def yX12_best : MethodName := ⟨RX12, "best", "(III)I"⟩
abbrev bX12_best : ByteArray := prog_14_method_47_code
def yX12_stuckOf : MethodName := ⟨RX12, "stuckOf", "(III)I"⟩
abbrev bX12_stuckOf : ByteArray := prog_14_method_48_code
def yX12_silent : MethodName := ⟨RX12, "silent", "()I"⟩
abbrev bX12_silent : ByteArray := prog_14_method_49_code
def yX12_stuck : MethodName := ⟨RX12, "stuck", "()I"⟩
abbrev bX12_stuck : ByteArray := prog_14_method_50_code
def yX12_freed : MethodName := ⟨RX12, "freed", "(I)I"⟩
abbrev bX12_freed : ByteArray := prog_14_method_51_code
def yX12_isAhead : MethodName := ⟨RX12, "isAhead", "(II)Z"⟩
abbrev bX12_isAhead : ByteArray := prog_14_method_52_code
def yX12_layOrder : MethodName := ⟨RX12, "layOrder", "()V"⟩
abbrev bX12_layOrder : ByteArray := prog_14_method_53_code
def yX12_order : MethodName := ⟨RX12, "order", "(I)I"⟩
abbrev bX12_order : ByteArray := prog_14_method_54_code
def yX12_deny : MethodName := ⟨RX12, "deny", "(II)I"⟩
abbrev bX12_deny : ByteArray := prog_14_method_55_code
def yX12_guard : MethodName := ⟨RX12, "guard", "()I"⟩
abbrev bX12_guard : ByteArray := prog_14_method_56_code
def yX12_value : MethodName := ⟨RX12, "value", "(I)I"⟩
abbrev bX12_value : ByteArray := prog_14_method_57_code
def yX12_changed : MethodName := ⟨RX12, "changed", "()I"⟩
abbrev bX12_changed : ByteArray := prog_14_method_58_code
def yX12_waysOf : MethodName := ⟨RX12, "waysOf", "(III)I"⟩
abbrev bX12_waysOf : ByteArray := prog_14_method_59_code
def yX12_ways : MethodName := ⟨RX12, "ways", "(III)I"⟩
abbrev bX12_ways : ByteArray := prog_14_method_60_code
def yX12_lowest : MethodName := ⟨RX12, "lowest", "(I)I"⟩
abbrev bX12_lowest : ByteArray := prog_14_method_61_code
def yX12_enter : MethodName := ⟨RX12, "enter", "(I)I"⟩
abbrev bX12_enter : ByteArray := prog_14_method_62_code
def yX12_close : MethodName := ⟨RX12, "close", "()I"⟩
abbrev bX12_close : ByteArray := prog_14_method_63_code
def yX12_readingsBy : MethodName := ⟨RX12, "readingsBy", "(II)I"⟩
abbrev bX12_readingsBy : ByteArray := prog_14_method_64_code
def yX12_book : MethodName := ⟨RX12, "book", "(I)I"⟩
abbrev bX12_book : ByteArray := prog_14_method_65_code
def yX12_twice : MethodName := ⟨RX12, "twice", "()I"⟩
abbrev bX12_twice : ByteArray := prog_14_method_66_code
def yX12_corner : MethodName := ⟨RX12, "corner", "(II)I"⟩
abbrev bX12_corner : ByteArray := prog_14_method_67_code
def yX12_year : MethodName := ⟨RX12, "year", "(III)I"⟩
abbrev bX12_year : ByteArray := prog_14_method_68_code
def yX12_keep : MethodName := ⟨RX12, "keep", "()I"⟩
abbrev bX12_keep : ByteArray := prog_14_method_69_code
def yX12_back : MethodName := ⟨RX12, "back", "()I"⟩
abbrev bX12_back : ByteArray := prog_14_method_70_code
def yX12_count : MethodName := ⟨RX12, "count", "(I)I"⟩
abbrev bX12_count : ByteArray := prog_14_method_71_code
def yJ6_bitCount_0f7a4 : MethodName := ⟨"java/lang/Integer", "bitCount", "(I)I"⟩
abbrev bJ6_bitCount_0f7a4 : ByteArray := prog_15_method_49_code
end
section
/-! my own base: a flat picture of all cells that the two constructors make, and a row for each instruction that touches it -/
def kd (a : Nat) : Nat := kdl.getD a 99
def ln (a : Nat) : Nat := lnl.getD a 0
def nf (ci : Nat) : Nat := nfl.getD ci 0
def fr (ci k : Nat) : Bool := (frl.getD ci []).getD k false
/-- ints and references of every cell, by its relative address and place; reference 0 is null -/
abbrev Hp : Type := (Nat → Nat → Int32) × (Nat → Nat → Nat)
def si (h : Hp) (a k : Nat) (v : Int32) : Hp := (fun b => if b = a then upd (h.1 a) k v else h.1 b, h.2)
def sr (h : Hp) (a k : Nat) (q : Nat) : Hp := (h.1, fun b => if b = a then (fun j => if j = k then q else h.2 a j) else h.2 b)
/-- a new cell: ints 0, references null -/
def sz (h : Hp) (a : Nat) : Hp := (fun b => if b = a then (fun _ => 0) else h.1 b, fun b => if b = a then (fun _ => 0) else h.2 b)
/-- a cell's ints all at once -/
def sc (h : Hp) (a : Nat) (f : Nat → Int32) : Hp := (fun b => if b = a then f else h.1 b, h.2)
abbrev GG : Type := va_G × ClassId × ClassId × ClassId × Nat
abbrev bs (G : GG) : Nat := G.2.2.2.2
def ro (b q : Nat) : Option Nat := if q = 0 then none else some (b + q)
def fv (b : Nat) (h : Hp) (a ci k : Nat) : Value := if fr ci k = true then va_rf (ro b (h.2 a k)) else .int (h.1 a k)
def cE (G : GG) (h : Hp) (a : Nat) : va_E :=
  if kd a < 13 then .inr (kd a, (List.range (nf (kd a))).map (fv (bs G) h a (kd a)))
  else if kd a = 14 then .inl (G.2.2.1, ln a, .inl (h.1 a))
  else if kd a = 15 then .inl (G.2.2.2.1, ln a, .inr (.inr (.inr (.inr (fun j => ro (bs G) (h.2 a j))))))
  else .inl (G.2.1, ln a, .inl (h.1 a))
def wl (G : GG) (n : Nat) (h : Hp) : va_W := (List.range n).map (fun i => (bs G + (i + 1), cE G h (i + 1)))
def Wd (G : GG) (n : Nat) (h : Hp) (H : Heap) : Prop := va_P G.1 cls (wl G n h) H ∧ H.size = bs G + 1 + n
abbrev tyl (G : GG) : List (ClassId × FieldType) := [(G.2.1, .int), (G.2.2.1, .char), (G.2.2.2.1, .object RX2)]
def isNest : Cond → Bool
  | .methodLinkNest _ _ _ _ => true
  | _ => false
def Ks (G : GG) (U : State) : Prop := va_K G.1 cls (tyl G) U ∧ ∀ w ∈ lw_tbl, isNest w = true → va_Nw w U
abbrev Ab (G : GG) : Nat → Prop := fun q => bs G < q
def XW (G : GG) (n : Nat) (h : Hp) (s : State) (cells : Nat) (H : Heap) (locs : List Loc) : Prop := va_P G.1 cls (wl G n h) H ∧ va_S (Ab G) s.heap H locs ∧ s.heap.size + cells = bs G + 1 + n ∧ bs G < s.heap.size
theorem Ks.warm {G : GG} {s U : State} (hW : s.WarmedH U.vm) (h : Ks G s) : Ks G U := by
  refine ⟨va_K.moved hW.alike h.1, fun w hw hn => ?_⟩
  have h2 := h.2 w hw hn
  cases w with
  | methodLinkNest a i x hh => exact va_Nw.warmM hW h2
  | _ => simp [isNest] at hn
theorem Ks.call {G : GG} {U : State} {g : JFrame} {mk : MethodId} {a : Array Value} (h : Ks G U) : Ks G (U.calling g mk a) := by
  refine ⟨va_K.moved (u := U) (U := U.calling g mk a) (Vm.Alike.refl U.vm) h.1, fun w hw hn => ?_⟩
  have h2 := h.2 w hw hn
  cases w with
  | methodLinkNest a i x hh => exact va_Nw.same rfl rfl h2
  | _ => simp [isNest] at hn
theorem wl_at (G : GG) (h : Hp) {n a : Nat} (h1 : 1 ≤ a) (h2 : a ≤ n) : (wl G n h)[a - 1]? = some (bs G + a, cE G h a) := by
  have e : a - 1 + 1 = a := by omega
  simp only [wl, List.getElem?_map, List.getElem?_range (show a - 1 < n by omega), Option.map_some, e]
theorem wl_set (G : GG) (h h' : Hp) {n a : Nat} (h1 : 1 ≤ a) (hh : ∀ b, b ≠ a → cE G h' b = cE G h b) : (wl G n h).set (a - 1) (bs G + a, cE G h' a) = wl G n h' := by
  apply List.ext_getElem?
  intro i
  rw [List.getElem?_set]
  simp only [wl, List.length_map, List.length_range, List.getElem?_map]
  by_cases hi : a - 1 = i
  · have e : a = i + 1 := by omega
    subst e
    by_cases hn : i < n
    · simp [hn, List.getElem?_range hn]
    · simp [hn]
  · rw [if_neg hi]
    by_cases hn : i < n
    · simp only [List.getElem?_range hn, Option.map_some, hh (i + 1) (by omega)]
    · rw [List.getElem?_eq_none (by simp; omega)]; rfl
theorem wl_push (G : GG) (h h' : Hp) {n : Nat} (hh : ∀ b, b ≤ n → cE G h' b = cE G h b) : wl G n h ++ [(bs G + (n + 1), cE G h' (n + 1))] = wl G (n + 1) h' := by
  simp only [wl, List.range_succ, List.map_append, List.map_cons, List.map_nil]
  congr 1
  apply List.map_congr_left
  intro i hi
  rw [hh (i + 1) (by have := List.mem_range.mp hi; omega)]
theorem wl_D (G : GG) (n : Nat) (h : Hp) : va_D (Ab G) (wl G n h) := by
  have key : ∀ (i : Nat) (q : Nat × va_E), (wl G n h)[i]? = some q → q.1 = bs G + (i + 1) := by
    intro i q hq
    simp only [wl, List.getElem?_map, Option.map_eq_some_iff] at hq
    obtain ⟨j, hj, e⟩ := hq
    obtain ⟨h1, h2⟩ := List.getElem?_eq_some_iff.mp hj
    simp at h2
    rw [← e, h2]
  refine ⟨fun i j x y hi hj e => ?_, fun k q hk => ?_⟩
  · have a1 := key i x hi
    have a2 := key j y hj
    omega
  · have a1 := key k q hk
    show bs G < q.1
    omega
theorem cE_o (G : GG) (h : Hp) {a ci : Nat} (hk : kd a = ci) (hc : ci < 13) : cE G h a = .inr (ci, (List.range (nf ci)).map (fv (bs G) h a ci)) := by
  subst hk
  simp only [cE, if_pos hc]
theorem cE_i (G : GG) (h : Hp) {a : Nat} (hk : kd a = 13 ∨ kd a = 16) : cE G h a = .inl (G.2.1, ln a, .inl (h.1 a)) := by
  unfold cE
  rcases hk with h1 | h1 <;> simp [h1]
theorem cE_c (G : GG) (h : Hp) {a : Nat} (hk : kd a = 14) : cE G h a = .inl (G.2.2.1, ln a, .inl (h.1 a)) := by
  unfold cE
  simp [hk]
theorem cE_d (G : GG) (h : Hp) {a : Nat} (hk : kd a = 15) : cE G h a = .inl (G.2.2.2.1, ln a, .inr (.inr (.inr (.inr (fun j => ro (bs G) (h.2 a j)))))) := by
  unfold cE
  simp [hk]
theorem cE_eq (G : GG) {h h' : Hp} {b : Nat} (h1 : h'.1 b = h.1 b) (h2 : h'.2 b = h.2 b) : cE G h' b = cE G h b := by
  simp only [cE, h1, h2]
  have e : fv (bs G) h' b (kd b) = fv (bs G) h b (kd b) := by
    funext k
    simp only [fv, h1, h2]
  rw [e]
theorem cE_si (G : GG) (h : Hp) (a k : Nat) (v : Int32) (b : Nat) (hb : b ≠ a) : cE G (si h a k v) b = cE G h b := cE_eq G (if_neg hb) rfl
theorem cE_sr (G : GG) (h : Hp) (a k q : Nat) (b : Nat) (hb : b ≠ a) : cE G (sr h a k q) b = cE G h b := cE_eq G rfl (if_neg hb)
theorem cE_sc (G : GG) (h : Hp) (a : Nat) (f : Nat → Int32) (b : Nat) (hb : b ≠ a) : cE G (sc h a f) b = cE G h b := cE_eq G (if_neg hb) rfl
theorem cE_sz (G : GG) (h : Hp) (a : Nat) (b : Nat) (hb : b ≠ a) : cE G (sz h a) b = cE G h b := cE_eq G (if_neg hb) (if_neg hb)
theorem si_1 (h : Hp) (a k : Nat) (v : Int32) : (si h a k v).1 a = upd (h.1 a) k v := if_pos rfl
theorem sr_2 (h : Hp) (a k q : Nat) : (sr h a k q).2 a = fun j => if j = k then q else h.2 a j := if_pos rfl
theorem sc_1 (h : Hp) (a : Nat) (f : Nat → Int32) : (sc h a f).1 a = f := if_pos rfl
theorem rm_set {α : Type} (f : Nat → α) (N k : Nat) (v : α) : ((List.range N).map f).set k v = (List.range N).map (fun j => if j = k then v else f j) := by
  apply List.ext_getElem?
  intro i
  rw [List.getElem?_set]
  simp only [List.length_map, List.length_range, List.getElem?_map]
  by_cases hk : k = i
  · subst hk
    by_cases hn : k < N
    · simp [hn]
    · rw [if_pos rfl, if_neg hn, List.getElem?_eq_none (by simp; omega)]; rfl
  · rw [if_neg hk]
    by_cases hn : i < N
    · simp [List.getElem?_range hn, Ne.symm hk]
    · rw [List.getElem?_eq_none (by simp; omega)]; rfl
theorem fv_int (b : Nat) (h : Hp) (a : Nat) {ci k : Nat} (hf : fr ci k = false) : fv b h a ci k = .int (h.1 a k) := by simp [fv, hf]
theorem fv_ref (b : Nat) (h : Hp) (a : Nat) {ci k : Nat} (hf : fr ci k = true) (hq : h.2 a k ≠ 0) : fv b h a ci k = .ref (b + h.2 a k) := by simp [fv, hf, ro, hq, va_rf]
theorem fv_si (b : Nat) (h : Hp) (a : Nat) {ci k : Nat} (v : Int32) (hf : fr ci k = false) : fv b (si h a k v) a ci = fun j => if j = k then Value.int v else fv b h a ci j := by
  funext j
  by_cases hj : j = k
  · subst hj; simp [fv, hf, si, upd]
  · simp [fv, si, upd, hj]
theorem fv_sr (b : Nat) (h : Hp) (a : Nat) {ci k q : Nat} (hq : q ≠ 0) (hf : fr ci k = true) : fv b (sr h a k q) a ci = fun j => if j = k then Value.ref (b + q) else fv b h a ci j := by
  funext j
  by_cases hj : j = k
  · subst hj; simp [fv, hf, sr, ro, hq, va_rf]
  · simp [fv, sr, hj]
/-- which kinds stand below which bound -/
def kmx (K : Nat) : Nat := if K = 12 ∨ K = 16 then NT else NX
theorem kd_all : ∀ a, a < 102 → (kd a = 99 ∨ (1 ≤ a ∧ a ≤ kmx (kd a))) := by decide +kernel
theorem kd_le {a K : Nat} (h : kd a = K) (hK : K ≠ 99) : 1 ≤ a ∧ a ≤ kmx K := by
  by_cases ha : a < 102
  · rcases kd_all a ha with h1 | h1
    · exact absurd (h.symm.trans h1) hK
    · rw [← h]; exact h1
  · have : kd a = 99 := by
      unfold kd
      rw [List.getD_eq_getElem?_getD, List.getElem?_eq_none (by show 102 ≤ a; omega)]
      rfl
    exact absurd (h.symm.trans this) hK
theorem kd_in {a K n : Nat} (h : kd a = K) (hn : kmx K ≤ n) (hK : K ≠ 99) : 1 ≤ a ∧ a ≤ n := ⟨(kd_le h hK).1, Nat.le_trans (kd_le h hK).2 hn⟩
theorem kd_n0 {a K : Nat} (h : kd a = K) (hK : K ≠ 99) : a ≠ 0 := fun e => by have := (kd_le h hK).1; omega
/-- a field of a class at a place of the constant pool -/
def FL (own : String) (idx ci k : Nat) : Prop := ∃ (C : String) (T : u_T) (N : Nat), cls[ci]? = some (C, T, N) ∧ k < N ∧ Cond.fieldLink own idx (T k).1 (T k).2.1 (T k).2.2.1 ∈ TT
def FO (ci k : Nat) (own : String) : Prop := ∃ (C : String) (T : u_T) (N : Nat), cls[ci]? = some (C, T, N) ∧ (T k).1 = own
def FT (ci k : Nat) (ty : FieldType) (fin : Bool) : Prop := ∃ (C : String) (T : u_T) (N : Nat), cls[ci]? = some (C, T, N) ∧ parseFieldDescriptor (T k).2.2.1 = some ty ∧ (T k).2.2.2 = fin
def gd {α : Type} (c : Prop) [Decidable c] (x : Option α) : Option α := if c then x else none
theorem gd_e {α : Type} {c : Prop} [Decidable c] {x : Option α} {r : α} (h : gd c x = some r) : c ∧ x = some r := by
  unfold gd at h
  by_cases hc : c
  · exact ⟨hc, by rw [if_pos hc] at h; exact h⟩
  · rw [if_neg hc] at h; cases h
theorem gd_t {α : Type} {c : Prop} [Decidable c] {x : Option α} (h : c) : gd c x = x := if_pos h
def bd {ρ α : Type} (x : Option (ρ × Hp)) (k : ρ → Hp → Option α) : Option α := match x with
  | some (r, h) => k r h
  | none => none
theorem bd_e {ρ α : Type} {x : Option (ρ × Hp)} {k : ρ → Hp → Option α} {r : α} (h : bd x k = some r) : ∃ v h', x = some (v, h') ∧ k v h' = some r := by
  cases x with
  | none => cases h
  | some q => exact ⟨q.1, q.2, rfl, h⟩
theorem bd_s {ρ α : Type} (v : ρ) (h : Hp) (k : ρ → Hp → Option α) : bd (some (v, h)) k = k v h := rfl
theorem ite_t {α : Type} {c : Prop} [Decidable c] {A B : Option α} {r : α} (h : (if c then A else B) = some r) (hc : c) : A = some r := by rw [if_pos hc] at h; exact h
theorem ite_f {α : Type} {c : Prop} [Decidable c] {A B : Option α} {r : α} (h : (if c then A else B) = some r) (hc : ¬ c) : B = some r := by rw [if_neg hc] at h; exact h
/-- an int that is in a row's range, as the guards have it -/
def inr (i : Int32) (n : Nat) : Bool := decide (0 ≤ i.toInt) && decide (i.toInt < n)
theorem inr_in {i : Int32} {n : Nat} (h : inr i n = true) : vp_in i n := by
  simp only [inr, Bool.and_eq_true, decide_eq_true_eq] at h
  exact vp_in_iff.mpr h
def FU : Nat := 100000
def rmC (d mc ms : Nat) : Room := { frames := d, cells := mc, slots := ms, locals := 60 * d }
def QP (G : GG) (n' : Nat) (h' : Hp) (r : Option Value) : Array Value → State → Outcome → State → Prop := fun _ st o t => o = .returned r ∧ va_P G.1 cls (wl G n' h') t.heap ∧ va_F (Ab G) st t
/-- a contract: from the picture h the method returns r, and leaves the picture h' -/
def CT (l : Launch) (G : GG) (n n' : Nat) (y : MethodName) (cd : Cond) (d mc ms : Nat) (av : List Value) (h h' : Hp) (r : Option Value) : Prop :=
  Met l y (cd :: TT) (rmC d mc ms) (va_Pc av (fun U => Wd G n h U.heap ∧ Ks G U)) (QP G n' h' r) mc ms (Ab G)
def Cx (p : Program) (s : State) (m : MethodId) (args : Array Value) (meth : Method) (c : Code) (G : GG) (bytes : ByteArray) (own : String) (nL : Nat) (ret : Option FieldType) (nm : String) : Prop :=
  p.tables.exec = Jvm.exec ∧ c.code = bytes ∧ meth.sig.returnType = ret ∧ c.maxLocals = nL ∧ s.vm.findClass own = some m.cls ∧ (∀ w ∈ TT, w.before args s = true) ∧ Ks G s ∧ meth.locks = false ∧ meth.name = nm
theorem ct_of {l : Launch} {G : GG} {n n' : Nat} {y : MethodName} {bytes : ByteArray} {maxL : Nat} {ret : Option FieldType} {d mc ms : Nat} {av : List Value} {h h' : Hp} {r : Option Value} (hy : plainName y.cls = true) (hav : (lg_sl av).length ≤ maxL)
    (body : ∀ (p : Program) (e : Env) (s : State) (m : MethodId) (below : List Frame) (meth : Method) (c : Code), Cx p s m av.toArray meth c G bytes y.cls maxL ret y.name → XW G n h s 0 s.heap [] → ∀ ls : Array Slot, lv_has ls maxL (lv_args 0 av) →
      W p l e (rmC d mc ms) s m av.toArray below meth c s.heap [] 0 0 (MQ below (QP G n' h' r) av.toArray s mc ms (Ab G)) (F0 m 0 ls [])) :
    CT l G n n' y (.code y bytes maxL ret) d mc ms av h h' r := by
  refine Met.ofW (cc := bytes) (maxL := maxL) (ret := ret) hy rfl ?_
  intro p e s m args below meth c s₁ B hml hv
  obtain ⟨rfl, hW, hK⟩ := hv
  have hts := atoms_spec (ws := Cond.code y bytes maxL ret :: TT) B.pre
  have hl := lv_entry av (n := maxL) hav
  rw [lg_entry_eq]
  exact body p e s m below meth c ⟨B.exec, B.bytes, B.returns, hml, findClass_of_methodNamed B.named, fun w hw => hts w (List.mem_cons_of_mem _ hw), hK, B.notSynchronized, (name_of_methodNamed B.named B.method).1⟩
    ⟨hW.1, va_S.rf, hW.2, by rw [hW.2]; omega⟩ _ hl
section ROWS
variable {p : Program} {l : Launch} {e : Env} {R : Room} {s : State} {m : MethodId} {args : Array Value} {below : List Frame} {meth : Method} {c : Code} {H : Heap} {locs : List Loc} {cells slots : Nat} {Q : State → Prop}
variable {cc : ByteArray} {pc : Nat} {ls : Array Slot} {rest : List Value} {G : GG} {n : Nat} {h : Hp}
theorem w_size {g : JFrame} (k : H.size ≤ s.heap.size + cells → W p l e R s m args below meth c H locs cells slots Q g) : W p l e R s m args below meth c H locs cells slots Q g := by
  intro T hT X
  refine k ?_ T hT X
  have := X.same.2.2.1
  rw [← hT]
  exact this
theorem XW.sz (X : XW G n h s cells H locs) (hu : H.size ≤ s.heap.size + cells) : H.size = bs G + 1 + n := by
  obtain ⟨h1, h2, h3, h4⟩ := X
  by_cases hn : n = 0
  · have := h2.1
    omega
  · have h5 := (h1 (n - 1) _ (wl_at G h (a := n) (by omega) (by omega))).lt
    dsimp only at h5
    omega
theorem g_get (hx : p.tables.exec = Jvm.exec) (hb : c.code = cc) {own : String} {idx ci k a : Nat} (hts : ∀ w ∈ TT, w.before args s = true) (hown : s.vm.findClass own = some m.cls) (hK : Ks G s) (X : XW G n h s cells H locs) (hk : kd a = ci) (ha : 1 ≤ a ∧ a ≤ n) (hl : FL own idx ci k) (hc : ci < 13)
    (hdg : decode cc pc = .ok (.getfield idx, 3)) (kk : W p l e R s m args below meth c H locs cells slots Q (F0 m (pc + 3) ls (fv (bs G) h a ci k :: rest))) : W p l e R s m args below meth c H locs cells slots Q (F0 m pc ls (.ref (bs G + a) :: rest)) := by
  obtain ⟨C, T, N, h1, h2, h3⟩ := hl
  have he := wl_at G h ha.1 ha.2
  rw [cE_o G h hk hc] at he
  have hok := cls_ok ci C T N h1
  refine va_get hx hb hts hok.1 hown hK.1 X.1 (a - 1) he h1 k h2 (hts _ h3) (fun _ z => z) ?_ hdg kk
  rw [List.getElem?_map, List.getElem?_range (by rw [show nf ci = N from hok.2.1]; exact h2)]
  rfl
theorem g_I (hx : p.tables.exec = Jvm.exec) (hb : c.code = cc) {own : String} {idx ci k a : Nat} (hts : ∀ w ∈ TT, w.before args s = true) (hown : s.vm.findClass own = some m.cls) (hK : Ks G s) (X : XW G n h s cells H locs) (hk : kd a = ci) (hn : kmx ci ≤ n) (hl : FL own idx ci k) (hc : ci < 13) (hfr : fr ci k = false)
    (hdg : decode cc pc = .ok (.getfield idx, 3)) (kk : W p l e R s m args below meth c H locs cells slots Q (F0 m (pc + 3) ls (.int (h.1 a k) :: rest))) : W p l e R s m args below meth c H locs cells slots Q (F0 m pc ls (.ref (bs G + a) :: rest)) :=
  g_get hx hb hts hown hK X hk (kd_in hk hn (by omega)) hl hc hdg (by rw [fv_int _ _ _ hfr]; exact kk)
theorem g_R (hx : p.tables.exec = Jvm.exec) (hb : c.code = cc) {own : String} {idx ci k a K : Nat} (hts : ∀ w ∈ TT, w.before args s = true) (hown : s.vm.findClass own = some m.cls) (hK : Ks G s) (X : XW G n h s cells H locs) (hk : kd a = ci) (hn : kmx ci ≤ n) (hq : kd (h.2 a k) = K) (hl : FL own idx ci k) (hc : ci < 13) (hfr : fr ci k = true) (hK9 : K ≠ 99)
    (hdg : decode cc pc = .ok (.getfield idx, 3)) (kk : W p l e R s m args below meth c H locs cells slots Q (F0 m (pc + 3) ls (.ref (bs G + h.2 a k) :: rest))) : W p l e R s m args below meth c H locs cells slots Q (F0 m pc ls (.ref (bs G + a) :: rest)) :=
  g_get hx hb hts hown hK X hk (kd_in hk hn (by omega)) hl hc hdg (by rw [fv_ref _ _ _ hfr (kd_n0 hq hK9)]; exact kk)
theorem g_put (hx : p.tables.exec = Jvm.exec) (hb : c.code = cc) {own : String} {idx ci k a : Nat} {ty : FieldType} {v : Value} {h1 : Hp} (hts : ∀ w ∈ TT, w.before args s = true) (hown : s.vm.findClass own = some m.cls) (hK : Ks G s) (X : XW G n h s cells H locs) (hk : kd a = ci) (ha : 1 ≤ a ∧ a ≤ n) (hl : FL own idx ci k) (hty : FT ci k ty false) (hc : ci < 13)
    (hnr : narrow ty v = v) (hfit : fits ty v = true) (hh : ∀ b, b ≠ a → cE G h1 b = cE G h b) (hv : fv (bs G) h1 a ci = fun j => if j = k then v else fv (bs G) h a ci j)
    (hdg : decode cc pc = .ok (.putfield idx, 3)) (kk : ∀ (H1 : Heap) (locs1 : List Loc), XW G n h1 s cells H1 locs1 → W p l e R s m args below meth c H1 locs1 cells slots Q (F0 m (pc + 3) ls rest)) : W p l e R s m args below meth c H locs cells slots Q (F0 m pc ls (v :: .ref (bs G + a) :: rest)) := by
  obtain ⟨C, T, N, e1, e2, e3⟩ := hl
  obtain ⟨C', T', N', e1', e4, e5⟩ := hty
  cases e1.symm.trans e1'
  have he := wl_at G h ha.1 ha.2
  rw [cE_o G h hk hc] at he
  have hok := cls_ok ci C T N e1
  obtain ⟨ty0, hty0⟩ := hok.2.2.2
  refine va_put hx hb hts hok.1 ty0 hty0 hok.2.2.1 hown hK.1 X.1 (wl_D G n h) X.2.1 (a - 1) he e1 k e2 (hts _ e3) (fun _ z => z) e5 e4 hnr hfit (by simp; rw [show nf ci = N from hok.2.1]; exact e2) hdg (fun H1 locs1 hP hD hS => ?_)
  have es : (wl G n h).set (a - 1) (bs G + a, Sum.inr (ci, ((List.range (nf ci)).map (fv (bs G) h a ci)).set k v)) = wl G n h1 := by
    rw [rm_set, ← hv, ← cE_o G h1 hk hc]
    exact wl_set G h h1 ha.1 hh
  rw [es] at hP
  exact kk H1 locs1 ⟨hP, hS, X.2.2.1, X.2.2.2⟩
theorem g_putF (hx : p.tables.exec = Jvm.exec) (hb : c.code = cc) {own : String} {idx ci k a : Nat} {ty : FieldType} {v : Value} {h1 : Hp} (hts : ∀ w ∈ TT, w.before args s = true) (hown : s.vm.findClass own = some m.cls) (hK : Ks G s) (X : XW G n h s cells H locs) (hk : kd a = ci) (ha : 1 ≤ a ∧ a ≤ n) (hl : FL own idx ci k) (hty : FT ci k ty true) (hc : ci < 13) (hin : meth.name = "<init>") (hdecl : FO ci k own)
    (hnr : narrow ty v = v) (hfit : fits ty v = true) (hh : ∀ b, b ≠ a → cE G h1 b = cE G h b) (hv : fv (bs G) h1 a ci = fun j => if j = k then v else fv (bs G) h a ci j)
    (hdg : decode cc pc = .ok (.putfield idx, 3)) (kk : ∀ (H1 : Heap) (locs1 : List Loc), XW G n h1 s cells H1 locs1 → W p l e R s m args below meth c H1 locs1 cells slots Q (F0 m (pc + 3) ls rest)) : W p l e R s m args below meth c H locs cells slots Q (F0 m pc ls (v :: .ref (bs G + a) :: rest)) := by
  obtain ⟨C, T, N, e1, e2, e3⟩ := hl
  obtain ⟨C', T', N', e1', e4, e5⟩ := hty
  cases e1.symm.trans e1'
  obtain ⟨C', T', N', e1', e6⟩ := hdecl
  cases e1.symm.trans e1'
  have he := wl_at G h ha.1 ha.2
  rw [cE_o G h hk hc] at he
  have hok := cls_ok ci C T N e1
  obtain ⟨ty0, hty0⟩ := hok.2.2.2
  refine va_putF hx hb hts hok.1 ty0 hty0 hok.2.2.1 hown hK.1 X.1 (wl_D G n h) X.2.1 (a - 1) he e1 k e2 (hts _ e3) (fun _ z => z) e5 hin e6 e4 hnr hfit (by simp; rw [show nf ci = N from hok.2.1]; exact e2) hdg (fun H1 locs1 hP hD hS => ?_)
  have es : (wl G n h).set (a - 1) (bs G + a, Sum.inr (ci, ((List.range (nf ci)).map (fv (bs G) h a ci)).set k v)) = wl G n h1 := by
    rw [rm_set, ← hv, ← cE_o G h1 hk hc]
    exact wl_set G h h1 ha.1 hh
  rw [es] at hP
  exact kk H1 locs1 ⟨hP, hS, X.2.2.1, X.2.2.2⟩
theorem g_PI (hx : p.tables.exec = Jvm.exec) (hb : c.code = cc) {own : String} {idx ci k a : Nat} {v : Int32} (hts : ∀ w ∈ TT, w.before args s = true) (hown : s.vm.findClass own = some m.cls) (hK : Ks G s) (X : XW G n h s cells H locs) (hk : kd a = ci) (hn : kmx ci ≤ n) (hl : FL own idx ci k) (hty : FT ci k .int false) (hc : ci < 13) (hfr : fr ci k = false)
    (hdg : decode cc pc = .ok (.putfield idx, 3)) (kk : ∀ (H1 : Heap) (locs1 : List Loc), XW G n (si h a k v) s cells H1 locs1 → W p l e R s m args below meth c H1 locs1 cells slots Q (F0 m (pc + 3) ls rest)) : W p l e R s m args below meth c H locs cells slots Q (F0 m pc ls (.int v :: .ref (bs G + a) :: rest)) :=
  g_put hx hb hts hown hK X hk (kd_in hk hn (by omega)) hl hty hc rfl rfl (cE_si G h a k v) (fv_si _ _ _ _ hfr) hdg kk
theorem z_ok {v : Int32} (hz : v = 0 ∨ v = 1) : narrow .boolean (.int v) = .int v ∧ fits .boolean (.int v) = true := by
  rcases hz with h | h <;> subst h <;> decide
theorem g_PZ (hx : p.tables.exec = Jvm.exec) (hb : c.code = cc) {own : String} {idx ci k a : Nat} {v : Int32} (hts : ∀ w ∈ TT, w.before args s = true) (hown : s.vm.findClass own = some m.cls) (hK : Ks G s) (X : XW G n h s cells H locs) (hz : v = 0 ∨ v = 1) (hk : kd a = ci) (hn : kmx ci ≤ n) (hl : FL own idx ci k) (hty : FT ci k .boolean false) (hc : ci < 13) (hfr : fr ci k = false)
    (hdg : decode cc pc = .ok (.putfield idx, 3)) (kk : ∀ (H1 : Heap) (locs1 : List Loc), XW G n (si h a k v) s cells H1 locs1 → W p l e R s m args below meth c H1 locs1 cells slots Q (F0 m (pc + 3) ls rest)) : W p l e R s m args below meth c H locs cells slots Q (F0 m pc ls (.int v :: .ref (bs G + a) :: rest)) :=
  g_put hx hb hts hown hK X hk (kd_in hk hn (by omega)) hl hty hc (z_ok hz).1 (z_ok hz).2 (cE_si G h a k v) (fv_si _ _ _ _ hfr) hdg kk
theorem g_PR (hx : p.tables.exec = Jvm.exec) (hb : c.code = cc) {own : String} {idx ci k a q K : Nat} {ty : FieldType} (hts : ∀ w ∈ TT, w.before args s = true) (hown : s.vm.findClass own = some m.cls) (hK : Ks G s) (X : XW G n h s cells H locs) (hk : kd a = ci) (hn : kmx ci ≤ n) (hq : kd q = K) (hl : FL own idx ci k) (hty : FT ci k ty false) (hc : ci < 13) (hfr : fr ci k = true) (hK9 : K ≠ 99) (hnr : ∀ z : Nat, narrow ty (.ref z) = .ref z) (hfit : ∀ z : Nat, fits ty (.ref z) = true)
    (hdg : decode cc pc = .ok (.putfield idx, 3)) (kk : ∀ (H1 : Heap) (locs1 : List Loc), XW G n (sr h a k q) s cells H1 locs1 → W p l e R s m args below meth c H1 locs1 cells slots Q (F0 m (pc + 3) ls rest)) : W p l e R s m args below meth c H locs cells slots Q (F0 m pc ls (.ref (bs G + q) :: .ref (bs G + a) :: rest)) :=
  g_put hx hb hts hown hK X hk (kd_in hk hn (by omega)) hl hty hc (hnr _) (hfit _) (cE_sr G h a k q) (fv_sr _ _ _ (kd_n0 hq hK9) hfr) hdg kk
/-- rows of ints -/
theorem g_ia (hx : p.tables.exec = Jvm.exec) (hb : c.code = cc) {a K : Nat} {i : Int32} (hK : Ks G s) (X : XW G n h s cells H locs) (hk : kd a = K) (hn : kmx K ≤ n) (hin : inr i (ln a) = true) (hK1 : K = 13 ∨ K = 16)
    (hdg : decode cc pc = .ok (.iaload, 1)) (kk : W p l e R s m args below meth c H locs cells slots Q (F0 m (pc + 1) ls (.int (h.1 a i.toNatClampNeg) :: rest))) : W p l e R s m args below meth c H locs cells slots Q (F0 m pc ls (.int i :: .ref (bs G + a) :: rest)) := by
  have ha := kd_in hk hn (by omega)
  have he := wl_at G h ha.1 ha.2
  rw [cE_i G h (by rw [hk]; exact hK1)] at he
  exact va_iald hx hb hK.1 X.1 (a - 1) 0 he rfl (inr_in hin) hdg kk
theorem g_is (hx : p.tables.exec = Jvm.exec) (hb : c.code = cc) {a K : Nat} {i v : Int32} (hK : Ks G s) (X : XW G n h s cells H locs) (hk : kd a = K) (hn : kmx K ≤ n) (hin : inr i (ln a) = true) (hK1 : K = 13 ∨ K = 16)
    (hdg : decode cc pc = .ok (.iastore, 1)) (kk : ∀ (H1 : Heap) (locs1 : List Loc), XW G n (si h a i.toNatClampNeg v) s cells H1 locs1 → W p l e R s m args below meth c H1 locs1 cells slots Q (F0 m (pc + 1) ls rest)) : W p l e R s m args below meth c H locs cells slots Q (F0 m pc ls (.int v :: .int i :: .ref (bs G + a) :: rest)) := by
  have ha := kd_in hk hn (by omega)
  have he := wl_at G h ha.1 ha.2
  have hk2 : kd a = 13 ∨ kd a = 16 := by rw [hk]; exact hK1
  rw [cE_i G h hk2] at he
  refine va_iast hx hb hK.1 X.1 (wl_D G n h) X.2.1 (a - 1) 0 he rfl (inr_in hin) hdg (fun H1 locs1 hP hD hS => ?_)
  rw [← si_1, ← cE_i G _ hk2, wl_set G h _ ha.1 (cE_si G h a _ v)] at hP
  exact kk H1 locs1 ⟨hP, hS, X.2.2.1, X.2.2.2⟩
theorem g_ca (hx : p.tables.exec = Jvm.exec) (hb : c.code = cc) {a : Nat} {i : Int32} (hK : Ks G s) (X : XW G n h s cells H locs) (hk : kd a = 14) (hn : kmx 14 ≤ n) (hin : inr i (ln a) = true)
    (hdg : decode cc pc = .ok (.caload, 1)) (kk : W p l e R s m args below meth c H locs cells slots Q (F0 m (pc + 1) ls (.int (h.1 a i.toNatClampNeg) :: rest))) : W p l e R s m args below meth c H locs cells slots Q (F0 m pc ls (.int i :: .ref (bs G + a) :: rest)) := by
  have ha := kd_in hk hn (by omega)
  have he := wl_at G h ha.1 ha.2
  rw [cE_c G h hk] at he
  exact va_cald hx hb hK.1 X.1 (a - 1) 1 he rfl (inr_in hin) hdg kk
theorem g_cs (hx : p.tables.exec = Jvm.exec) (hb : c.code = cc) {a : Nat} {i v : Int32} (hK : Ks G s) (X : XW G n h s cells H locs) (hk : kd a = 14) (hn : kmx 14 ≤ n) (hin : inr i (ln a) = true)
    (hdg : decode cc pc = .ok (.castore, 1)) (kk : ∀ (H1 : Heap) (locs1 : List Loc), XW G n (si h a i.toNatClampNeg (vp_nar .char v)) s cells H1 locs1 → W p l e R s m args below meth c H1 locs1 cells slots Q (F0 m (pc + 1) ls rest)) : W p l e R s m args below meth c H locs cells slots Q (F0 m pc ls (.int v :: .int i :: .ref (bs G + a) :: rest)) := by
  have ha := kd_in hk hn (by omega)
  have he := wl_at G h ha.1 ha.2
  rw [cE_c G h hk] at he
  refine va_cast hx hb hK.1 X.1 (wl_D G n h) X.2.1 (a - 1) 1 he rfl (inr_in hin) hdg (fun H1 locs1 hP hD hS => ?_)
  rw [← si_1, ← cE_c G _ hk, wl_set G h _ ha.1 (cE_si G h a _ _)] at hP
  exact kk H1 locs1 ⟨hP, hS, X.2.2.1, X.2.2.2⟩
theorem g_al (hx : p.tables.exec = Jvm.exec) (hb : c.code = cc) {a K : Nat} (hK : Ks G s) (X : XW G n h s cells H locs) (hk : kd a = K) (hn : kmx K ≤ n) (hK1 : K = 13 ∨ K = 14 ∨ K = 15 ∨ K = 16)
    (hdg : decode cc pc = .ok (.arraylength, 1)) (kk : W p l e R s m args below meth c H locs cells slots Q (F0 m (pc + 1) ls (.int (nI (ln a)) :: rest))) : W p l e R s m args below meth c H locs cells slots Q (F0 m pc ls (.ref (bs G + a) :: rest)) := by
  have ha := kd_in hk hn (by omega)
  have he := wl_at G h ha.1 ha.2
  by_cases h1 : K = 14
  · rw [cE_c G h (by rw [hk]; exact h1)] at he
    exact va_alen (ty := .char) hx hb hK.1 X.1 (a - 1) 1 he rfl rfl hdg kk
  · by_cases h2 : K = 15
    · rw [cE_d G h (by rw [hk]; exact h2)] at he
      exact va_alen (ty := .object RX2) hx hb hK.1 X.1 (a - 1) 2 he rfl rfl hdg kk
    · rw [cE_i G h (by rw [hk]; omega)] at he
      exact va_alen (ty := .int) hx hb hK.1 X.1 (a - 1) 0 he rfl rfl hdg kk
/-- rows of days -/
theorem g_da (hx : p.tables.exec = Jvm.exec) (hb : c.code = cc) {a : Nat} {i : Int32} (hK : Ks G s) (X : XW G n h s cells H locs) (hk : kd a = 15) (hn : kmx 15 ≤ n) (hin : inr i (ln a) = true) (hq : kd (h.2 a i.toNatClampNeg) = 2)
    (hdg : decode cc pc = .ok (.aaload, 1)) (kk : W p l e R s m args below meth c H locs cells slots Q (F0 m (pc + 1) ls (.ref (bs G + h.2 a i.toNatClampNeg) :: rest))) : W p l e R s m args below meth c H locs cells slots Q (F0 m pc ls (.int i :: .ref (bs G + a) :: rest)) := by
  have ha := kd_in hk hn (by omega)
  have he := wl_at G h ha.1 ha.2
  rw [cE_d G h hk] at he
  refine va_aldq (C := RX2) hx hb hK.1 X.1 (a - 1) 2 he rfl (inr_in hin) hdg ?_
  rw [show va_rf (ro (bs G) (h.2 a i.toNatClampNeg)) = .ref (bs G + h.2 a i.toNatClampNeg) by simp [ro, kd_n0 hq (by decide), va_rf]]
  exact kk
theorem g_ds (hx : p.tables.exec = Jvm.exec) (hb : c.code = cc) {a q : Nat} {i : Int32} (hK : Ks G s) (X : XW G n h s cells H locs) (hk : kd a = 15) (ha : 1 ≤ a ∧ a ≤ n) (hin : inr i (ln a) = true) (hq : kd q = 2) (hqn : 1 ≤ q ∧ q ≤ n)
    (hdg : decode cc pc = .ok (.aastore, 1)) (kk : ∀ (H1 : Heap) (locs1 : List Loc), XW G n (sr h a i.toNatClampNeg q) s cells H1 locs1 → W p l e R s m args below meth c H1 locs1 cells slots Q (F0 m (pc + 1) ls rest)) : W p l e R s m args below meth c H locs cells slots Q (F0 m pc ls (.ref (bs G + q) :: .int i :: .ref (bs G + a) :: rest)) := by
  have he := wl_at G h ha.1 ha.2
  rw [cE_d G h hk] at he
  have hv := wl_at G h hqn.1 hqn.2
  rw [cE_o G h hq (by decide)] at hv
  refine va_astq hx hb hK.1 X.1 (wl_D G n h) X.2.1 (a - 1) 2 (q - 1) 2 he rfl hv (r := (RX2, TX2, 5)) rfl (inr_in hin) hdg (fun H1 locs1 hP hD hS => ?_)
  have e1 : (va_up (fun j => ro (bs G) (h.2 a j)) i.toNatClampNeg (some (bs G + q))) = fun j => ro (bs G) ((sr h a i.toNatClampNeg q).2 a j) := by
    funext j
    rw [sr_2]
    by_cases hj : j = i.toNatClampNeg
    · subst hj; simp [va_up, ro, kd_n0 hq (by decide)]
    · simp [va_up, hj]
  rw [e1, ← cE_d G _ hk, wl_set G h _ ha.1 (cE_sr G h a _ q)] at hP
  exact kk H1 locs1 ⟨hP, hS, X.2.2.1, X.2.2.2⟩
end ROWS
end
section
/-! calls and returns over the flat picture -/
def LC (y : MethodName) (bytes : ByteArray) (maxL : Nat) (ret : Option FieldType) (np : Nat) : Prop := Cond.code y bytes maxL ret ∈ TT ∧ Cond.initialized y.cls ∈ TT ∧ (y.cls ≠ "java/lang/invoke/MethodHandle" ∧ y.cls ≠ "java/lang/invoke/VarHandle" ∧ (parseMethodDescriptor y.desc).map (fun d => d.parameters.length) = some np) ∧ maxL ≤ 41
/-- by a plain link, or by a nest mate's -/
def LV (own : String) (idx : Nat) (y : MethodName) : Prop := Cond.methodLink own idx y ∈ TT ∧ Cond.instanceMethod y ∈ TT ∧ Cond.selects y.cls y y ∈ TT
def LSt (own : String) (idx : Nat) (y : MethodName) : Prop := Cond.methodLink own idx y ∈ TT ∧ Cond.static y ∈ TT
def LSN (own : String) (idx : Nat) (y : MethodName) : Prop := Cond.methodLinkNest own idx y RX11 ∈ lw_tbl ∧ Cond.static y ∈ TT
def LI (own : String) (idx : Nat) (y : MethodName) : Prop := Cond.methodLink own idx y ∈ TT ∧ Cond.instanceMethod y ∈ TT ∧ y.name = "<init>"
def LIN (own : String) (idx : Nat) (y : MethodName) : Prop := Cond.methodLinkNest own idx y RX11 ∈ lw_tbl ∧ Cond.instanceMethod y ∈ TT ∧ y.name = "<init>"
section CALLS
variable {p : Program} {l : Launch} {e : Env} {R : Room} {s : State} {m : MethodId} {args : Array Value} {below : List Frame} {meth : Method} {c : Code} {H : Heap} {locs : List Loc} {cells slots : Nat} {Q : State → Prop}
variable {cc : ByteArray} {pc : Nat} {ls : Array Slot} {rest : List Value} {G : GG} {n n' : Nat} {h h' : Hp} {r : Option Value} {mc ms d d' mcR msR nL : Nat} {own : String} {idx : Nat} {y : MethodName} {bytes : ByteArray} {maxL np : Nat} {ret : Option FieldType} {As : List Value}
theorem c_go {a : Array Value} {st0 : List Value} (X : XW G n h s cells H locs) (hn : n' = n + mc) (hr : va_Run p l e R s m args below meth c H locs cells slots mc ms (F0 m pc ls st0) rest (QP G n' h' r a) (Ab G))
    (kk : ∀ (H1 : Heap) (locs1 : List Loc), XW G n' h' s (cells + mc) H1 locs1 → W p l e R s m args below meth c H1 locs1 (cells + mc) (slots + ms) Q (F0 m (pc + 3) ls (r.toList ++ rest))) : W p l e R s m args below meth c H locs cells slots Q (F0 m pc ls st0) := by
  intro T hT XS
  obtain ⟨v, st₀, t, T', L, h0, X', hL, e1, e2, ⟨hv, hP, hz, hk⟩, st⟩ := hr T hT XS
  cases hv
  obtain ⟨x1, x2, x3, x4⟩ := X
  rw [h0] at hz hk
  obtain ⟨t2, a1, b1⟩ := kk T'.heap (locs ++ L) ⟨by rw [e1]; exact hP, ⟨Nat.le_trans x2.1 (by rw [e1]; exact hz), fun q h1 h2 => by rw [e1, hk q (Nat.lt_of_lt_of_le h1 x2.1) h2]; exact x2.2.1 q h1 h2, fun q hq => by
      rcases List.mem_append.mp hq with h | h
      · exact x2.2.2 q h
      · exact hL q h⟩, by omega, x4⟩ T' rfl X'
  exact ⟨t2, st t2 a1, b1⟩
theorem c_pre {av : List Value} (hK : Ks G s) (X : XW G n h s cells H locs) (hu : H.size ≤ s.heap.size + cells) : PreS s H (va_Pc av (fun U => Wd G n h U.heap ∧ Ks G U)) av :=
  ⟨fun _ _ _ _ q => ⟨q.1, q.2.1, q.2.2.call⟩, fun _ hU hW => ⟨rfl, ⟨by rw [hU]; exact X.1, by rw [hU]; exact X.sz hu⟩, hK.warm hW⟩⟩
theorem c_B (hts : ∀ w ∈ TT, w.before args s = true) (hc : LC y bytes maxL ret np) (hl : Cond.methodLink own idx y ∈ TT) (hd : d' < d) : CallB (rmC d mcR msR) s args own idx y bytes maxL ret (.code y bytes maxL ret :: TT) (rmC d' mc ms) mc ms np :=
  callB_of np hts (TT_in hc.1) rfl rfl rfl (hts _ hc.2.1) (hts _ hl) hc.2.2.1 ⟨hd, by show 8 + (maxL + 11) + 60 * d' ≤ 60 * d; have := hc.2.2.2; omega⟩
theorem c_BN (hts : ∀ w ∈ TT, w.before args s = true) (hK : Ks G s) (hc : LC y bytes maxL ret np) (hl : Cond.methodLinkNest own idx y RX11 ∈ lw_tbl) (hd : d' < d) : va_CN (rmC d mcR msR) s args own idx y RX11 bytes maxL ret (.code y bytes maxL ret :: TT) (rmC d' mc ms) mc ms np :=
  va_cnB np hts (TT_in hc.1) rfl rfl rfl (hK.2 _ hl rfl) (hts _ hc.2.1) hc.2.2.1 ⟨hd, by show 8 + (maxL + 11) + 60 * d' ≤ 60 * d; have := hc.2.2.2; omega⟩
theorem c_V {a ci : Nat} {C : String} {T : u_T} {N : Nat} (hx : p.tables.exec = Jvm.exec) (hb : c.code = cc) (hml : c.maxLocals = nL) (hown : s.vm.findClass own = some m.cls) (hts : ∀ w ∈ TT, w.before args s = true) (hK : Ks G s) (X : XW G n h s cells H locs)
    (hM : CT l G n n' y (.code y bytes maxL ret) d' mc ms (.ref (bs G + a) :: As) h h' r) (hn : n' = n + mc) (hk : kd a = ci) (ha : 1 ≤ a ∧ a ≤ n) (hc : LC y bytes maxL ret np) (hl : LV own idx y) (hcl : cls[ci]? = some (C, T, N)) (hC : y.cls = C) (hd : d' < d) (hAs : As.length = np) (hls : ls.size = nL) (hrs : (rest.map fun v => v.category).sum ≤ 8)
    (hdg : decode cc pc = .ok (.invokevirtual idx, 3)) (hf : cells + mc ≤ mcR ∧ slots + ms ≤ msR)
    (kk : ∀ (H1 : Heap) (locs1 : List Loc), XW G n' h' s (cells + mc) H1 locs1 → W p l e (rmC d mcR msR) s m args below meth c H1 locs1 (cells + mc) (slots + ms) Q (F0 m (pc + 3) ls (r.toList ++ rest))) :
    W p l e (rmC d mcR msR) s m args below meth c H locs cells slots Q (F0 m pc ls (As.reverse ++ .ref (bs G + a) :: rest)) := by
  refine w_size (fun hu => ?_)
  have he := wl_at G h ha.1 ha.2
  have hc13 : ci < 13 := by
    have := (List.getElem?_eq_some_iff.mp hcl).1
    exact this
  rw [cE_o G h hk hc13] at he
  subst hC
  exact c_go X hn (va_runV (C := y.cls) (As := As) (rest := rest) ⟨hx, hb, hml, hown, hts⟩ hM ⟨c_B hts hc hl.1 hd, hts _ hl.2.1, hts _ hl.2.2⟩ ⟨(c_pre hK X hu).1, va_recv hK.1 X.1 hcl he, (c_pre hK X hu).2⟩ rfl hAs hls rfl (lv_room hrs) hdg hf) kk
theorem c_S (hx : p.tables.exec = Jvm.exec) (hb : c.code = cc) (hml : c.maxLocals = nL) (hown : s.vm.findClass own = some m.cls) (hts : ∀ w ∈ TT, w.before args s = true) (hK : Ks G s) (X : XW G n h s cells H locs)
    (hM : CT l G n n' y (.code y bytes maxL ret) d' mc ms As h h' r) (hn : n' = n + mc) (hc : LC y bytes maxL ret np) (hl : LSt own idx y) (hd : d' < d) (hAs : As.length = np) (hls : ls.size = nL) (hrs : (rest.map fun v => v.category).sum ≤ 8)
    (hdg : decode cc pc = .ok (.invokestatic idx, 3)) (hf : cells + mc ≤ mcR ∧ slots + ms ≤ msR)
    (kk : ∀ (H1 : Heap) (locs1 : List Loc), XW G n' h' s (cells + mc) H1 locs1 → W p l e (rmC d mcR msR) s m args below meth c H1 locs1 (cells + mc) (slots + ms) Q (F0 m (pc + 3) ls (r.toList ++ rest))) :
    W p l e (rmC d mcR msR) s m args below meth c H locs cells slots Q (F0 m pc ls (As.reverse ++ rest)) := by
  refine w_size (fun hu => ?_)
  exact c_go X hn (va_runS (As := As) (rest := rest) ⟨hx, hb, hml, hown, hts⟩ hM ⟨c_B hts hc hl.1 hd, hts _ hl.2⟩ (c_pre hK X hu) rfl hAs hls rfl (lv_room hrs) hdg hf) kk
theorem c_SN (hx : p.tables.exec = Jvm.exec) (hb : c.code = cc) (hml : c.maxLocals = nL) (hown : s.vm.findClass own = some m.cls) (hts : ∀ w ∈ TT, w.before args s = true) (hK : Ks G s) (X : XW G n h s cells H locs)
    (hM : CT l G n n' y (.code y bytes maxL ret) d' mc ms As h h' r) (hn : n' = n + mc) (hc : LC y bytes maxL ret np) (hl : LSN own idx y) (hd : d' < d) (hAs : As.length = np) (hls : ls.size = nL) (hrs : (rest.map fun v => v.category).sum ≤ 8)
    (hdg : decode cc pc = .ok (.invokestatic idx, 3)) (hf : cells + mc ≤ mcR ∧ slots + ms ≤ msR)
    (kk : ∀ (H1 : Heap) (locs1 : List Loc), XW G n' h' s (cells + mc) H1 locs1 → W p l e (rmC d mcR msR) s m args below meth c H1 locs1 (cells + mc) (slots + ms) Q (F0 m (pc + 3) ls (r.toList ++ rest))) :
    W p l e (rmC d mcR msR) s m args below meth c H locs cells slots Q (F0 m pc ls (As.reverse ++ rest)) := by
  refine w_size (fun hu => ?_)
  exact c_go X hn (va_runSN (As := As) (rest := rest) ⟨hx, hb, hml, hown, hts⟩ hM ⟨c_BN hts hK hc hl.1 hd, hts _ hl.2, trivial⟩ (c_pre hK X hu) rfl hAs hls rfl (lv_room hrs) hdg hf) kk
theorem c_I {a : Nat} (hx : p.tables.exec = Jvm.exec) (hb : c.code = cc) (hml : c.maxLocals = nL) (hown : s.vm.findClass own = some m.cls) (hts : ∀ w ∈ TT, w.before args s = true) (hK : Ks G s) (X : XW G n h s cells H locs)
    (hM : CT l G n n' y (.code y bytes maxL none) d' mc ms (.ref (bs G + a) :: As) h h' r) (hn : n' = n + mc) (hc : LC y bytes maxL none np) (hl : LI own idx y) (hd : d' < d) (hAs : As.length = np) (hls : ls.size = nL) (hrs : (rest.map fun v => v.category).sum ≤ 8)
    (hdg : decode cc pc = .ok (.invokespecial idx, 3)) (hf : cells + mc ≤ mcR ∧ slots + ms ≤ msR)
    (kk : ∀ (H1 : Heap) (locs1 : List Loc), XW G n' h' s (cells + mc) H1 locs1 → W p l e (rmC d mcR msR) s m args below meth c H1 locs1 (cells + mc) (slots + ms) Q (F0 m (pc + 3) ls (r.toList ++ rest))) :
    W p l e (rmC d mcR msR) s m args below meth c H locs cells slots Q (F0 m pc ls (As.reverse ++ .ref (bs G + a) :: rest)) := by
  refine w_size (fun hu => ?_)
  exact c_go X hn (va_runI (As := As) (rest := rest) ⟨hx, hb, hml, hown, hts⟩ hM ⟨c_B hts hc hl.1 hd, hl.2.2, hts _ hl.2.1⟩ (c_pre hK X hu) rfl hAs hls rfl (lv_room hrs) hdg hf) kk
theorem c_IN {a : Nat} (hx : p.tables.exec = Jvm.exec) (hb : c.code = cc) (hml : c.maxLocals = nL) (hown : s.vm.findClass own = some m.cls) (hts : ∀ w ∈ TT, w.before args s = true) (hK : Ks G s) (X : XW G n h s cells H locs)
    (hM : CT l G n n' y (.code y bytes maxL none) d' mc ms (.ref (bs G + a) :: As) h h' r) (hn : n' = n + mc) (hc : LC y bytes maxL none np) (hl : LIN own idx y) (hd : d' < d) (hAs : As.length = np) (hls : ls.size = nL) (hrs : (rest.map fun v => v.category).sum ≤ 8)
    (hdg : decode cc pc = .ok (.invokespecial idx, 3)) (hf : cells + mc ≤ mcR ∧ slots + ms ≤ msR)
    (kk : ∀ (H1 : Heap) (locs1 : List Loc), XW G n' h' s (cells + mc) H1 locs1 → W p l e (rmC d mcR msR) s m args below meth c H1 locs1 (cells + mc) (slots + ms) Q (F0 m (pc + 3) ls (r.toList ++ rest))) :
    W p l e (rmC d mcR msR) s m args below meth c H locs cells slots Q (F0 m pc ls (As.reverse ++ .ref (bs G + a) :: rest)) := by
  refine w_size (fun hu => ?_)
  exact c_go X hn (va_runIN (As := As) (rest := rest) ⟨hx, hb, hml, hown, hts⟩ hM ⟨c_BN hts hK hc hl.1 hd, hl.2.2, hts _ hl.2.1⟩ (c_pre hK X hu) rfl hAs hls rfl (lv_room hrs) hdg hf) kk
theorem r_I {v v' : Int32} (hx : p.tables.exec = Jvm.exec) (hb : c.code = cc) (hr : meth.sig.returnType = some .int) (hlocks : meth.locks = false) (X : XW G n h s cells H locs) (hf : some (v, h) = some (v', h')) (hdg : decode cc pc = .ok (.ireturn, 1)) :
    W p l e R s m args below meth c H locs cells slots (MQ below (QP G n h' (some (.int v'))) args s cells slots (Ab G)) (F0 m pc ls [.int v]) := by
  cases hf
  exact W.iret hx hb hr (fun t ht hW => ⟨rfl, by rw [ht]; exact X.1, X.2.1.F ht⟩) X.2.1.2.2 hdg hlocks
theorem r_Z {v v' : Int32} {ty : FieldType} (hx : p.tables.exec = Jvm.exec) (hb : c.code = cc) (hr : meth.sig.returnType = some ty) (hlocks : meth.locks = false) (X : XW G n h s cells H locs) (hz : narrow ty (.int v) = .int v) (hf : some (v, h) = some (v', h')) (hdg : decode cc pc = .ok (.ireturn, 1)) :
    W p l e R s m args below meth c H locs cells slots (MQ below (QP G n h' (some (.int v'))) args s cells slots (Ab G)) (F0 m pc ls [.int v]) := by
  cases hf
  exact W.zret hx hb hr hz (fun t ht hW => ⟨rfl, by rw [ht]; exact X.1, X.2.1.F ht⟩) X.2.1.2.2 hdg hlocks
theorem r_V {v v' : Unit} (hx : p.tables.exec = Jvm.exec) (hb : c.code = cc) (hr : meth.sig.returnType = none) (hlocks : meth.locks = false) (X : XW G n h s cells H locs) (hf : some (v, h) = some (v', h')) (hdg : decode cc pc = .ok (.return_, 1)) :
    W p l e R s m args below meth c H locs cells slots (MQ below (QP G n h' none) args s cells slots (Ab G)) (F0 m pc ls []) := by
  cases hf
  exact W.vret hx hb hr (fun t ht hW => ⟨rfl, by rw [ht]; exact X.1, X.2.1.F ht⟩) X.2.1.2.2 hdg hlocks
theorem r_A {v v' : Nat} {nm : String} (hx : p.tables.exec = Jvm.exec) (hb : c.code = cc) (hr : meth.sig.returnType = some (.object nm)) (hlocks : meth.locks = false) (X : XW G n h s cells H locs) (hf : some (v, h) = some (v', h')) (hdg : decode cc pc = .ok (.areturn, 1)) :
    W p l e R s m args below meth c H locs cells slots (MQ below (QP G n h' (some (.ref (bs G + v')))) args s cells slots (Ab G)) (F0 m pc ls [.ref (bs G + v)]) := by
  cases hf
  exact W.aret hx hb hr (Or.inl ⟨_, rfl⟩) (Or.inr ⟨_, rfl⟩) (fun t ht hW => ⟨rfl, by rw [ht]; exact X.1, X.2.1.F ht⟩) X.2.1.2.2 hdg hlocks
/-- System.arraycopy between two rows of ints, the first k places -/
theorem g_copy {a b K1 K2 : Nat} {k : Int32} (hx : p.tables.exec = Jvm.exec) (hb : c.code = cc) (hml : c.maxLocals = ls.size) (hown : s.vm.findClass own = some m.cls) (hts : ∀ w ∈ TT, w.before args s = true) (hK : Ks G s) (X : XW G n h s cells H locs)
    (hl : Cond.methodLink own idx arraycopyName ∈ TT) (hnat : Cond.native arraycopyName ∈ TT) (hst : Cond.static arraycopyName ∈ TT) (hini : Cond.initialized "java/lang/System" ∈ TT)
    (hka : kd a = K1) (hkb : kd b = K2) (hna : kmx K1 ≤ n) (hnb : kmx K2 ≤ n) (h1 : K1 = 13 ∨ K1 = 16) (h2 : K2 = 13 ∨ K2 = 16) (hk0 : ¬ k < 0) (hka2 : k.toNatClampNeg ≤ ln a) (hkb2 : k.toNatClampNeg ≤ ln b) (hd : 0 < d) (hrs : (rest.map fun v => v.category).sum ≤ 8)
    (hdg : decode cc pc = .ok (.invokestatic idx, 3))
    (kk : ∀ (H1 : Heap) (locs1 : List Loc), XW G n (sc h b (va_cpy (h.1 a) (h.1 b) 0 0 k.toNatClampNeg)) s cells H1 locs1 → W p l e (rmC d mcR msR) s m args below meth c H1 locs1 cells slots Q (F0 m (pc + 3) ls rest)) :
    W p l e (rmC d mcR msR) s m args below meth c H locs cells slots Q (F0 m pc ls (.int k :: .int 0 :: .ref (bs G + b) :: .int 0 :: .ref (bs G + a) :: rest)) := by
  have ha := kd_in hka hna (by omega)
  have hb1 := kd_in hkb hnb (by omega)
  have he := wl_at G h ha.1 ha.2
  have heb := wl_at G h hb1.1 hb1.2
  have hk2 : kd b = 13 ∨ kd b = 16 := by rw [hkb]; exact h2
  rw [cE_i G h (by rw [hka]; exact h1)] at he
  rw [cE_i G h hk2] at heb
  have z0 : (0 : Int32).toNatClampNeg = 0 := rfl
  have hloc : (rest.map fun v => v.category).sum + (nativeFrameWords "java/lang/System" "arraycopy" 5 + 11) ≤ (rmC d mcR msR).locals := by
    have h41 : nativeFrameWords "java/lang/System" "arraycopy" 5 ≤ 41 := by decide +kernel
    show _ ≤ 60 * d
    omega
  refine va_copyi (ty := .int) (sp := 0) (dp := 0) (n := k) hx hb hml hown (hts _ hl) (hts _ hnat) (hts _ hst) (hts _ hini) hK.1 X.1 (wl_D G n h) X.2.1 (a - 1) (b - 1) 0 0 he heb rfl rfl rfl (by decide) (by decide) hk0 (by rw [z0]; omega) (by rw [z0]; omega) (fun _ _ => rfl) (show 1 ≤ (rmC d mcR msR).frames from hd) hloc hdg (fun H1 locs1 hP hD hS => ?_)
  rw [z0] at hP
  rw [show va_cpy (h.1 a) (h.1 b) 0 0 k.toNatClampNeg = (sc h b (va_cpy (h.1 a) (h.1 b) 0 0 k.toNatClampNeg)).1 b from (sc_1 _ _ _).symm, ← cE_i G _ hk2, wl_set G h _ hb1.1 (cE_sc G h b _)] at hP
  exact kk H1 locs1 ⟨hP, hS, X.2.2.1, X.2.2.2⟩
theorem i32n {x k : Int32} (h : ¬ x = k) : x.toInt ≠ k.toInt := fun e => h (Int32.toInt_inj.mp e)
end CALLS
end
