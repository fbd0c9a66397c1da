-- ===== PART A: goes FIRST, ahead of the names: the tables' words, and 'selects' of the private methods out of them =====
/-- a private method of a class that the tables say can be made, by its rows of tables_1 -/
def lw_okq (q : MethodName × Nat) : Prop := (q.1.cls ≠ "java/lang/invoke/MethodHandle" ∧ q.1.cls ≠ "java/lang/invoke/VarHandle") ∧ Cond.instantiable q.1.cls q.2 ∈ tables_1 ∧ Cond.privateMethod q.1 ∈ tables_1 ∧ Cond.instanceMethod q.1 ∈ tables_1
theorem lw_p0 : lw_okq (⟨"CarpetLands", "refuse", "(I)I"⟩, 10) := ⟨⟨by decide +kernel, by decide +kernel⟩, List.mem_of_getElem? (i := 23) (by decide +kernel), List.mem_of_getElem? (i := 297) (by decide +kernel), List.mem_of_getElem? (i := 298) (by decide +kernel)⟩
theorem lw_p1 : lw_okq (⟨"CarpetLands$Reader", "readLevel", "(II)V"⟩, 5) := ⟨⟨by decide +kernel, by decide +kernel⟩, List.mem_of_getElem? (i := 150) (by decide +kernel), List.mem_of_getElem? (i := 499) (by decide +kernel), List.mem_of_getElem? (i := 500) (by decide +kernel)⟩
theorem lw_p2 : lw_okq (⟨"CarpetLands$Reader", "readFactor", "(I)V"⟩, 5) := ⟨⟨by decide +kernel, by decide +kernel⟩, List.mem_of_getElem? (i := 150) (by decide +kernel), List.mem_of_getElem? (i := 503) (by decide +kernel), List.mem_of_getElem? (i := 504) (by decide +kernel)⟩
theorem lw_p3 : lw_okq (⟨"CarpetLands$Reader", "isAhead", "(Ljava/lang/String;)Z"⟩, 5) := ⟨⟨by decide +kernel, by decide +kernel⟩, List.mem_of_getElem? (i := 150) (by decide +kernel), List.mem_of_getElem? (i := 508) (by decide +kernel), List.mem_of_getElem? (i := 509) (by decide +kernel)⟩
theorem lw_p4 : lw_okq (⟨"CarpetLands$Reader", "readNumber", "()V"⟩, 5) := ⟨⟨by decide +kernel, by decide +kernel⟩, List.mem_of_getElem? (i := 150) (by decide +kernel), List.mem_of_getElem? (i := 595) (by decide +kernel), List.mem_of_getElem? (i := 596) (by decide +kernel)⟩
theorem lw_p5 : lw_okq (⟨"CarpetLands$Reader", "ahead", "()I"⟩, 5) := ⟨⟨by decide +kernel, by decide +kernel⟩, List.mem_of_getElem? (i := 150) (by decide +kernel), List.mem_of_getElem? (i := 599) (by decide +kernel), List.mem_of_getElem? (i := 600) (by decide +kernel)⟩
theorem lw_p6 : lw_okq (⟨"CarpetLands$Reader", "close", "()V"⟩, 5) := ⟨⟨by decide +kernel, by decide +kernel⟩, List.mem_of_getElem? (i := 150) (by decide +kernel), List.mem_of_getElem? (i := 604) (by decide +kernel), List.mem_of_getElem? (i := 605) (by decide +kernel)⟩
theorem lw_p7 : lw_okq (⟨"CarpetLands$Roads", "goOn", "(J)V"⟩, 3) := ⟨⟨by decide +kernel, by decide +kernel⟩, List.mem_of_getElem? (i := 199) (by decide +kernel), List.mem_of_getElem? (i := 790) (by decide +kernel), List.mem_of_getElem? (i := 791) (by decide +kernel)⟩
theorem lw_p8 : lw_okq (⟨"CarpetLands", "sheetOf", "(I)LCarpetLands$Sheet;"⟩, 10) := ⟨⟨by decide +kernel, by decide +kernel⟩, List.mem_of_getElem? (i := 23) (by decide +kernel), List.mem_of_getElem? (i := 799) (by decide +kernel), List.mem_of_getElem? (i := 800) (by decide +kernel)⟩
theorem lw_p9 : lw_okq (⟨"CarpetLands$Dyeing", "flood", "(JII)V"⟩, 4) := ⟨⟨by decide +kernel, by decide +kernel⟩, List.mem_of_getElem? (i := 216) (by decide +kernel), List.mem_of_getElem? (i := 861) (by decide +kernel), List.mem_of_getElem? (i := 862) (by decide +kernel)⟩
theorem lw_p10 : lw_okq (⟨"CarpetLands$Dyeing", "keepIfBetter", "(I)V"⟩, 4) := ⟨⟨by decide +kernel, by decide +kernel⟩, List.mem_of_getElem? (i := 216) (by decide +kernel), List.mem_of_getElem? (i := 866) (by decide +kernel), List.mem_of_getElem? (i := 867) (by decide +kernel)⟩
theorem lw_p11 : lw_okq (⟨"CarpetLands$Voice", "say", "(IIII)I"⟩, 4) := ⟨⟨by decide +kernel, by decide +kernel⟩, List.mem_of_getElem? (i := 177) (by decide +kernel), List.mem_of_getElem? (i := 911) (by decide +kernel), List.mem_of_getElem? (i := 912) (by decide +kernel)⟩
theorem lw_p12 : lw_okq (⟨"CarpetLandsModel", "finds", "(I)I"⟩, 27) := ⟨⟨by decide +kernel, by decide +kernel⟩, List.mem_of_getElem? (i := 995) (by decide +kernel), List.mem_of_getElem? (i := 1092) (by decide +kernel), List.mem_of_getElem? (i := 1093) (by decide +kernel)⟩
theorem lw_p13 : lw_okq (⟨"CarpetLandsModel", "worked", "(III)I"⟩, 27) := ⟨⟨by decide +kernel, by decide +kernel⟩, List.mem_of_getElem? (i := 995) (by decide +kernel), List.mem_of_getElem? (i := 1102) (by decide +kernel), List.mem_of_getElem? (i := 1103) (by decide +kernel)⟩
theorem lw_p14 : lw_okq (⟨"CarpetLandsModel", "either", "()I"⟩, 27) := ⟨⟨by decide +kernel, by decide +kernel⟩, List.mem_of_getElem? (i := 995) (by decide +kernel), List.mem_of_getElem? (i := 1106) (by decide +kernel), List.mem_of_getElem? (i := 1107) (by decide +kernel)⟩
theorem lw_p15 : lw_okq (⟨"CarpetLandsModel", "both", "()I"⟩, 27) := ⟨⟨by decide +kernel, by decide +kernel⟩, List.mem_of_getElem? (i := 995) (by decide +kernel), List.mem_of_getElem? (i := 1110) (by decide +kernel), List.mem_of_getElem? (i := 1111) (by decide +kernel)⟩
def lw_privs_1 : List (MethodName × Nat) := [(⟨"CarpetLands", "refuse", "(I)I"⟩, 10), (⟨"CarpetLands$Reader", "readLevel", "(II)V"⟩, 5), (⟨"CarpetLands$Reader", "readFactor", "(I)V"⟩, 5), (⟨"CarpetLands$Reader", "isAhead", "(Ljava/lang/String;)Z"⟩, 5), (⟨"CarpetLands$Reader", "readNumber", "()V"⟩, 5), (⟨"CarpetLands$Reader", "ahead", "()I"⟩, 5), (⟨"CarpetLands$Reader", "close", "()V"⟩, 5), (⟨"CarpetLands$Roads", "goOn", "(J)V"⟩, 3), (⟨"CarpetLands", "sheetOf", "(I)LCarpetLands$Sheet;"⟩, 10), (⟨"CarpetLands$Dyeing", "flood", "(JII)V"⟩, 4), (⟨"CarpetLands$Dyeing", "keepIfBetter", "(I)V"⟩, 4), (⟨"CarpetLands$Voice", "say", "(IIII)I"⟩, 4), (⟨"CarpetLandsModel", "finds", "(I)I"⟩, 27), (⟨"CarpetLandsModel", "worked", "(III)I"⟩, 27), (⟨"CarpetLandsModel", "either", "()I"⟩, 27), (⟨"CarpetLandsModel", "both", "()I"⟩, 27)]
theorem lw_r1 : ∀ q ∈ lw_privs_1, lw_okq q := List.forall_mem_cons.mpr ⟨lw_p0, List.forall_mem_cons.mpr ⟨lw_p1, List.forall_mem_cons.mpr ⟨lw_p2, List.forall_mem_cons.mpr ⟨lw_p3, List.forall_mem_cons.mpr ⟨lw_p4, List.forall_mem_cons.mpr ⟨lw_p5, List.forall_mem_cons.mpr ⟨lw_p6, List.forall_mem_cons.mpr ⟨lw_p7, List.forall_mem_cons.mpr ⟨lw_p8, List.forall_mem_cons.mpr ⟨lw_p9, List.forall_mem_cons.mpr ⟨lw_p10, List.forall_mem_cons.mpr ⟨lw_p11, List.forall_mem_cons.mpr ⟨lw_p12, List.forall_mem_cons.mpr ⟨lw_p13, List.forall_mem_cons.mpr ⟨lw_p14, List.forall_mem_cons.mpr ⟨lw_p15, fun _ h => absurd h List.not_mem_nil⟩⟩⟩⟩⟩⟩⟩⟩⟩⟩⟩⟩⟩⟩⟩⟩
theorem lw_p16 : lw_okq (⟨"CarpetLandsModel", "compared", "()I"⟩, 27) := ⟨⟨by decide +kernel, by decide +kernel⟩, List.mem_of_getElem? (i := 995) (by decide +kernel), List.mem_of_getElem? (i := 1114) (by decide +kernel), List.mem_of_getElem? (i := 1115) (by decide +kernel)⟩
theorem lw_p17 : lw_okq (⟨"CarpetLandsModel", "sum", "()I"⟩, 27) := ⟨⟨by decide +kernel, by decide +kernel⟩, List.mem_of_getElem? (i := 995) (by decide +kernel), List.mem_of_getElem? (i := 1118) (by decide +kernel), List.mem_of_getElem? (i := 1119) (by decide +kernel)⟩
theorem lw_p18 : lw_okq (⟨"CarpetLandsModel", "product", "()I"⟩, 27) := ⟨⟨by decide +kernel, by decide +kernel⟩, List.mem_of_getElem? (i := 995) (by decide +kernel), List.mem_of_getElem? (i := 1122) (by decide +kernel), List.mem_of_getElem? (i := 1123) (by decide +kernel)⟩
theorem lw_p19 : lw_okq (⟨"CarpetLandsModel", "unit", "()I"⟩, 27) := ⟨⟨by decide +kernel, by decide +kernel⟩, List.mem_of_getElem? (i := 995) (by decide +kernel), List.mem_of_getElem? (i := 1126) (by decide +kernel), List.mem_of_getElem? (i := 1127) (by decide +kernel)⟩
theorem lw_p20 : lw_okq (⟨"CarpetLandsModel", "here", "()I"⟩, 27) := ⟨⟨by decide +kernel, by decide +kernel⟩, List.mem_of_getElem? (i := 995) (by decide +kernel), List.mem_of_getElem? (i := 1130) (by decide +kernel), List.mem_of_getElem? (i := 1131) (by decide +kernel)⟩
theorem lw_p21 : lw_okq (⟨"CarpetLandsModel", "wrong", "()I"⟩, 27) := ⟨⟨by decide +kernel, by decide +kernel⟩, List.mem_of_getElem? (i := 995) (by decide +kernel), List.mem_of_getElem? (i := 1134) (by decide +kernel), List.mem_of_getElem? (i := 1135) (by decide +kernel)⟩
theorem lw_p22 : lw_okq (⟨"CarpetLandsModel", "takes", "(I)Z"⟩, 27) := ⟨⟨by decide +kernel, by decide +kernel⟩, List.mem_of_getElem? (i := 995) (by decide +kernel), List.mem_of_getElem? (i := 1138) (by decide +kernel), List.mem_of_getElem? (i := 1139) (by decide +kernel)⟩
theorem lw_p23 : lw_okq (⟨"CarpetLandsModel", "nameOf", "(I)I"⟩, 27) := ⟨⟨by decide +kernel, by decide +kernel⟩, List.mem_of_getElem? (i := 995) (by decide +kernel), List.mem_of_getElem? (i := 1142) (by decide +kernel), List.mem_of_getElem? (i := 1143) (by decide +kernel)⟩
theorem lw_p24 : lw_okq (⟨"CarpetLandsModel", "textGives", "(IIII)I"⟩, 27) := ⟨⟨by decide +kernel, by decide +kernel⟩, List.mem_of_getElem? (i := 995) (by decide +kernel), List.mem_of_getElem? (i := 1152) (by decide +kernel), List.mem_of_getElem? (i := 1153) (by decide +kernel)⟩
theorem lw_p25 : lw_okq (⟨"CarpetLandsModel", "spreads", "(I)V"⟩, 27) := ⟨⟨by decide +kernel, by decide +kernel⟩, List.mem_of_getElem? (i := 995) (by decide +kernel), List.mem_of_getElem? (i := 1174) (by decide +kernel), List.mem_of_getElem? (i := 1175) (by decide +kernel)⟩
theorem lw_p26 : lw_okq (⟨"CarpetLandsModel", "patternOf", "(I)I"⟩, 27) := ⟨⟨by decide +kernel, by decide +kernel⟩, List.mem_of_getElem? (i := 995) (by decide +kernel), List.mem_of_getElem? (i := 1181) (by decide +kernel), List.mem_of_getElem? (i := 1182) (by decide +kernel)⟩
theorem lw_p27 : lw_okq (⟨"CarpetLandsModel", "worthOf", "(I)I"⟩, 27) := ⟨⟨by decide +kernel, by decide +kernel⟩, List.mem_of_getElem? (i := 995) (by decide +kernel), List.mem_of_getElem? (i := 1185) (by decide +kernel), List.mem_of_getElem? (i := 1186) (by decide +kernel)⟩
theorem lw_p28 : lw_okq (⟨"CarpetLandsModel", "leastSpread", "()I"⟩, 27) := ⟨⟨by decide +kernel, by decide +kernel⟩, List.mem_of_getElem? (i := 995) (by decide +kernel), List.mem_of_getElem? (i := 1189) (by decide +kernel), List.mem_of_getElem? (i := 1190) (by decide +kernel)⟩
theorem lw_p29 : lw_okq (⟨"CarpetLandsModel", "holes", "()I"⟩, 27) := ⟨⟨by decide +kernel, by decide +kernel⟩, List.mem_of_getElem? (i := 995) (by decide +kernel), List.mem_of_getElem? (i := 1206) (by decide +kernel), List.mem_of_getElem? (i := 1207) (by decide +kernel)⟩
theorem lw_p30 : lw_okq (⟨"CarpetLandsModel", "sets", "(III)V"⟩, 27) := ⟨⟨by decide +kernel, by decide +kernel⟩, List.mem_of_getElem? (i := 995) (by decide +kernel), List.mem_of_getElem? (i := 1219) (by decide +kernel), List.mem_of_getElem? (i := 1220) (by decide +kernel)⟩
theorem lw_p31 : lw_okq (⟨"CarpetLandsModel", "isWalker", "(I)Z"⟩, 27) := ⟨⟨by decide +kernel, by decide +kernel⟩, List.mem_of_getElem? (i := 995) (by decide +kernel), List.mem_of_getElem? (i := 1227) (by decide +kernel), List.mem_of_getElem? (i := 1228) (by decide +kernel)⟩
def lw_privs_2 : List (MethodName × Nat) := [(⟨"CarpetLandsModel", "compared", "()I"⟩, 27), (⟨"CarpetLandsModel", "sum", "()I"⟩, 27), (⟨"CarpetLandsModel", "product", "()I"⟩, 27), (⟨"CarpetLandsModel", "unit", "()I"⟩, 27), (⟨"CarpetLandsModel", "here", "()I"⟩, 27), (⟨"CarpetLandsModel", "wrong", "()I"⟩, 27), (⟨"CarpetLandsModel", "takes", "(I)Z"⟩, 27), (⟨"CarpetLandsModel", "nameOf", "(I)I"⟩, 27), (⟨"CarpetLandsModel", "textGives", "(IIII)I"⟩, 27), (⟨"CarpetLandsModel", "spreads", "(I)V"⟩, 27), (⟨"CarpetLandsModel", "patternOf", "(I)I"⟩, 27), (⟨"CarpetLandsModel", "worthOf", "(I)I"⟩, 27), (⟨"CarpetLandsModel", "leastSpread", "()I"⟩, 27), (⟨"CarpetLandsModel", "holes", "()I"⟩, 27), (⟨"CarpetLandsModel", "sets", "(III)V"⟩, 27), (⟨"CarpetLandsModel", "isWalker", "(I)Z"⟩, 27)]
theorem lw_r2 : ∀ q ∈ lw_privs_2, lw_okq q := List.forall_mem_cons.mpr ⟨lw_p16, List.forall_mem_cons.mpr ⟨lw_p17, List.forall_mem_cons.mpr ⟨lw_p18, List.forall_mem_cons.mpr ⟨lw_p19, List.forall_mem_cons.mpr ⟨lw_p20, List.forall_mem_cons.mpr ⟨lw_p21, List.forall_mem_cons.mpr ⟨lw_p22, List.forall_mem_cons.mpr ⟨lw_p23, List.forall_mem_cons.mpr ⟨lw_p24, List.forall_mem_cons.mpr ⟨lw_p25, List.forall_mem_cons.mpr ⟨lw_p26, List.forall_mem_cons.mpr ⟨lw_p27, List.forall_mem_cons.mpr ⟨lw_p28, List.forall_mem_cons.mpr ⟨lw_p29, List.forall_mem_cons.mpr ⟨lw_p30, List.forall_mem_cons.mpr ⟨lw_p31, fun _ h => absurd h List.not_mem_nil⟩⟩⟩⟩⟩⟩⟩⟩⟩⟩⟩⟩⟩⟩⟩⟩
theorem lw_p32 : lw_okq (⟨"CarpetLandsModel", "of", "(II)I"⟩, 27) := ⟨⟨by decide +kernel, by decide +kernel⟩, List.mem_of_getElem? (i := 995) (by decide +kernel), List.mem_of_getElem? (i := 1231) (by decide +kernel), List.mem_of_getElem? (i := 1232) (by decide +kernel)⟩
theorem lw_p33 : lw_okq (⟨"CarpetLandsModel", "wearsOf", "(I)I"⟩, 27) := ⟨⟨by decide +kernel, by decide +kernel⟩, List.mem_of_getElem? (i := 995) (by decide +kernel), List.mem_of_getElem? (i := 1235) (by decide +kernel), List.mem_of_getElem? (i := 1236) (by decide +kernel)⟩
theorem lw_p34 : lw_okq (⟨"CarpetLandsModel", "eats", "(I)Z"⟩, 27) := ⟨⟨by decide +kernel, by decide +kernel⟩, List.mem_of_getElem? (i := 995) (by decide +kernel), List.mem_of_getElem? (i := 1239) (by decide +kernel), List.mem_of_getElem? (i := 1240) (by decide +kernel)⟩
theorem lw_p35 : lw_okq (⟨"CarpetLandsModel", "dayGoes", "()V"⟩, 27) := ⟨⟨by decide +kernel, by decide +kernel⟩, List.mem_of_getElem? (i := 995) (by decide +kernel), List.mem_of_getElem? (i := 1265) (by decide +kernel), List.mem_of_getElem? (i := 1266) (by decide +kernel)⟩
theorem lw_p36 : lw_okq (⟨"CarpetLandsModel", "steps", "(I)V"⟩, 27) := ⟨⟨by decide +kernel, by decide +kernel⟩, List.mem_of_getElem? (i := 995) (by decide +kernel), List.mem_of_getElem? (i := 1269) (by decide +kernel), List.mem_of_getElem? (i := 1270) (by decide +kernel)⟩
theorem lw_p37 : lw_okq (⟨"CarpetLandsModel", "catStep", "(I)V"⟩, 27) := ⟨⟨by decide +kernel, by decide +kernel⟩, List.mem_of_getElem? (i := 995) (by decide +kernel), List.mem_of_getElem? (i := 1273) (by decide +kernel), List.mem_of_getElem? (i := 1274) (by decide +kernel)⟩
theorem lw_p38 : lw_okq (⟨"CarpetLandsModel", "goes", "(II)V"⟩, 27) := ⟨⟨by decide +kernel, by decide +kernel⟩, List.mem_of_getElem? (i := 995) (by decide +kernel), List.mem_of_getElem? (i := 1277) (by decide +kernel), List.mem_of_getElem? (i := 1278) (by decide +kernel)⟩
theorem lw_p39 : lw_okq (⟨"CarpetLandsModel", "plainStep", "(I)V"⟩, 27) := ⟨⟨by decide +kernel, by decide +kernel⟩, List.mem_of_getElem? (i := 995) (by decide +kernel), List.mem_of_getElem? (i := 1281) (by decide +kernel), List.mem_of_getElem? (i := 1282) (by decide +kernel)⟩
theorem lw_p40 : lw_okq (⟨"CarpetLandsModel", "mothStep", "(I)V"⟩, 27) := ⟨⟨by decide +kernel, by decide +kernel⟩, List.mem_of_getElem? (i := 995) (by decide +kernel), List.mem_of_getElem? (i := 1285) (by decide +kernel), List.mem_of_getElem? (i := 1286) (by decide +kernel)⟩
theorem lw_p41 : lw_okq (⟨"CarpetLandsModel", "drawn", "()I"⟩, 27) := ⟨⟨by decide +kernel, by decide +kernel⟩, List.mem_of_getElem? (i := 995) (by decide +kernel), List.mem_of_getElem? (i := 1294) (by decide +kernel), List.mem_of_getElem? (i := 1295) (by decide +kernel)⟩
theorem lw_p42 : lw_okq (⟨"CarpetLandsModel", "keepAside", "()V"⟩, 27) := ⟨⟨by decide +kernel, by decide +kernel⟩, List.mem_of_getElem? (i := 995) (by decide +kernel), List.mem_of_getElem? (i := 1303) (by decide +kernel), List.mem_of_getElem? (i := 1304) (by decide +kernel)⟩
theorem lw_p43 : lw_okq (⟨"CarpetLandsModel", "putBack", "()V"⟩, 27) := ⟨⟨by decide +kernel, by decide +kernel⟩, List.mem_of_getElem? (i := 995) (by decide +kernel), List.mem_of_getElem? (i := 1307) (by decide +kernel), List.mem_of_getElem? (i := 1308) (by decide +kernel)⟩
theorem lw_p44 : lw_okq (⟨"CarpetLandsModel", "findLands", "(I)V"⟩, 27) := ⟨⟨by decide +kernel, by decide +kernel⟩, List.mem_of_getElem? (i := 995) (by decide +kernel), List.mem_of_getElem? (i := 1316) (by decide +kernel), List.mem_of_getElem? (i := 1317) (by decide +kernel)⟩
theorem lw_p45 : lw_okq (⟨"CarpetLandsModel", "comesBy", "(II)Z"⟩, 27) := ⟨⟨by decide +kernel, by decide +kernel⟩, List.mem_of_getElem? (i := 995) (by decide +kernel), List.mem_of_getElem? (i := 1336) (by decide +kernel), List.mem_of_getElem? (i := 1337) (by decide +kernel)⟩
theorem lw_p46 : lw_okq (⟨"CarpetLandsModel", "isOf", "(II)Z"⟩, 27) := ⟨⟨by decide +kernel, by decide +kernel⟩, List.mem_of_getElem? (i := 995) (by decide +kernel), List.mem_of_getElem? (i := 1354) (by decide +kernel), List.mem_of_getElem? (i := 1355) (by decide +kernel)⟩
theorem lw_p47 : lw_okq (⟨"CarpetLandsModel", "isCarpet", "(I)Z"⟩, 27) := ⟨⟨by decide +kernel, by decide +kernel⟩, List.mem_of_getElem? (i := 995) (by decide +kernel), List.mem_of_getElem? (i := 1366) (by decide +kernel), List.mem_of_getElem? (i := 1367) (by decide +kernel)⟩
def lw_privs_3 : List (MethodName × Nat) := [(⟨"CarpetLandsModel", "of", "(II)I"⟩, 27), (⟨"CarpetLandsModel", "wearsOf", "(I)I"⟩, 27), (⟨"CarpetLandsModel", "eats", "(I)Z"⟩, 27), (⟨"CarpetLandsModel", "dayGoes", "()V"⟩, 27), (⟨"CarpetLandsModel", "steps", "(I)V"⟩, 27), (⟨"CarpetLandsModel", "catStep", "(I)V"⟩, 27), (⟨"CarpetLandsModel", "goes", "(II)V"⟩, 27), (⟨"CarpetLandsModel", "plainStep", "(I)V"⟩, 27), (⟨"CarpetLandsModel", "mothStep", "(I)V"⟩, 27), (⟨"CarpetLandsModel", "drawn", "()I"⟩, 27), (⟨"CarpetLandsModel", "keepAside", "()V"⟩, 27), (⟨"CarpetLandsModel", "putBack", "()V"⟩, 27), (⟨"CarpetLandsModel", "findLands", "(I)V"⟩, 27), (⟨"CarpetLandsModel", "comesBy", "(II)Z"⟩, 27), (⟨"CarpetLandsModel", "isOf", "(II)Z"⟩, 27), (⟨"CarpetLandsModel", "isCarpet", "(I)Z"⟩, 27)]
theorem lw_r3 : ∀ q ∈ lw_privs_3, lw_okq q := List.forall_mem_cons.mpr ⟨lw_p32, List.forall_mem_cons.mpr ⟨lw_p33, List.forall_mem_cons.mpr ⟨lw_p34, List.forall_mem_cons.mpr ⟨lw_p35, List.forall_mem_cons.mpr ⟨lw_p36, List.forall_mem_cons.mpr ⟨lw_p37, List.forall_mem_cons.mpr ⟨lw_p38, List.forall_mem_cons.mpr ⟨lw_p39, List.forall_mem_cons.mpr ⟨lw_p40, List.forall_mem_cons.mpr ⟨lw_p41, List.forall_mem_cons.mpr ⟨lw_p42, List.forall_mem_cons.mpr ⟨lw_p43, List.forall_mem_cons.mpr ⟨lw_p44, List.forall_mem_cons.mpr ⟨lw_p45, List.forall_mem_cons.mpr ⟨lw_p46, List.forall_mem_cons.mpr ⟨lw_p47, fun _ h => absurd h List.not_mem_nil⟩⟩⟩⟩⟩⟩⟩⟩⟩⟩⟩⟩⟩⟩⟩⟩
theorem lw_p48 : lw_okq (⟨"CarpetLandsModel", "isFit", "(III)Z"⟩, 27) := ⟨⟨by decide +kernel, by decide +kernel⟩, List.mem_of_getElem? (i := 995) (by decide +kernel), List.mem_of_getElem? (i := 1370) (by decide +kernel), List.mem_of_getElem? (i := 1371) (by decide +kernel)⟩
theorem lw_p49 : lw_okq (⟨"CarpetLandsModel", "floods", "(II)V"⟩, 27) := ⟨⟨by decide +kernel, by decide +kernel⟩, List.mem_of_getElem? (i := 995) (by decide +kernel), List.mem_of_getElem? (i := 1386) (by decide +kernel), List.mem_of_getElem? (i := 1387) (by decide +kernel)⟩
theorem lw_p50 : lw_okq (⟨"CarpetLandsModel", "own", "()I"⟩, 27) := ⟨⟨by decide +kernel, by decide +kernel⟩, List.mem_of_getElem? (i := 995) (by decide +kernel), List.mem_of_getElem? (i := 1398) (by decide +kernel), List.mem_of_getElem? (i := 1399) (by decide +kernel)⟩
theorem lw_p51 : lw_okq (⟨"CarpetLandsModel", "walksBy", "(II)I"⟩, 27) := ⟨⟨by decide +kernel, by decide +kernel⟩, List.mem_of_getElem? (i := 995) (by decide +kernel), List.mem_of_getElem? (i := 1402) (by decide +kernel), List.mem_of_getElem? (i := 1403) (by decide +kernel)⟩
theorem lw_p52 : lw_okq (⟨"CarpetLandsModel", "ran", "(I)V"⟩, 27) := ⟨⟨by decide +kernel, by decide +kernel⟩, List.mem_of_getElem? (i := 995) (by decide +kernel), List.mem_of_getElem? (i := 1406) (by decide +kernel), List.mem_of_getElem? (i := 1407) (by decide +kernel)⟩
theorem lw_p53 : lw_okq (⟨"CarpetLandsModel", "wearsBy", "(II)I"⟩, 27) := ⟨⟨by decide +kernel, by decide +kernel⟩, List.mem_of_getElem? (i := 995) (by decide +kernel), List.mem_of_getElem? (i := 1410) (by decide +kernel), List.mem_of_getElem? (i := 1411) (by decide +kernel)⟩
theorem lw_p54 : lw_okq (⟨"CarpetLandsModel", "eatsBy", "(II)I"⟩, 27) := ⟨⟨by decide +kernel, by decide +kernel⟩, List.mem_of_getElem? (i := 995) (by decide +kernel), List.mem_of_getElem? (i := 1414) (by decide +kernel), List.mem_of_getElem? (i := 1415) (by decide +kernel)⟩
theorem lw_p55 : lw_okq (⟨"CarpetLandsModel", "tellsBy", "(II)I"⟩, 27) := ⟨⟨by decide +kernel, by decide +kernel⟩, List.mem_of_getElem? (i := 995) (by decide +kernel), List.mem_of_getElem? (i := 1418) (by decide +kernel), List.mem_of_getElem? (i := 1419) (by decide +kernel)⟩
def lw_privs_4 : List (MethodName × Nat) := [(⟨"CarpetLandsModel", "isFit", "(III)Z"⟩, 27), (⟨"CarpetLandsModel", "floods", "(II)V"⟩, 27), (⟨"CarpetLandsModel", "own", "()I"⟩, 27), (⟨"CarpetLandsModel", "walksBy", "(II)I"⟩, 27), (⟨"CarpetLandsModel", "ran", "(I)V"⟩, 27), (⟨"CarpetLandsModel", "wearsBy", "(II)I"⟩, 27), (⟨"CarpetLandsModel", "eatsBy", "(II)I"⟩, 27), (⟨"CarpetLandsModel", "tellsBy", "(II)I"⟩, 27)]
theorem lw_r4 : ∀ q ∈ lw_privs_4, lw_okq q := List.forall_mem_cons.mpr ⟨lw_p48, List.forall_mem_cons.mpr ⟨lw_p49, List.forall_mem_cons.mpr ⟨lw_p50, List.forall_mem_cons.mpr ⟨lw_p51, List.forall_mem_cons.mpr ⟨lw_p52, List.forall_mem_cons.mpr ⟨lw_p53, List.forall_mem_cons.mpr ⟨lw_p54, List.forall_mem_cons.mpr ⟨lw_p55, fun _ h => absurd h List.not_mem_nil⟩⟩⟩⟩⟩⟩⟩⟩
def lw_privs : List (MethodName × Nat) := lw_privs_1 ++ (lw_privs_2 ++ (lw_privs_3 ++ (lw_privs_4)))
def lw_tbl : List Cond := k2_sels lw_privs ++ tables_1
theorem lw_privs_ok : ∀ q ∈ lw_privs, lw_okq q := by
  show ∀ q ∈ lw_privs_1 ++ (lw_privs_2 ++ (lw_privs_3 ++ (lw_privs_4))), lw_okq q
  exact List.forall_mem_append.mpr ⟨lw_r1, List.forall_mem_append.mpr ⟨lw_r2, List.forall_mem_append.mpr ⟨lw_r3, lw_r4⟩⟩⟩
def RX0 : String := "CarpetLands$Carpet"
def TX0 : u_T := fun k => match k with
  | 0 => ("CarpetLands$Carpet", "colours", "[I", true)
  | _ => ("CarpetLands$Carpet", "wears", "[I", true)
def tyX0 : Nat → FieldType := fun k => match k with
  | 0 => .array .int
  | _ => .array .int
abbrev wsX00 : List Cond := u_ws RX0 TX0 2
theorem nmX0 : ∀ a, a < 2 → ∀ b, b < 2 → a ≠ b → (TX0 a).2.1 ≠ (TX0 b).2.1 := by decide +kernel
theorem tyX0_ok : ∀ k, k < 2 → parseFieldDescriptor (TX0 k).2.2.1 = some (tyX0 k) := by decide +kernel
abbrev cX0_init : ByteArray := prog_2_method_1_code
def yX0_init : MethodName := ⟨RX0, "<init>", "()V"⟩
abbrev cX0_copyFrom : ByteArray := prog_2_method_2_code
def yX0_copyFrom : MethodName := ⟨RX0, "copyFrom", "(LCarpetLands$Carpet;)V"⟩
abbrev cX0_colourOf : ByteArray := prog_2_method_3_code
def yX0_colourOf : MethodName := ⟨RX0, "colourOf", "(I)I"⟩
abbrev cX0_wearOf : ByteArray := prog_2_method_4_code
def yX0_wearOf : MethodName := ⟨RX0, "wearOf", "(I)I"⟩
abbrev cX0_setColour : ByteArray := prog_2_method_5_code
def yX0_setColour : MethodName := ⟨RX0, "setColour", "(II)V"⟩
abbrev cX0_setWear : ByteArray := prog_2_method_6_code
def yX0_setWear : MethodName := ⟨RX0, "setWear", "(II)V"⟩
abbrev cX0_ofColour : ByteArray := prog_2_method_7_code
def yX0_ofColour : MethodName := ⟨RX0, "ofColour", "(I)J"⟩
abbrev cX0_countHoles : ByteArray := prog_2_method_8_code
def yX0_countHoles : MethodName := ⟨RX0, "countHoles", "()I"⟩
abbrev cX0_wearOfAll : ByteArray := prog_2_method_9_code
def yX0_wearOfAll : MethodName := ⟨RX0, "wearOfAll", "()I"⟩
abbrev cX0_landOf : ByteArray := prog_2_method_10_code
def yX0_landOf : MethodName := ⟨RX0, "landOf", "(I)J"⟩
abbrev cX0_countLands : ByteArray := prog_2_method_11_code
def yX0_countLands : MethodName := ⟨RX0, "countLands", "(I)I"⟩
abbrev cX0_greatestLand : ByteArray := prog_2_method_12_code
def yX0_greatestLand : MethodName := ⟨RX0, "greatestLand", "()J"⟩
abbrev cX0_coloursIn : ByteArray := prog_2_method_13_code
def yX0_coloursIn : MethodName := ⟨RX0, "coloursIn", "(J)I"⟩
abbrev cX0_coloursBeside : ByteArray := prog_2_method_14_code
def yX0_coloursBeside : MethodName := ⟨RX0, "coloursBeside", "(I)I"⟩
abbrev cX0_countPairs : ByteArray := prog_2_method_15_code
def yX0_countPairs : MethodName := ⟨RX0, "countPairs", "(II)I"⟩
abbrev cX0_meets : ByteArray := prog_2_method_16_code
def yX0_meets : MethodName := ⟨RX0, "meets", "(II)Z"⟩
abbrev cX0_leastPeriod : ByteArray := prog_2_method_17_code
def yX0_leastPeriod : MethodName := ⟨RX0, "leastPeriod", "(Z)I"⟩
abbrev cX0_comesAgain : ByteArray := prog_2_method_18_code
def yX0_comesAgain : MethodName := ⟨RX0, "comesAgain", "(ZI)Z"⟩
abbrev cX0_staysBy : ByteArray := prog_2_method_19_code
def yX0_staysBy : MethodName := ⟨RX0, "staysBy", "(I)Z"⟩
abbrev cX0_comesTo : ByteArray := prog_2_method_20_code
def yX0_comesTo : MethodName := ⟨RX0, "comesTo", "(II)I"⟩
abbrev cX0_fitsBy : ByteArray := prog_2_method_21_code
def yX0_fitsBy : MethodName := ⟨RX0, "fitsBy", "(LCarpetLands$Sheet;II)Z"⟩
abbrev cX0_countLayings : ByteArray := prog_2_method_22_code
def yX0_countLayings : MethodName := ⟨RX0, "countLayings", "(LCarpetLands$Sheet;)I"⟩
abbrev cX0_bestLaying : ByteArray := prog_2_method_23_code
def yX0_bestLaying : MethodName := ⟨RX0, "bestLaying", "(LCarpetLands$Sheet;)I"⟩
def RX1 : String := "CarpetLands$Country"
def TX1 : u_T := fun k => match k with
  | 0 => ("CarpetLands$Country", "carpet", "LCarpetLands$Carpet;", true)
  | 1 => ("CarpetLands$Country", "walkers", "[LCarpetLands$Walker;", true)
  | 2 => ("CarpetLands$Country", "pattern", "LCarpetLands$Law;", true)
  | 3 => ("CarpetLands$Country", "worth", "LCarpetLands$Law;", true)
  | 4 => ("CarpetLands$Country", "tape", "LCarpetLands$Row;", true)
  | 5 => ("CarpetLands$Country", "waiting", "LCarpetLands$Row;", true)
  | 6 => ("CarpetLands$Country", "walkerCount", "I", false)
  | 7 => ("CarpetLands$Country", "day", "I", false)
  | _ => ("CarpetLands$Country", "z", "I", false)
def tyX1 : Nat → FieldType := fun k => match k with
  | 0 => .object "CarpetLands$Carpet"
  | 1 => .array (.object "CarpetLands$Walker")
  | 2 => .object "CarpetLands$Law"
  | 3 => .object "CarpetLands$Law"
  | 4 => .object "CarpetLands$Row"
  | 5 => .object "CarpetLands$Row"
  | 6 => .int
  | 7 => .int
  | _ => .int
abbrev wsX10 : List Cond := u_ws RX1 TX1 9
theorem nmX1 : ∀ a, a < 9 → ∀ b, b < 9 → a ≠ b → (TX1 a).2.1 ≠ (TX1 b).2.1 := by decide +kernel
theorem tyX1_ok : ∀ k, k < 9 → parseFieldDescriptor (TX1 k).2.2.1 = some (tyX1 k) := by decide +kernel
abbrev cX1_init : ByteArray := prog_3_method_1_code
def yX1_init : MethodName := ⟨RX1, "<init>", "()V"⟩
abbrev cX1_copyFrom : ByteArray := prog_3_method_2_code
def yX1_copyFrom : MethodName := ⟨RX1, "copyFrom", "(LCarpetLands$Country;)V"⟩
abbrev cX1_walkerOf : ByteArray := prog_3_method_3_code
def yX1_walkerOf : MethodName := ⟨RX1, "walkerOf", "(I)LCarpetLands$Walker;"⟩
abbrev cX1_addWalker : ByteArray := prog_3_method_4_code
def yX1_addWalker : MethodName := ⟨RX1, "addWalker", "(II)I"⟩
abbrev cX1_lawOf : ByteArray := prog_3_method_5_code
def yX1_lawOf : MethodName := ⟨RX1, "lawOf", "(I)LCarpetLands$Law;"⟩
abbrev cX1_given : ByteArray := prog_3_method_6_code
def yX1_given : MethodName := ⟨RX1, "given", "(IIII)I"⟩
abbrev cX1_patternOf : ByteArray := prog_3_method_7_code
def yX1_patternOf : MethodName := ⟨RX1, "patternOf", "(I)I"⟩
abbrev cX1_worthOf : ByteArray := prog_3_method_8_code
def yX1_worthOf : MethodName := ⟨RX1, "worthOf", "(I)I"⟩
abbrev cX1_worthOfColumn : ByteArray := prog_3_method_9_code
def yX1_worthOfColumn : MethodName := ⟨RX1, "worthOfColumn", "(I)I"⟩
abbrev cX1_countSlips : ByteArray := prog_3_method_10_code
def yX1_countSlips : MethodName := ⟨RX1, "countSlips", "()I"⟩
abbrev cX1_countMends : ByteArray := prog_3_method_11_code
def yX1_countMends : MethodName := ⟨RX1, "countMends", "(I)I"⟩
abbrev cX1_passDay : ByteArray := prog_3_method_12_code
def yX1_passDay : MethodName := ⟨RX1, "passDay", "()V"⟩
abbrev cX1_passLooseDay : ByteArray := prog_3_method_13_code
def yX1_passLooseDay : MethodName := ⟨RX1, "passLooseDay", "()V"⟩
abbrev cX1_draw : ByteArray := prog_3_method_14_code
def yX1_draw : MethodName := ⟨RX1, "draw", "()I"⟩
def RX2 : String := "CarpetLands$Dyeing"
def TX2 : u_T := fun k => match k with
  | 0 => ("CarpetLands$Dyeing", "sets", "[J", true)
  | 1 => ("CarpetLands$Dyeing", "row", "[I", true)
  | 2 => ("CarpetLands$Dyeing", "bestRow", "[I", true)
  | _ => ("CarpetLands$Dyeing", "best", "I", false)
def tyX2 : Nat → FieldType := fun k => match k with
  | 0 => .array .long
  | 1 => .array .int
  | 2 => .array .int
  | _ => .int
abbrev wsX20 : List Cond := u_ws RX2 TX2 4
theorem nmX2 : ∀ a, a < 4 → ∀ b, b < 4 → a ≠ b → (TX2 a).2.1 ≠ (TX2 b).2.1 := by decide +kernel
theorem tyX2_ok : ∀ k, k < 4 → parseFieldDescriptor (TX2 k).2.2.1 = some (tyX2 k) := by decide +kernel
abbrev cX2_init : ByteArray := prog_4_method_1_code
def yX2_init : MethodName := ⟨RX2, "<init>", "()V"⟩
abbrev cX2_tryAll : ByteArray := prog_4_method_2_code
def yX2_tryAll : MethodName := ⟨RX2, "tryAll", "(LCarpetLands$Carpet;II)V"⟩
abbrev cX2_colourOfFlood : ByteArray := prog_4_method_3_code
def yX2_colourOfFlood : MethodName := ⟨RX2, "colourOfFlood", "(I)I"⟩
abbrev cX2_flood : ByteArray := prog_4_method_4_code
def yX2_flood : MethodName := ⟨RX2, "flood", "(JII)V"⟩
abbrev cX2_keepIfBetter : ByteArray := prog_4_method_5_code
def yX2_keepIfBetter : MethodName := ⟨RX2, "keepIfBetter", "(I)V"⟩
def RX3 : String := "CarpetLands$Law"
def TX3 : u_T := fun k => match k with
  | 0 => ("CarpetLands$Law", "signs", "LCarpetLands$Row;", true)
  | _ => ("CarpetLands$Law", "stack", "[I", true)
def tyX3 : Nat → FieldType := fun k => match k with
  | 0 => .object "CarpetLands$Row"
  | _ => .array .int
abbrev wsX30 : List Cond := u_ws RX3 TX3 2
theorem nmX3 : ∀ a, a < 2 → ∀ b, b < 2 → a ≠ b → (TX3 a).2.1 ≠ (TX3 b).2.1 := by decide +kernel
theorem tyX3_ok : ∀ k, k < 2 → parseFieldDescriptor (TX3 k).2.2.1 = some (tyX3 k) := by decide +kernel
abbrev cX3_init : ByteArray := prog_5_method_1_code
def yX3_init : MethodName := ⟨RX3, "<init>", "()V"⟩
abbrev cX3_isThere : ByteArray := prog_5_method_2_code
def yX3_isThere : MethodName := ⟨RX3, "isThere", "()Z"⟩
abbrev cX3_learn : ByteArray := prog_5_method_3_code
def yX3_learn : MethodName := ⟨RX3, "learn", "(LCarpetLands$Row;)V"⟩
abbrev cX3_workedOut : ByteArray := prog_5_method_4_code
def yX3_workedOut : MethodName := ⟨RX3, "workedOut", "(III)I"⟩
abbrev cX3_valueOf : ByteArray := prog_5_method_5_code
def yX3_valueOf : MethodName := ⟨RX3, "valueOf", "(IIII)I"⟩
abbrev cX3_joined : ByteArray := prog_5_method_6_code
def yX3_joined : MethodName := ⟨RX3, "joined", "(III)I"⟩
def RX4 : String := "CarpetLands$Reader"
def TX4 : u_T := fun k => match k with
  | 0 => ("CarpetLands$Reader", "signs", "LCarpetLands$Row;", true)
  | 1 => ("CarpetLands$Reader", "bytes", "LCarpetLands$Row;", false)
  | 2 => ("CarpetLands$Reader", "names", "Ljava/lang/String;", false)
  | 3 => ("CarpetLands$Reader", "place", "I", false)
  | _ => ("CarpetLands$Reader", "failed", "Z", false)
def tyX4 : Nat → FieldType := fun k => match k with
  | 0 => .object "CarpetLands$Row"
  | 1 => .object "CarpetLands$Row"
  | 2 => .object "java/lang/String"
  | 3 => .int
  | _ => .boolean
abbrev wsX40 : List Cond := u_ws RX4 TX4 5
theorem nmX4 : ∀ a, a < 5 → ∀ b, b < 5 → a ≠ b → (TX4 a).2.1 ≠ (TX4 b).2.1 := by decide +kernel
theorem tyX4_ok : ∀ k, k < 5 → parseFieldDescriptor (TX4 k).2.2.1 = some (tyX4 k) := by decide +kernel
abbrev cX4_init : ByteArray := prog_6_method_1_code
def yX4_init : MethodName := ⟨RX4, "<init>", "()V"⟩
abbrev cX4_faultOf : ByteArray := prog_6_method_2_code
def yX4_faultOf : MethodName := ⟨RX4, "faultOf", "(LCarpetLands$Row;I)I"⟩
abbrev cX4_operatorsOf : ByteArray := prog_6_method_3_code
def yX4_operatorsOf : MethodName := ⟨RX4, "operatorsOf", "(I)Ljava/lang/String;"⟩
abbrev cX4_ahead : ByteArray := prog_6_method_4_code
def yX4_ahead : MethodName := ⟨RX4, "ahead", "()I"⟩
abbrev cX4_isAhead : ByteArray := prog_6_method_5_code
def yX4_isAhead : MethodName := ⟨RX4, "isAhead", "(Ljava/lang/String;)Z"⟩
abbrev cX4_readLevel : ByteArray := prog_6_method_6_code
def yX4_readLevel : MethodName := ⟨RX4, "readLevel", "(II)V"⟩
abbrev cX4_readFactor : ByteArray := prog_6_method_7_code
def yX4_readFactor : MethodName := ⟨RX4, "readFactor", "(I)V"⟩
abbrev cX4_close : ByteArray := prog_6_method_8_code
def yX4_close : MethodName := ⟨RX4, "close", "()V"⟩
abbrev cX4_readNumber : ByteArray := prog_6_method_9_code
def yX4_readNumber : MethodName := ⟨RX4, "readNumber", "()V"⟩
def RX5 : String := "CarpetLands$Roads"
def TX5 : u_T := fun k => match k with
  | 0 => ("CarpetLands$Roads", "seen", "[J", true)
  | 1 => ("CarpetLands$Roads", "fresh", "[J", true)
  | _ => ("CarpetLands$Roads", "next", "[J", true)
def tyX5 : Nat → FieldType := fun k => match k with
  | 0 => .array .long
  | 1 => .array .long
  | _ => .array .long
abbrev wsX50 : List Cond := u_ws RX5 TX5 3
theorem nmX5 : ∀ a, a < 3 → ∀ b, b < 3 → a ≠ b → (TX5 a).2.1 ≠ (TX5 b).2.1 := by decide +kernel
theorem tyX5_ok : ∀ k, k < 3 → parseFieldDescriptor (TX5 k).2.2.1 = some (tyX5 k) := by decide +kernel
abbrev cX5_init : ByteArray := prog_7_method_1_code
def yX5_init : MethodName := ⟨RX5, "<init>", "()V"⟩
abbrev cX5_fewestSteps : ByteArray := prog_7_method_2_code
def yX5_fewestSteps : MethodName := ⟨RX5, "fewestSteps", "(IIJ)I"⟩
abbrev cX5_goOn : ByteArray := prog_7_method_3_code
def yX5_goOn : MethodName := ⟨RX5, "goOn", "(J)V"⟩
def RX6 : String := "CarpetLands$Row"
def TX6 : u_T := fun k => match k with
  | 0 => ("CarpetLands$Row", "numbers", "[I", true)
  | _ => ("CarpetLands$Row", "length", "I", false)
def tyX6 : Nat → FieldType := fun k => match k with
  | 0 => .array .int
  | _ => .int
abbrev wsX60 : List Cond := u_ws RX6 TX6 2
theorem nmX6 : ∀ a, a < 2 → ∀ b, b < 2 → a ≠ b → (TX6 a).2.1 ≠ (TX6 b).2.1 := by decide +kernel
theorem tyX6_ok : ∀ k, k < 2 → parseFieldDescriptor (TX6 k).2.2.1 = some (tyX6 k) := by decide +kernel
abbrev cX6_init : ByteArray := prog_8_method_1_code
def yX6_init : MethodName := ⟨RX6, "<init>", "(I)V"⟩
abbrev cX6_has : ByteArray := prog_8_method_2_code
def yX6_has : MethodName := ⟨RX6, "has", "(I)Z"⟩
abbrev cX6_get : ByteArray := prog_8_method_3_code
def yX6_get : MethodName := ⟨RX6, "get", "(I)I"⟩
abbrev cX6_add : ByteArray := prog_8_method_4_code
def yX6_add : MethodName := ⟨RX6, "add", "(I)Z"⟩
abbrev cX6_clear : ByteArray := prog_8_method_5_code
def yX6_clear : MethodName := ⟨RX6, "clear", "()V"⟩
abbrev cX6_copyFrom : ByteArray := prog_8_method_6_code
def yX6_copyFrom : MethodName := ⟨RX6, "copyFrom", "(LCarpetLands$Row;)V"⟩
def RX7 : String := "CarpetLands$Sets"
def TX7 : u_T := fun k => match k with
  | _ => ("", "", "", false)
def tyX7 : Nat → FieldType := fun k => match k with
  | _ => .int
abbrev wsX70 : List Cond := u_ws RX7 TX7 0
theorem nmX7 : ∀ a, a < 0 → ∀ b, b < 0 → a ≠ b → (TX7 a).2.1 ≠ (TX7 b).2.1 := by decide +kernel
theorem tyX7_ok : ∀ k, k < 0 → parseFieldDescriptor (TX7 k).2.2.1 = some (tyX7 k) := by decide +kernel
abbrev cX7_of : ByteArray := prog_9_method_2_code
def yX7_of : MethodName := ⟨RX7, "of", "(I)J"⟩
abbrev cX7_has : ByteArray := prog_9_method_3_code
def yX7_has : MethodName := ⟨RX7, "has", "(JI)Z"⟩
abbrev cX7_least : ByteArray := prog_9_method_4_code
def yX7_least : MethodName := ⟨RX7, "least", "(J)I"⟩
abbrev cX7_stepped : ByteArray := prog_9_method_5_code
def yX7_stepped : MethodName := ⟨RX7, "stepped", "(JI)J"⟩
abbrev cX7_around : ByteArray := prog_9_method_6_code
def yX7_around : MethodName := ⟨RX7, "around", "(J)J"⟩
abbrev cX7_grown : ByteArray := prog_9_method_7_code
def yX7_grown : MethodName := ⟨RX7, "grown", "(JJ)J"⟩
abbrev cX7_beside : ByteArray := prog_9_method_8_code
def yX7_beside : MethodName := ⟨RX7, "beside", "(II)I"⟩
def RX8 : String := "CarpetLands$Sheet"
def TX8 : u_T := fun k => match k with
  | 0 => ("CarpetLands$Sheet", "numbers", "[I", true)
  | 1 => ("CarpetLands$Sheet", "bits", "I", false)
  | _ => ("CarpetLands$Sheet", "length", "I", false)
def tyX8 : Nat → FieldType := fun k => match k with
  | 0 => .array .int
  | 1 => .int
  | _ => .int
abbrev wsX80 : List Cond := u_ws RX8 TX8 3
theorem nmX8 : ∀ a, a < 3 → ∀ b, b < 3 → a ≠ b → (TX8 a).2.1 ≠ (TX8 b).2.1 := by decide +kernel
theorem tyX8_ok : ∀ k, k < 3 → parseFieldDescriptor (TX8 k).2.2.1 = some (tyX8 k) := by decide +kernel
abbrev cX8_init : ByteArray := prog_10_method_1_code
def yX8_init : MethodName := ⟨RX8, "<init>", "()V"⟩
abbrev cX8_make : ByteArray := prog_10_method_2_code
def yX8_make : MethodName := ⟨RX8, "make", "(II)V"⟩
abbrev cX8_isMissing : ByteArray := prog_10_method_3_code
def yX8_isMissing : MethodName := ⟨RX8, "isMissing", "()Z"⟩
abbrev cX8_has : ByteArray := prog_10_method_4_code
def yX8_has : MethodName := ⟨RX8, "has", "(I)Z"⟩
abbrev cX8_hasAll : ByteArray := prog_10_method_5_code
def yX8_hasAll : MethodName := ⟨RX8, "hasAll", "(II)Z"⟩
abbrev cX8_get : ByteArray := prog_10_method_6_code
def yX8_get : MethodName := ⟨RX8, "get", "(I)I"⟩
abbrev cX8_set : ByteArray := prog_10_method_7_code
def yX8_set : MethodName := ⟨RX8, "set", "(II)V"⟩
abbrev cX8_isCarpet : ByteArray := prog_10_method_8_code
def yX8_isCarpet : MethodName := ⟨RX8, "isCarpet", "()Z"⟩
def RX9 : String := "CarpetLands$Voice"
def TX9 : u_T := fun k => match k with
  | 0 => ("CarpetLands$Voice", "bodies", "LCarpetLands$Row;", true)
  | 1 => ("CarpetLands$Voice", "kind", "I", false)
  | 2 => ("CarpetLands$Voice", "n", "I", false)
  | _ => ("CarpetLands$Voice", "m", "I", false)
def tyX9 : Nat → FieldType := fun k => match k with
  | 0 => .object "CarpetLands$Row"
  | 1 => .int
  | 2 => .int
  | _ => .int
abbrev wsX90 : List Cond := u_ws RX9 TX9 4
theorem nmX9 : ∀ a, a < 4 → ∀ b, b < 4 → a ≠ b → (TX9 a).2.1 ≠ (TX9 b).2.1 := by decide +kernel
theorem tyX9_ok : ∀ k, k < 4 → parseFieldDescriptor (TX9 k).2.2.1 = some (tyX9 k) := by decide +kernel
abbrev cX9_init : ByteArray := prog_11_method_1_code
def yX9_init : MethodName := ⟨RX9, "<init>", "()V"⟩
abbrev cX9_speak : ByteArray := prog_11_method_2_code
def yX9_speak : MethodName := ⟨RX9, "speak", "(LCarpetLands$Walker;III)I"⟩
abbrev cX9_bodyOf : ByteArray := prog_11_method_3_code
def yX9_bodyOf : MethodName := ⟨RX9, "bodyOf", "(II)I"⟩
abbrev cX9_say : ByteArray := prog_11_method_4_code
def yX9_say : MethodName := ⟨RX9, "say", "(IIII)I"⟩
def RX10 : String := "CarpetLands$Walker"
def TX10 : u_T := fun k => match k with
  | 0 => ("CarpetLands$Walker", "kind", "I", false)
  | 1 => ("CarpetLands$Walker", "m", "I", false)
  | 2 => ("CarpetLands$Walker", "at", "I", false)
  | _ => ("CarpetLands$Walker", "way", "I", false)
def tyX10 : Nat → FieldType := fun k => match k with
  | 0 => .int
  | 1 => .int
  | 2 => .int
  | _ => .int
abbrev wsX100 : List Cond := u_ws RX10 TX10 4
theorem nmX10 : ∀ a, a < 4 → ∀ b, b < 4 → a ≠ b → (TX10 a).2.1 ≠ (TX10 b).2.1 := by decide +kernel
theorem tyX10_ok : ∀ k, k < 4 → parseFieldDescriptor (TX10 k).2.2.1 = some (tyX10 k) := by decide +kernel
abbrev cX10_init : ByteArray := prog_12_method_1_code
def yX10_init : MethodName := ⟨RX10, "<init>", "()V"⟩
abbrev cX10_copyFrom : ByteArray := prog_12_method_2_code
def yX10_copyFrom : MethodName := ⟨RX10, "copyFrom", "(LCarpetLands$Walker;)V"⟩
abbrev cX10_kindAbove : ByteArray := prog_12_method_3_code
def yX10_kindAbove : MethodName := ⟨RX10, "kindAbove", "(I)I"⟩
abbrev cX10_isOf : ByteArray := prog_12_method_4_code
def yX10_isOf : MethodName := ⟨RX10, "isOf", "(I)Z"⟩
abbrev cX10_wearing : ByteArray := prog_12_method_5_code
def yX10_wearing : MethodName := ⟨RX10, "wearing", "()I"⟩
abbrev cX10_wouldEat : ByteArray := prog_12_method_6_code
def yX10_wouldEat : MethodName := ⟨RX10, "wouldEat", "(LCarpetLands$Carpet;)Z"⟩
abbrev cX10_step : ByteArray := prog_12_method_7_code
def yX10_step : MethodName := ⟨RX10, "step", "(LCarpetLands$Carpet;I)V"⟩
abbrev cX10_stepAsWalker : ByteArray := prog_12_method_8_code
def yX10_stepAsWalker : MethodName := ⟨RX10, "stepAsWalker", "()V"⟩
abbrev cX10_stepAsCat : ByteArray := prog_12_method_9_code
def yX10_stepAsCat : MethodName := ⟨RX10, "stepAsCat", "(LCarpetLands$Carpet;)V"⟩
abbrev cX10_turned : ByteArray := prog_12_method_10_code
def yX10_turned : MethodName := ⟨RX10, "turned", "(I)I"⟩
abbrev cX10_stepAsMoth : ByteArray := prog_12_method_11_code
def yX10_stepAsMoth : MethodName := ⟨RX10, "stepAsMoth", "(LCarpetLands$Carpet;)V"⟩
abbrev cX10_go : ByteArray := prog_12_method_12_code
def yX10_go : MethodName := ⟨RX10, "go", "(I)V"⟩
def RX11 : String := "CarpetLands"
def TX11 : u_T := fun k => match k with
  | 0 => ("CarpetLands", "now", "LCarpetLands$Country;", true)
  | 1 => ("CarpetLands", "kept", "LCarpetLands$Country;", true)
  | 2 => ("CarpetLands", "thought", "LCarpetLands$Country;", true)
  | 3 => ("CarpetLands", "reader", "LCarpetLands$Reader;", true)
  | 4 => ("CarpetLands", "speaker", "LCarpetLands$Voice;", true)
  | 5 => ("CarpetLands", "roads", "LCarpetLands$Roads;", true)
  | 6 => ("CarpetLands", "dyeing", "LCarpetLands$Dyeing;", true)
  | 7 => ("CarpetLands", "sheets", "[LCarpetLands$Sheet;", true)
  | 8 => ("CarpetLands", "refused", "[I", true)
  | _ => ("CarpetLands", "images", "I", false)
def tyX11 : Nat → FieldType := fun k => match k with
  | 0 => .object "CarpetLands$Country"
  | 1 => .object "CarpetLands$Country"
  | 2 => .object "CarpetLands$Country"
  | 3 => .object "CarpetLands$Reader"
  | 4 => .object "CarpetLands$Voice"
  | 5 => .object "CarpetLands$Roads"
  | 6 => .object "CarpetLands$Dyeing"
  | 7 => .array (.object "CarpetLands$Sheet")
  | 8 => .array .int
  | _ => .int
abbrev wsX110 : List Cond := u_ws RX11 TX11 10
theorem nmX11 : ∀ a, a < 10 → ∀ b, b < 10 → a ≠ b → (TX11 a).2.1 ≠ (TX11 b).2.1 := by decide +kernel
theorem tyX11_ok : ∀ k, k < 10 → parseFieldDescriptor (TX11 k).2.2.1 = some (tyX11 k) := by decide +kernel
abbrev cX11_init : ByteArray := prog_1_method_1_code
def yX11_init : MethodName := ⟨RX11, "<init>", "()V"⟩
abbrev cX11_knot : ByteArray := prog_1_method_2_code
def yX11_knot : MethodName := ⟨RX11, "knot", "(III)I"⟩
abbrev cX11_ofKnot : ByteArray := prog_1_method_3_code
def yX11_ofKnot : MethodName := ⟨RX11, "ofKnot", "(II)I"⟩
abbrev cX11_weave : ByteArray := prog_1_method_4_code
def yX11_weave : MethodName := ⟨RX11, "weave", "()I"⟩
abbrev cX11_mend : ByteArray := prog_1_method_5_code
def yX11_mend : MethodName := ⟨RX11, "mend", "()I"⟩
abbrev cX11_walker : ByteArray := prog_1_method_6_code
def yX11_walker : MethodName := ⟨RX11, "walker", "(II)I"⟩
abbrev cX11_ofWalker : ByteArray := prog_1_method_7_code
def yX11_ofWalker : MethodName := ⟨RX11, "ofWalker", "(II)I"⟩
abbrev cX11_put : ByteArray := prog_1_method_8_code
def yX11_put : MethodName := ⟨RX11, "put", "(III)I"⟩
abbrev cX11_become : ByteArray := prog_1_method_9_code
def yX11_become : MethodName := ⟨RX11, "become", "(II)I"⟩
abbrev cX11_as : ByteArray := prog_1_method_10_code
def yX11_as : MethodName := ⟨RX11, "as", "(II)I"⟩
abbrev cX11_feed : ByteArray := prog_1_method_11_code
def yX11_feed : MethodName := ⟨RX11, "feed", "(JI)I"⟩
abbrev cX11_text : ByteArray := prog_1_method_12_code
def yX11_text : MethodName := ⟨RX11, "text", "(I)I"⟩
abbrev cX11_law : ByteArray := prog_1_method_13_code
def yX11_law : MethodName := ⟨RX11, "law", "(IIII)I"⟩
abbrev cX11_days : ByteArray := prog_1_method_14_code
def yX11_days : MethodName := ⟨RX11, "days", "(I)I"⟩
abbrev cX11_loose : ByteArray := prog_1_method_15_code
def yX11_loose : MethodName := ⟨RX11, "loose", "(I)I"⟩
abbrev cX11_lands : ByteArray := prog_1_method_16_code
def yX11_lands : MethodName := ⟨RX11, "lands", "(I)I"⟩
abbrev cX11_greatest : ByteArray := prog_1_method_17_code
def yX11_greatest : MethodName := ⟨RX11, "greatest", "(I)I"⟩
abbrev cX11_nextTo : ByteArray := prog_1_method_18_code
def yX11_nextTo : MethodName := ⟨RX11, "nextTo", "(I)I"⟩
abbrev cX11_frontier : ByteArray := prog_1_method_19_code
def yX11_frontier : MethodName := ⟨RX11, "frontier", "(II)I"⟩
abbrev cX11_slips : ByteArray := prog_1_method_20_code
def yX11_slips : MethodName := ⟨RX11, "slips", "()I"⟩
abbrev cX11_mends : ByteArray := prog_1_method_21_code
def yX11_mends : MethodName := ⟨RX11, "mends", "(I)I"⟩
abbrev cX11_again : ByteArray := prog_1_method_22_code
def yX11_again : MethodName := ⟨RX11, "again", "(I)I"⟩
abbrev cX11_stays : ByteArray := prog_1_method_23_code
def yX11_stays : MethodName := ⟨RX11, "stays", "()I"⟩
abbrev cX11_road : ByteArray := prog_1_method_24_code
def yX11_road : MethodName := ⟨RX11, "road", "(III)I"⟩
abbrev cX11_fits : ByteArray := prog_1_method_25_code
def yX11_fits : MethodName := ⟨RX11, "fits", "(III)I"⟩
abbrev cX11_layings : ByteArray := prog_1_method_26_code
def yX11_layings : MethodName := ⟨RX11, "layings", "(II)I"⟩
abbrev cX11_cut : ByteArray := prog_1_method_27_code
def yX11_cut : MethodName := ⟨RX11, "cut", "(I)I"⟩
abbrev cX11_dyed : ByteArray := prog_1_method_28_code
def yX11_dyed : MethodName := ⟨RX11, "dyed", "(III)I"⟩
abbrev cX11_then : ByteArray := prog_1_method_29_code
def yX11_then : MethodName := ⟨RX11, "then", "(III)I"⟩
abbrev cX11_seed : ByteArray := prog_1_method_30_code
def yX11_seed : MethodName := ⟨RX11, "seed", "(I)I"⟩
abbrev cX11_voice : ByteArray := prog_1_method_31_code
def yX11_voice : MethodName := ⟨RX11, "voice", "(III)I"⟩
abbrev cX11_trace : ByteArray := prog_1_method_32_code
def yX11_trace : MethodName := ⟨RX11, "trace", "(I)I"⟩
abbrev cX11_sheet : ByteArray := prog_1_method_33_code
def yX11_sheet : MethodName := ⟨RX11, "sheet", "(III)I"⟩
abbrev cX11_write : ByteArray := prog_1_method_34_code
def yX11_write : MethodName := ⟨RX11, "write", "(III)I"⟩
abbrev cX11_move : ByteArray := prog_1_method_35_code
def yX11_move : MethodName := ⟨RX11, "move", "(IIIII)I"⟩
abbrev cX11_colours : ByteArray := prog_1_method_36_code
def yX11_colours : MethodName := ⟨RX11, "colours", "(I)I"⟩
abbrev cX11_judge : ByteArray := prog_1_method_37_code
def yX11_judge : MethodName := ⟨RX11, "judge", "(I)I"⟩
abbrev cX11_image : ByteArray := prog_1_method_38_code
def yX11_image : MethodName := ⟨RX11, "image", "()I"⟩
abbrev cX11_restore : ByteArray := prog_1_method_39_code
def yX11_restore : MethodName := ⟨RX11, "restore", "()I"⟩
abbrev cX11_tell : ByteArray := prog_1_method_40_code
def yX11_tell : MethodName := ⟨RX11, "tell", "(I)I"⟩
abbrev cX11_check : ByteArray := prog_1_method_41_code
def yX11_check : MethodName := ⟨RX11, "check", "()I"⟩
abbrev cX11_count : ByteArray := prog_1_method_42_code
def yX11_count : MethodName := ⟨RX11, "count", "(I)I"⟩
abbrev cX11_told : ByteArray := prog_1_method_43_code
def yX11_told : MethodName := ⟨RX11, "told", "(I)I"⟩
abbrev cX11_refuse : ByteArray := prog_1_method_44_code
def yX11_refuse : MethodName := ⟨RX11, "refuse", "(I)I"⟩
abbrev cX11_sheetOf : ByteArray := prog_1_method_45_code
def yX11_sheetOf : MethodName := ⟨RX11, "sheetOf", "(I)LCarpetLands$Sheet;"⟩
abbrev cX11_isWithin : ByteArray := prog_1_method_46_code
def yX11_isWithin : MethodName := ⟨RX11, "isWithin", "(III)Z"⟩
abbrev cX11_isKnot : ByteArray := prog_1_method_47_code
def yX11_isKnot : MethodName := ⟨RX11, "isKnot", "(I)Z"⟩
abbrev cX11_isColour : ByteArray := prog_1_method_48_code
def yX11_isColour : MethodName := ⟨RX11, "isColour", "(I)Z"⟩
abbrev cX11_isKindAndM : ByteArray := prog_1_method_49_code
def yX11_isKindAndM : MethodName := ⟨RX11, "isKindAndM", "(I)Z"⟩
abbrev cX11_isUse : ByteArray := prog_1_method_50_code
def yX11_isUse : MethodName := ⟨RX11, "isUse", "(I)Z"⟩
def RX12 : String := "CarpetLandsModel"
def TX12 : u_T := fun k => match k with
  | 0 => ("CarpetLandsModel", "d", "[I", true)
  | 1 => ("CarpetLandsModel", "kept", "[I", true)
  | 2 => ("CarpetLandsModel", "images", "I", false)
  | 3 => ("CarpetLandsModel", "found", "[I", true)
  | 4 => ("CarpetLandsModel", "aside", "[I", true)
  | 5 => ("CarpetLandsModel", "base", "I", false)
  | 6 => ("CarpetLandsModel", "at", "I", false)
  | 7 => ("CarpetLandsModel", "size", "I", false)
  | 8 => ("CarpetLandsModel", "fault", "I", false)
  | 9 => ("CarpetLandsModel", "opened", "I", false)
  | 10 => ("CarpetLandsModel", "isWorth", "Z", false)
  | 11 => ("CarpetLandsModel", "names", "[I", true)
  | 12 => ("CarpetLandsModel", "spread", "[I", true)
  | 13 => ("CarpetLandsModel", "spreadMany", "I", false)
  | 14 => ("CarpetLandsModel", "isSpread", "[Z", true)
  | 15 => ("CarpetLandsModel", "landMany", "I", false)
  | 16 => ("CarpetLandsModel", "landMost", "I", false)
  | 17 => ("CarpetLandsModel", "landKnot", "I", false)
  | 18 => ("CarpetLandsModel", "queue", "[I", true)
  | 19 => ("CarpetLandsModel", "far", "[I", true)
  | 20 => ("CarpetLandsModel", "traced", "[I", true)
  | 21 => ("CarpetLandsModel", "traceMany", "I", false)
  | 22 => ("CarpetLandsModel", "who", "I", false)
  | 23 => ("CarpetLandsModel", "bitsOf", "[I", true)
  | 24 => ("CarpetLandsModel", "sizeOf", "[I", true)
  | 25 => ("CarpetLandsModel", "number", "[I", true)
  | _ => ("CarpetLandsModel", "lifted", "[I", true)
def tyX12 : Nat → FieldType := fun k => match k with
  | 0 => .array .int
  | 1 => .array .int
  | 2 => .int
  | 3 => .array .int
  | 4 => .array .int
  | 5 => .int
  | 6 => .int
  | 7 => .int
  | 8 => .int
  | 9 => .int
  | 10 => .boolean
  | 11 => .array .int
  | 12 => .array .int
  | 13 => .int
  | 14 => .array .boolean
  | 15 => .int
  | 16 => .int
  | 17 => .int
  | 18 => .array .int
  | 19 => .array .int
  | 20 => .array .int
  | 21 => .int
  | 22 => .int
  | 23 => .array .int
  | 24 => .array .int
  | 25 => .array .int
  | _ => .array .int
abbrev wsX120 : List Cond := u_ws RX12 TX12 27
theorem nmX12 : ∀ a, a < 27 → ∀ b, b < 27 → a ≠ b → (TX12 a).2.1 ≠ (TX12 b).2.1 := by decide +kernel
theorem tyX12_ok : ∀ k, k < 27 → parseFieldDescriptor (TX12 k).2.2.1 = some (tyX12 k) := by decide +kernel
abbrev cX12_init : ByteArray := prog_14_method_1_code
def yX12_init : MethodName := ⟨RX12, "<init>", "()V"⟩
abbrev cX12_finds : ByteArray := prog_14_method_3_code
def yX12_finds : MethodName := ⟨RX12, "finds", "(I)I"⟩
abbrev cX12_in : ByteArray := prog_14_method_4_code
def yX12_in : MethodName := ⟨RX12, "in", "(JJJ)Z"⟩
abbrev cX12_held : ByteArray := prog_14_method_5_code
def yX12_held : MethodName := ⟨RX12, "held", "(III)I"⟩
abbrev cX12_isKnot : ByteArray := prog_14_method_6_code
def yX12_isKnot : MethodName := ⟨RX12, "isKnot", "(I)Z"⟩
abbrev cX12_isWalker : ByteArray := prog_14_method_7_code
def yX12_isWalker : MethodName := ⟨RX12, "isWalker", "(I)Z"⟩
abbrev cX12_of : ByteArray := prog_14_method_8_code
def yX12_of : MethodName := ⟨RX12, "of", "(II)I"⟩
abbrev cX12_sets : ByteArray := prog_14_method_9_code
def yX12_sets : MethodName := ⟨RX12, "sets", "(III)V"⟩
abbrev cX12_keepAside : ByteArray := prog_14_method_10_code
def yX12_keepAside : MethodName := ⟨RX12, "keepAside", "()V"⟩
abbrev cX12_putBack : ByteArray := prog_14_method_11_code
def yX12_putBack : MethodName := ⟨RX12, "putBack", "()V"⟩
abbrev cX12_here : ByteArray := prog_14_method_12_code
def yX12_here : MethodName := ⟨RX12, "here", "()I"⟩
abbrev cX12_wrong : ByteArray := prog_14_method_13_code
def yX12_wrong : MethodName := ⟨RX12, "wrong", "()I"⟩
abbrev cX12_takes : ByteArray := prog_14_method_14_code
def yX12_takes : MethodName := ⟨RX12, "takes", "(I)Z"⟩
abbrev cX12_nameOf : ByteArray := prog_14_method_15_code
def yX12_nameOf : MethodName := ⟨RX12, "nameOf", "(I)I"⟩
abbrev cX12_either : ByteArray := prog_14_method_16_code
def yX12_either : MethodName := ⟨RX12, "either", "()I"⟩
abbrev cX12_both : ByteArray := prog_14_method_17_code
def yX12_both : MethodName := ⟨RX12, "both", "()I"⟩
abbrev cX12_compared : ByteArray := prog_14_method_18_code
def yX12_compared : MethodName := ⟨RX12, "compared", "()I"⟩
abbrev cX12_sum : ByteArray := prog_14_method_19_code
def yX12_sum : MethodName := ⟨RX12, "sum", "()I"⟩
abbrev cX12_product : ByteArray := prog_14_method_20_code
def yX12_product : MethodName := ⟨RX12, "product", "()I"⟩
abbrev cX12_unit : ByteArray := prog_14_method_21_code
def yX12_unit : MethodName := ⟨RX12, "unit", "()I"⟩
abbrev cX12_worked : ByteArray := prog_14_method_22_code
def yX12_worked : MethodName := ⟨RX12, "worked", "(III)I"⟩
abbrev cX12_feed : ByteArray := prog_14_method_23_code
def yX12_feed : MethodName := ⟨RX12, "feed", "(JI)I"⟩
abbrev cX12_text : ByteArray := prog_14_method_24_code
def yX12_text : MethodName := ⟨RX12, "text", "(I)I"⟩
abbrev cX12_textGives : ByteArray := prog_14_method_25_code
def yX12_textGives : MethodName := ⟨RX12, "textGives", "(IIII)I"⟩
abbrev cX12_law : ByteArray := prog_14_method_26_code
def yX12_law : MethodName := ⟨RX12, "law", "(IIII)I"⟩
abbrev cX12_patternOf : ByteArray := prog_14_method_27_code
def yX12_patternOf : MethodName := ⟨RX12, "patternOf", "(I)I"⟩
abbrev cX12_worthOf : ByteArray := prog_14_method_28_code
def yX12_worthOf : MethodName := ⟨RX12, "worthOf", "(I)I"⟩
abbrev cX12_beside : ByteArray := prog_14_method_29_code
def yX12_beside : MethodName := ⟨RX12, "beside", "(II)I"⟩
abbrev cX12_knot : ByteArray := prog_14_method_30_code
def yX12_knot : MethodName := ⟨RX12, "knot", "(III)I"⟩
abbrev cX12_spreads : ByteArray := prog_14_method_31_code
def yX12_spreads : MethodName := ⟨RX12, "spreads", "(I)V"⟩
abbrev cX12_leastSpread : ByteArray := prog_14_method_32_code
def yX12_leastSpread : MethodName := ⟨RX12, "leastSpread", "()I"⟩
abbrev cX12_ofKnot : ByteArray := prog_14_method_33_code
def yX12_ofKnot : MethodName := ⟨RX12, "ofKnot", "(II)I"⟩
abbrev cX12_slips : ByteArray := prog_14_method_34_code
def yX12_slips : MethodName := ⟨RX12, "slips", "()I"⟩
abbrev cX12_weave : ByteArray := prog_14_method_35_code
def yX12_weave : MethodName := ⟨RX12, "weave", "()I"⟩
abbrev cX12_holes : ByteArray := prog_14_method_36_code
def yX12_holes : MethodName := ⟨RX12, "holes", "()I"⟩
abbrev cX12_mend : ByteArray := prog_14_method_37_code
def yX12_mend : MethodName := ⟨RX12, "mend", "()I"⟩
abbrev cX12_mends : ByteArray := prog_14_method_38_code
def yX12_mends : MethodName := ⟨RX12, "mends", "(I)I"⟩
abbrev cX12_wearsOf : ByteArray := prog_14_method_39_code
def yX12_wearsOf : MethodName := ⟨RX12, "wearsOf", "(I)I"⟩
abbrev cX12_eats : ByteArray := prog_14_method_40_code
def yX12_eats : MethodName := ⟨RX12, "eats", "(I)Z"⟩
abbrev cX12_walker : ByteArray := prog_14_method_41_code
def yX12_walker : MethodName := ⟨RX12, "walker", "(II)I"⟩
abbrev cX12_ofWalker : ByteArray := prog_14_method_42_code
def yX12_ofWalker : MethodName := ⟨RX12, "ofWalker", "(II)I"⟩
abbrev cX12_put : ByteArray := prog_14_method_43_code
def yX12_put : MethodName := ⟨RX12, "put", "(III)I"⟩
abbrev cX12_become : ByteArray := prog_14_method_44_code
def yX12_become : MethodName := ⟨RX12, "become", "(II)I"⟩
abbrev cX12_above : ByteArray := prog_14_method_45_code
def yX12_above : MethodName := ⟨RX12, "above", "(I)I"⟩
abbrev cX12_as : ByteArray := prog_14_method_46_code
def yX12_as : MethodName := ⟨RX12, "as", "(II)I"⟩
abbrev cX12_goes : ByteArray := prog_14_method_47_code
def yX12_goes : MethodName := ⟨RX12, "goes", "(II)V"⟩
abbrev cX12_plainStep : ByteArray := prog_14_method_48_code
def yX12_plainStep : MethodName := ⟨RX12, "plainStep", "(I)V"⟩
abbrev cX12_catStep : ByteArray := prog_14_method_49_code
def yX12_catStep : MethodName := ⟨RX12, "catStep", "(I)V"⟩
abbrev cX12_mothStep : ByteArray := prog_14_method_50_code
def yX12_mothStep : MethodName := ⟨RX12, "mothStep", "(I)V"⟩
abbrev cX12_steps : ByteArray := prog_14_method_51_code
def yX12_steps : MethodName := ⟨RX12, "steps", "(I)V"⟩
abbrev cX12_dayGoes : ByteArray := prog_14_method_52_code
def yX12_dayGoes : MethodName := ⟨RX12, "dayGoes", "()V"⟩
abbrev cX12_days : ByteArray := prog_14_method_53_code
def yX12_days : MethodName := ⟨RX12, "days", "(I)I"⟩
abbrev cX12_drawn : ByteArray := prog_14_method_54_code
def yX12_drawn : MethodName := ⟨RX12, "drawn", "()I"⟩
abbrev cX12_loose : ByteArray := prog_14_method_55_code
def yX12_loose : MethodName := ⟨RX12, "loose", "(I)I"⟩
abbrev cX12_then : ByteArray := prog_14_method_56_code
def yX12_then : MethodName := ⟨RX12, "then", "(III)I"⟩
abbrev cX12_findLands : ByteArray := prog_14_method_57_code
def yX12_findLands : MethodName := ⟨RX12, "findLands", "(I)V"⟩
abbrev cX12_lands : ByteArray := prog_14_method_58_code
def yX12_lands : MethodName := ⟨RX12, "lands", "(I)I"⟩
abbrev cX12_greatest : ByteArray := prog_14_method_59_code
def yX12_greatest : MethodName := ⟨RX12, "greatest", "(I)I"⟩
abbrev cX12_nextTo : ByteArray := prog_14_method_60_code
def yX12_nextTo : MethodName := ⟨RX12, "nextTo", "(I)I"⟩
abbrev cX12_frontier : ByteArray := prog_14_method_61_code
def yX12_frontier : MethodName := ⟨RX12, "frontier", "(II)I"⟩
abbrev cX12_agree : ByteArray := prog_14_method_62_code
def yX12_agree : MethodName := ⟨RX12, "agree", "(II)Z"⟩
abbrev cX12_comesBy : ByteArray := prog_14_method_63_code
def yX12_comesBy : MethodName := ⟨RX12, "comesBy", "(II)Z"⟩
abbrev cX12_again : ByteArray := prog_14_method_64_code
def yX12_again : MethodName := ⟨RX12, "again", "(I)I"⟩
abbrev cX12_turned : ByteArray := prog_14_method_65_code
def yX12_turned : MethodName := ⟨RX12, "turned", "(II)I"⟩
abbrev cX12_stays : ByteArray := prog_14_method_66_code
def yX12_stays : MethodName := ⟨RX12, "stays", "()I"⟩
abbrev cX12_isOf : ByteArray := prog_14_method_67_code
def yX12_isOf : MethodName := ⟨RX12, "isOf", "(II)Z"⟩
abbrev cX12_road : ByteArray := prog_14_method_68_code
def yX12_road : MethodName := ⟨RX12, "road", "(III)I"⟩
abbrev cX12_isCarpet : ByteArray := prog_14_method_69_code
def yX12_isCarpet : MethodName := ⟨RX12, "isCarpet", "(I)Z"⟩
abbrev cX12_isFit : ByteArray := prog_14_method_70_code
def yX12_isFit : MethodName := ⟨RX12, "isFit", "(III)Z"⟩
abbrev cX12_fits : ByteArray := prog_14_method_71_code
def yX12_fits : MethodName := ⟨RX12, "fits", "(III)I"⟩
abbrev cX12_layings : ByteArray := prog_14_method_72_code
def yX12_layings : MethodName := ⟨RX12, "layings", "(II)I"⟩
abbrev cX12_cut : ByteArray := prog_14_method_73_code
def yX12_cut : MethodName := ⟨RX12, "cut", "(I)I"⟩
abbrev cX12_floods : ByteArray := prog_14_method_74_code
def yX12_floods : MethodName := ⟨RX12, "floods", "(II)V"⟩
abbrev cX12_dyed : ByteArray := prog_14_method_75_code
def yX12_dyed : MethodName := ⟨RX12, "dyed", "(III)I"⟩
abbrev cX12_seed : ByteArray := prog_14_method_76_code
def yX12_seed : MethodName := ⟨RX12, "seed", "(I)I"⟩
abbrev cX12_ran : ByteArray := prog_14_method_77_code
def yX12_ran : MethodName := ⟨RX12, "ran", "(I)V"⟩
abbrev cX12_own : ByteArray := prog_14_method_78_code
def yX12_own : MethodName := ⟨RX12, "own", "()I"⟩
abbrev cX12_walksBy : ByteArray := prog_14_method_79_code
def yX12_walksBy : MethodName := ⟨RX12, "walksBy", "(II)I"⟩
abbrev cX12_wearsBy : ByteArray := prog_14_method_80_code
def yX12_wearsBy : MethodName := ⟨RX12, "wearsBy", "(II)I"⟩
abbrev cX12_eatsBy : ByteArray := prog_14_method_81_code
def yX12_eatsBy : MethodName := ⟨RX12, "eatsBy", "(II)I"⟩
abbrev cX12_tellsBy : ByteArray := prog_14_method_82_code
def yX12_tellsBy : MethodName := ⟨RX12, "tellsBy", "(II)I"⟩
abbrev cX12_voice : ByteArray := prog_14_method_83_code
def yX12_voice : MethodName := ⟨RX12, "voice", "(III)I"⟩
abbrev cX12_trace : ByteArray := prog_14_method_84_code
def yX12_trace : MethodName := ⟨RX12, "trace", "(I)I"⟩
abbrev cX12_isSheet : ByteArray := prog_14_method_85_code
def yX12_isSheet : MethodName := ⟨RX12, "isSheet", "(I)Z"⟩
abbrev cX12_sheet : ByteArray := prog_14_method_86_code
def yX12_sheet : MethodName := ⟨RX12, "sheet", "(III)I"⟩
abbrev cX12_write : ByteArray := prog_14_method_87_code
def yX12_write : MethodName := ⟨RX12, "write", "(III)I"⟩
abbrev cX12_move : ByteArray := prog_14_method_88_code
def yX12_move : MethodName := ⟨RX12, "move", "(IIIII)I"⟩
abbrev cX12_colours : ByteArray := prog_14_method_89_code
def yX12_colours : MethodName := ⟨RX12, "colours", "(I)I"⟩
abbrev cX12_judge : ByteArray := prog_14_method_90_code
def yX12_judge : MethodName := ⟨RX12, "judge", "(I)I"⟩
abbrev cX12_image : ByteArray := prog_14_method_91_code
def yX12_image : MethodName := ⟨RX12, "image", "()I"⟩
abbrev cX12_restore : ByteArray := prog_14_method_92_code
def yX12_restore : MethodName := ⟨RX12, "restore", "()I"⟩
abbrev cX12_tell : ByteArray := prog_14_method_93_code
def yX12_tell : MethodName := ⟨RX12, "tell", "(I)I"⟩
abbrev cX12_check : ByteArray := prog_14_method_94_code
def yX12_check : MethodName := ⟨RX12, "check", "()I"⟩
abbrev cX12_count : ByteArray := prog_14_method_95_code
def yX12_count : MethodName := ⟨RX12, "count", "(I)I"⟩
abbrev cX12_told : ByteArray := prog_14_method_96_code
def yX12_told : MethodName := ⟨RX12, "told", "(I)I"⟩
def RJ11 : String := "java/lang/Character"
def TJ11 : u_T := fun k => match k with
  | _ => ("", "", "", false)
def tyJ11 : Nat → FieldType := fun k => match k with
  | _ => .int
abbrev wsJ110 : List Cond := u_ws RJ11 TJ11 0
theorem nmJ11 : ∀ a, a < 0 → ∀ b, b < 0 → a ≠ b → (TJ11 a).2.1 ≠ (TJ11 b).2.1 := by decide +kernel
theorem tyJ11_ok : ∀ k, k < 0 → parseFieldDescriptor (TJ11 k).2.2.1 = some (tyJ11 k) := by decide +kernel
abbrev cJ11_isValidCodePoint_9a6ad : ByteArray := prog_15_method_11_code
def yJ11_isValidCodePoint_9a6ad : MethodName := ⟨RJ11, "isValidCodePoint", "(I)Z"⟩
abbrev cJ11_highSurrogate_5068e : ByteArray := prog_15_method_28_code
def yJ11_highSurrogate_5068e : MethodName := ⟨RJ11, "highSurrogate", "(I)C"⟩
abbrev cJ11_lowSurrogate_5068e : ByteArray := prog_15_method_29_code
def yJ11_lowSurrogate_5068e : MethodName := ⟨RJ11, "lowSurrogate", "(I)C"⟩
def RJ13 : String := "java/lang/Long"
def TJ13 : u_T := fun k => match k with
  | _ => ("", "", "", false)
def tyJ13 : Nat → FieldType := fun k => match k with
  | _ => .int
abbrev wsJ130 : List Cond := u_ws RJ13 TJ13 0
theorem nmJ13 : ∀ a, a < 0 → ∀ b, b < 0 → a ≠ b → (TJ13 a).2.1 ≠ (TJ13 b).2.1 := by decide +kernel
theorem tyJ13_ok : ∀ k, k < 0 → parseFieldDescriptor (TJ13 k).2.2.1 = some (tyJ13 k) := by decide +kernel
abbrev cJ13_bitCount_95d88 : ByteArray := prog_16_method_50_code
def yJ13_bitCount_95d88 : MethodName := ⟨RJ13, "bitCount", "(J)I"⟩
def RJ9 : String := "java/lang/Math"
def TJ9 : u_T := fun k => match k with
  | _ => ("", "", "", false)
def tyJ9 : Nat → FieldType := fun k => match k with
  | _ => .int
abbrev wsJ90 : List Cond := u_ws RJ9 TJ9 0
theorem nmJ9 : ∀ a, a < 0 → ∀ b, b < 0 → a ≠ b → (TJ9 a).2.1 ≠ (TJ9 b).2.1 := by decide +kernel
theorem tyJ9_ok : ∀ k, k < 0 → parseFieldDescriptor (TJ9 k).2.2.1 = some (tyJ9 k) := by decide +kernel
abbrev cJ9_floorMod_7cf53 : ByteArray := prog_17_method_50_code
def yJ9_floorMod_7cf53 : MethodName := ⟨RJ9, "floorMod", "(II)I"⟩
abbrev cJ9_abs_0f7a4 : ByteArray := prog_17_method_59_code
def yJ9_abs_0f7a4 : MethodName := ⟨RJ9, "abs", "(I)I"⟩
abbrev cJ9_max_7cf53 : ByteArray := prog_17_method_65_code
def yJ9_max_7cf53 : MethodName := ⟨RJ9, "max", "(II)I"⟩
abbrev cJ9_min_7cf53 : ByteArray := prog_17_method_69_code
def yJ9_min_7cf53 : MethodName := ⟨RJ9, "min", "(II)I"⟩
def RJ0 : String := "java/lang/String"
def TJ0 : u_T := fun k => match k with
  | _ => ("", "", "", false)
def tyJ0 : Nat → FieldType := fun k => match k with
  | _ => .int
abbrev wsJ00 : List Cond := u_ws RJ0 TJ0 0
theorem nmJ0 : ∀ a, a < 0 → ∀ b, b < 0 → a ≠ b → (TJ0 a).2.1 ≠ (TJ0 b).2.1 := by decide +kernel
theorem tyJ0_ok : ∀ k, k < 0 → parseFieldDescriptor (TJ0 k).2.2.1 = some (tyJ0 k) := by decide +kernel
abbrev cJ0_length_8abf5 : ByteArray := prog_18_method_54_code
def yJ0_length_8abf5 : MethodName := ⟨RJ0, "length", "()I"⟩
abbrev cJ0_indexOf_0f7a4 : ByteArray := prog_18_method_79_code
def yJ0_indexOf_0f7a4 : MethodName := ⟨RJ0, "indexOf", "(I)I"⟩
abbrev cJ0_indexOf_7cf53 : ByteArray := prog_18_method_80_code
def yJ0_indexOf_7cf53 : MethodName := ⟨RJ0, "indexOf", "(II)I"⟩
abbrev cJ0_coder_7d493 : ByteArray := prog_18_method_152_code
def yJ0_coder_7d493 : MethodName := ⟨RJ0, "coder", "()B"⟩
abbrev cJ0_isLatin1_aae02 : ByteArray := prog_18_method_154_code
def yJ0_isLatin1_aae02 : MethodName := ⟨RJ0, "isLatin1", "()Z"⟩
abbrev cJ0_checkBoundsBeginEnd_23922 : ByteArray := prog_18_method_158_code
def yJ0_checkBoundsBeginEnd_23922 : MethodName := ⟨RJ0, "checkBoundsBeginEnd", "(III)V"⟩
def RJ1 : String := "java/lang/StringLatin1"
def TJ1 : u_T := fun k => match k with
  | _ => ("", "", "", false)
def tyJ1 : Nat → FieldType := fun k => match k with
  | _ => .int
abbrev wsJ10 : List Cond := u_ws RJ1 TJ1 0
theorem nmJ1 : ∀ a, a < 0 → ∀ b, b < 0 → a ≠ b → (TJ1 a).2.1 ≠ (TJ1 b).2.1 := by decide +kernel
theorem tyJ1_ok : ∀ k, k < 0 → parseFieldDescriptor (TJ1 k).2.2.1 = some (tyJ1 k) := by decide +kernel
abbrev cJ1_canEncode_9a6ad : ByteArray := prog_19_method_4_code
def yJ1_canEncode_9a6ad : MethodName := ⟨RJ1, "canEncode", "(I)Z"⟩
abbrev cJ1_indexOf_4cfef : ByteArray := prog_19_method_22_code
def yJ1_indexOf_4cfef : MethodName := ⟨RJ1, "indexOf", "([BIII)I"⟩
abbrev cJ1_indexOfChar_4cfef : ByteArray := prog_19_method_23_code
def yJ1_indexOfChar_4cfef : MethodName := ⟨RJ1, "indexOfChar", "([BIII)I"⟩
def RJ2 : String := "java/lang/StringUTF16"
def TJ2 : u_T := fun k => match k with
  | _ => ("", "", "", false)
def tyJ2 : Nat → FieldType := fun k => match k with
  | _ => .int
abbrev wsJ20 : List Cond := u_ws RJ2 TJ2 0
theorem nmJ2 : ∀ a, a < 0 → ∀ b, b < 0 → a ≠ b → (TJ2 a).2.1 ≠ (TJ2 b).2.1 := by decide +kernel
theorem tyJ2_ok : ∀ k, k < 0 → parseFieldDescriptor (TJ2 k).2.2.1 = some (tyJ2 k) := by decide +kernel
abbrev cJ2_getChar_3b067 : ByteArray := prog_20_method_5_code
def yJ2_getChar_3b067 : MethodName := ⟨RJ2, "getChar", "([BI)C"⟩
abbrev cJ2_length_9d52b : ByteArray := prog_20_method_6_code
def yJ2_length_9d52b : MethodName := ⟨RJ2, "length", "([B)I"⟩
abbrev cJ2_indexOf_4cfef : ByteArray := prog_20_method_40_code
def yJ2_indexOf_4cfef : MethodName := ⟨RJ2, "indexOf", "([BIII)I"⟩
abbrev cJ2_indexOfChar_4cfef : ByteArray := prog_20_method_47_code
def yJ2_indexOfChar_4cfef : MethodName := ⟨RJ2, "indexOfChar", "([BIII)I"⟩
abbrev cJ2_indexOfCharUnsafe_4cfef : ByteArray := prog_20_method_48_code
def yJ2_indexOfCharUnsafe_4cfef : MethodName := ⟨RJ2, "indexOfCharUnsafe", "([BIII)I"⟩
abbrev cJ2_indexOfSupplementary_4cfef : ByteArray := prog_20_method_49_code
def yJ2_indexOfSupplementary_4cfef : MethodName := ⟨RJ2, "indexOfSupplementary", "([BIII)I"⟩
abbrev cJ2_checkBoundsBeginEnd_d044e : ByteArray := prog_20_method_93_code
def yJ2_checkBoundsBeginEnd_d044e : MethodName := ⟨RJ2, "checkBoundsBeginEnd", "(II[B)V"⟩
def RJ10 : String := "java/lang/System"
def TJ10 : u_T := fun k => match k with
  | _ => ("", "", "", false)
def tyJ10 : Nat → FieldType := fun k => match k with
  | _ => .int
abbrev wsJ100 : List Cond := u_ws RJ10 TJ10 0
theorem nmJ10 : ∀ a, a < 0 → ∀ b, b < 0 → a ≠ b → (TJ10 a).2.1 ≠ (TJ10 b).2.1 := by decide +kernel
theorem tyJ10_ok : ∀ k, k < 0 → parseFieldDescriptor (TJ10 k).2.2.1 = some (tyJ10 k) := by decide +kernel
def RJ3 : String := "jdk/internal/util/Preconditions"
def TJ3 : u_T := fun k => match k with
  | _ => ("", "", "", false)
def tyJ3 : Nat → FieldType := fun k => match k with
  | _ => .int
abbrev wsJ30 : List Cond := u_ws RJ3 TJ3 0
theorem nmJ3 : ∀ a, a < 0 → ∀ b, b < 0 → a ≠ b → (TJ3 a).2.1 ≠ (TJ3 b).2.1 := by decide +kernel
theorem tyJ3_ok : ∀ k, k < 0 → parseFieldDescriptor (TJ3 k).2.2.1 = some (tyJ3 k) := by decide +kernel
abbrev cJ3_checkFromToIndex_8c36e : ByteArray := prog_22_method_12_code
def yJ3_checkFromToIndex_8c36e : MethodName := ⟨RJ3, "checkFromToIndex", "(IIILjava/util/function/BiFunction;)I"⟩
def RL : String := "CarpetLandsLaw"
abbrev cL_law : ByteArray := code
def yL_law : MethodName := ⟨RL, "law", "([I)Z"⟩
abbrev vwCl : List vw_C := [(RX0, TX0, 2), (RX1, TX1, 9), (RX2, TX2, 4), (RX3, TX3, 2), (RX4, TX4, 5), (RX5, TX5, 3), (RX6, TX6, 2), (RX8, TX8, 3), (RX9, TX9, 4), (RX10, TX10, 4), (RX11, TX11, 10), (RX12, TX12, 27)]
