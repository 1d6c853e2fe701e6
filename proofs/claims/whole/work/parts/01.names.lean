-- ===== PART A: goes FIRST, ahead of the names: the tables' words, and 'selects' of the private methods out of them =====
/-- a private method of a class that the tables say can be made, by its rows of tables_1 -/
def lw_okq (q : MethodName × Nat) : Prop := (q.1.cls ≠ "java/lang/invoke/MethodHandle" ∧ q.1.cls ≠ "java/lang/invoke/VarHandle") ∧ Cond.instantiable q.1.cls q.2 ∈ tables_1 ∧ Cond.privateMethod q.1 ∈ tables_1 ∧ Cond.instanceMethod q.1 ∈ tables_1
theorem lw_p0 : lw_okq (⟨"OvenPairs$Town", "settleWish", "(II)V"⟩, 18) := ⟨⟨by decide +kernel, by decide +kernel⟩, List.mem_of_getElem? (i := 30) (by decide +kernel), List.mem_of_getElem? (i := 315) (by decide +kernel), List.mem_of_getElem? (i := 316) (by decide +kernel)⟩
theorem lw_p1 : lw_okq (⟨"OvenPairs$Town", "settleWills", "(I)V"⟩, 18) := ⟨⟨by decide +kernel, by decide +kernel⟩, List.mem_of_getElem? (i := 30) (by decide +kernel), List.mem_of_getElem? (i := 345) (by decide +kernel), List.mem_of_getElem? (i := 346) (by decide +kernel)⟩
theorem lw_p2 : lw_okq (⟨"OvenPairs$Rules", "holds", "(I[I)Z"⟩, 6) := ⟨⟨by decide +kernel, by decide +kernel⟩, List.mem_of_getElem? (i := 79) (by decide +kernel), List.mem_of_getElem? (i := 358) (by decide +kernel), List.mem_of_getElem? (i := 359) (by decide +kernel)⟩
theorem lw_p3 : lw_okq (⟨"OvenPairs$Rules", "compares", "(I[I)Z"⟩, 6) := ⟨⟨by decide +kernel, by decide +kernel⟩, List.mem_of_getElem? (i := 79) (by decide +kernel), List.mem_of_getElem? (i := 362) (by decide +kernel), List.mem_of_getElem? (i := 363) (by decide +kernel)⟩
theorem lw_p4 : lw_okq (⟨"OvenPairs", "isOven", "(I)Z"⟩, 13) := ⟨⟨by decide +kernel, by decide +kernel⟩, List.mem_of_getElem? (i := 22) (by decide +kernel), List.mem_of_getElem? (i := 373) (by decide +kernel), List.mem_of_getElem? (i := 374) (by decide +kernel)⟩
theorem lw_p5 : lw_okq (⟨"OvenPairs$RulesReader", "splitTape", "()V"⟩, 8) := ⟨⟨by decide +kernel, by decide +kernel⟩, List.mem_of_getElem? (i := 181) (by decide +kernel), List.mem_of_getElem? (i := 485) (by decide +kernel), List.mem_of_getElem? (i := 486) (by decide +kernel)⟩
theorem lw_p6 : lw_okq (⟨"OvenPairs$RulesReader", "wordEnd", "(I)I"⟩, 8) := ⟨⟨by decide +kernel, by decide +kernel⟩, List.mem_of_getElem? (i := 181) (by decide +kernel), List.mem_of_getElem? (i := 489) (by decide +kernel), List.mem_of_getElem? (i := 490) (by decide +kernel)⟩
theorem lw_p7 : lw_okq (⟨"OvenPairs$RulesReader", "codeOf", "(II)I"⟩, 8) := ⟨⟨by decide +kernel, by decide +kernel⟩, List.mem_of_getElem? (i := 181) (by decide +kernel), List.mem_of_getElem? (i := 499) (by decide +kernel), List.mem_of_getElem? (i := 500) (by decide +kernel)⟩
theorem lw_p8 : lw_okq (⟨"OvenPairs$RulesReader", "nameCode", "(II)I"⟩, 8) := ⟨⟨by decide +kernel, by decide +kernel⟩, List.mem_of_getElem? (i := 181) (by decide +kernel), List.mem_of_getElem? (i := 503) (by decide +kernel), List.mem_of_getElem? (i := 504) (by decide +kernel)⟩
theorem lw_p9 : lw_okq (⟨"OvenPairs$RulesReader", "isName", "(III)Z"⟩, 8) := ⟨⟨by decide +kernel, by decide +kernel⟩, List.mem_of_getElem? (i := 181) (by decide +kernel), List.mem_of_getElem? (i := 507) (by decide +kernel), List.mem_of_getElem? (i := 508) (by decide +kernel)⟩
theorem lw_p10 : lw_okq (⟨"OvenPairs$RulesReader", "numberOf", "(II)I"⟩, 8) := ⟨⟨by decide +kernel, by decide +kernel⟩, List.mem_of_getElem? (i := 181) (by decide +kernel), List.mem_of_getElem? (i := 552) (by decide +kernel), List.mem_of_getElem? (i := 553) (by decide +kernel)⟩
theorem lw_p11 : lw_okq (⟨"OvenPairs$RulesReader", "readRule", "(LOvenPairs$Rules;)Z"⟩, 8) := ⟨⟨by decide +kernel, by decide +kernel⟩, List.mem_of_getElem? (i := 181) (by decide +kernel), List.mem_of_getElem? (i := 559) (by decide +kernel), List.mem_of_getElem? (i := 560) (by decide +kernel)⟩
theorem lw_p12 : lw_okq (⟨"OvenPairs$RulesReader", "pass", "(II)Z"⟩, 8) := ⟨⟨by decide +kernel, by decide +kernel⟩, List.mem_of_getElem? (i := 181) (by decide +kernel), List.mem_of_getElem? (i := 563) (by decide +kernel), List.mem_of_getElem? (i := 564) (by decide +kernel)⟩
theorem lw_p13 : lw_okq (⟨"OvenPairs$RulesReader", "readCondition", "(LOvenPairs$Rules;I)Z"⟩, 8) := ⟨⟨by decide +kernel, by decide +kernel⟩, List.mem_of_getElem? (i := 181) (by decide +kernel), List.mem_of_getElem? (i := 567) (by decide +kernel), List.mem_of_getElem? (i := 568) (by decide +kernel)⟩
theorem lw_p14 : lw_okq (⟨"OvenPairs$RulesReader", "readAll", "(LOvenPairs$Rules;I)Z"⟩, 8) := ⟨⟨by decide +kernel, by decide +kernel⟩, List.mem_of_getElem? (i := 181) (by decide +kernel), List.mem_of_getElem? (i := 571) (by decide +kernel), List.mem_of_getElem? (i := 572) (by decide +kernel)⟩
theorem lw_p15 : lw_okq (⟨"OvenPairs$RulesReader", "readOne", "(LOvenPairs$Rules;I)Z"⟩, 8) := ⟨⟨by decide +kernel, by decide +kernel⟩, List.mem_of_getElem? (i := 181) (by decide +kernel), List.mem_of_getElem? (i := 575) (by decide +kernel), List.mem_of_getElem? (i := 576) (by decide +kernel)⟩
def lw_privs_1 : List (MethodName × Nat) := [(⟨"OvenPairs$Town", "settleWish", "(II)V"⟩, 18), (⟨"OvenPairs$Town", "settleWills", "(I)V"⟩, 18), (⟨"OvenPairs$Rules", "holds", "(I[I)Z"⟩, 6), (⟨"OvenPairs$Rules", "compares", "(I[I)Z"⟩, 6), (⟨"OvenPairs", "isOven", "(I)Z"⟩, 13), (⟨"OvenPairs$RulesReader", "splitTape", "()V"⟩, 8), (⟨"OvenPairs$RulesReader", "wordEnd", "(I)I"⟩, 8), (⟨"OvenPairs$RulesReader", "codeOf", "(II)I"⟩, 8), (⟨"OvenPairs$RulesReader", "nameCode", "(II)I"⟩, 8), (⟨"OvenPairs$RulesReader", "isName", "(III)Z"⟩, 8), (⟨"OvenPairs$RulesReader", "numberOf", "(II)I"⟩, 8), (⟨"OvenPairs$RulesReader", "readRule", "(LOvenPairs$Rules;)Z"⟩, 8), (⟨"OvenPairs$RulesReader", "pass", "(II)Z"⟩, 8), (⟨"OvenPairs$RulesReader", "readCondition", "(LOvenPairs$Rules;I)Z"⟩, 8), (⟨"OvenPairs$RulesReader", "readAll", "(LOvenPairs$Rules;I)Z"⟩, 8), (⟨"OvenPairs$RulesReader", "readOne", "(LOvenPairs$Rules;I)Z"⟩, 8)]
theorem lw_r1 : ∀ q ∈ lw_privs_1, lw_okq q := List.forall_mem_cons.mpr ⟨lw_p0, List.forall_mem_cons.mpr ⟨lw_p1, List.forall_mem_cons.mpr ⟨lw_p2, List.forall_mem_cons.mpr ⟨lw_p3, List.forall_mem_cons.mpr ⟨lw_p4, List.forall_mem_cons.mpr ⟨lw_p5, List.forall_mem_cons.mpr ⟨lw_p6, List.forall_mem_cons.mpr ⟨lw_p7, List.forall_mem_cons.mpr ⟨lw_p8, List.forall_mem_cons.mpr ⟨lw_p9, List.forall_mem_cons.mpr ⟨lw_p10, List.forall_mem_cons.mpr ⟨lw_p11, List.forall_mem_cons.mpr ⟨lw_p12, List.forall_mem_cons.mpr ⟨lw_p13, List.forall_mem_cons.mpr ⟨lw_p14, List.forall_mem_cons.mpr ⟨lw_p15, fun _ h => absurd h List.not_mem_nil⟩⟩⟩⟩⟩⟩⟩⟩⟩⟩⟩⟩⟩⟩⟩⟩
theorem lw_p16 : lw_okq (⟨"OvenPairs$RulesReader", "readBracket", "(LOvenPairs$Rules;I)Z"⟩, 8) := ⟨⟨by decide +kernel, by decide +kernel⟩, List.mem_of_getElem? (i := 181) (by decide +kernel), List.mem_of_getElem? (i := 579) (by decide +kernel), List.mem_of_getElem? (i := 580) (by decide +kernel)⟩
theorem lw_p17 : lw_okq (⟨"OvenPairs$RulesReader", "readSign", "(LOvenPairs$Rules;)Z"⟩, 8) := ⟨⟨by decide +kernel, by decide +kernel⟩, List.mem_of_getElem? (i := 181) (by decide +kernel), List.mem_of_getElem? (i := 583) (by decide +kernel), List.mem_of_getElem? (i := 584) (by decide +kernel)⟩
theorem lw_p18 : lw_okq (⟨"OvenPairs$RulesReader", "valueHere", "()I"⟩, 8) := ⟨⟨by decide +kernel, by decide +kernel⟩, List.mem_of_getElem? (i := 181) (by decide +kernel), List.mem_of_getElem? (i := 587) (by decide +kernel), List.mem_of_getElem? (i := 588) (by decide +kernel)⟩
theorem lw_p19 : lw_okq (⟨"OvenPairs", "isOvenSet", "(I)Z"⟩, 13) := ⟨⟨by decide +kernel, by decide +kernel⟩, List.mem_of_getElem? (i := 22) (by decide +kernel), List.mem_of_getElem? (i := 771) (by decide +kernel), List.mem_of_getElem? (i := 772) (by decide +kernel)⟩
theorem lw_p20 : lw_okq (⟨"OvenPairs$Town", "fits", "(III)Z"⟩, 18) := ⟨⟨by decide +kernel, by decide +kernel⟩, List.mem_of_getElem? (i := 30) (by decide +kernel), List.mem_of_getElem? (i := 841) (by decide +kernel), List.mem_of_getElem? (i := 842) (by decide +kernel)⟩
theorem lw_p21 : lw_okq (⟨"OvenPairs$Town", "isSo", "(III)Z"⟩, 18) := ⟨⟨by decide +kernel, by decide +kernel⟩, List.mem_of_getElem? (i := 30) (by decide +kernel), List.mem_of_getElem? (i := 845) (by decide +kernel), List.mem_of_getElem? (i := 846) (by decide +kernel)⟩
theorem lw_p22 : lw_okq (⟨"OvenPairs", "isRow", "(II)Z"⟩, 13) := ⟨⟨by decide +kernel, by decide +kernel⟩, List.mem_of_getElem? (i := 22) (by decide +kernel), List.mem_of_getElem? (i := 886) (by decide +kernel), List.mem_of_getElem? (i := 887) (by decide +kernel)⟩
theorem lw_p23 : lw_okq (⟨"OvenPairs", "isAct", "(I)Z"⟩, 13) := ⟨⟨by decide +kernel, by decide +kernel⟩, List.mem_of_getElem? (i := 22) (by decide +kernel), List.mem_of_getElem? (i := 898) (by decide +kernel), List.mem_of_getElem? (i := 899) (by decide +kernel)⟩
theorem lw_p24 : lw_okq (⟨"OvenPairs", "isItem", "(II)Z"⟩, 13) := ⟨⟨by decide +kernel, by decide +kernel⟩, List.mem_of_getElem? (i := 22) (by decide +kernel), List.mem_of_getElem? (i := 913) (by decide +kernel), List.mem_of_getElem? (i := 914) (by decide +kernel)⟩
theorem lw_p25 : lw_okq (⟨"OvenPairs", "refusalAs", "(II)I"⟩, 13) := ⟨⟨by decide +kernel, by decide +kernel⟩, List.mem_of_getElem? (i := 22) (by decide +kernel), List.mem_of_getElem? (i := 924) (by decide +kernel), List.mem_of_getElem? (i := 925) (by decide +kernel)⟩
theorem lw_p26 : lw_okq (⟨"OvenPairs", "putOn", "(IIII)I"⟩, 13) := ⟨⟨by decide +kernel, by decide +kernel⟩, List.mem_of_getElem? (i := 22) (by decide +kernel), List.mem_of_getElem? (i := 943) (by decide +kernel), List.mem_of_getElem? (i := 944) (by decide +kernel)⟩
theorem lw_p27 : lw_okq (⟨"OvenPairs", "heldOn", "(I)I"⟩, 13) := ⟨⟨by decide +kernel, by decide +kernel⟩, List.mem_of_getElem? (i := 22) (by decide +kernel), List.mem_of_getElem? (i := 951) (by decide +kernel), List.mem_of_getElem? (i := 952) (by decide +kernel)⟩
theorem lw_p28 : lw_okq (⟨"OvenPairsModel", "isOven", "(I)Z"⟩, 45) := ⟨⟨by decide +kernel, by decide +kernel⟩, List.mem_of_getElem? (i := 1072) (by decide +kernel), List.mem_of_getElem? (i := 1228) (by decide +kernel), List.mem_of_getElem? (i := 1229) (by decide +kernel)⟩
theorem lw_p29 : lw_okq (⟨"OvenPairsModel", "looks", "(I)V"⟩, 45) := ⟨⟨by decide +kernel, by decide +kernel⟩, List.mem_of_getElem? (i := 1072) (by decide +kernel), List.mem_of_getElem? (i := 1233) (by decide +kernel), List.mem_of_getElem? (i := 1234) (by decide +kernel)⟩
theorem lw_p30 : lw_okq (⟨"OvenPairsModel", "will", "(I)I"⟩, 45) := ⟨⟨by decide +kernel, by decide +kernel⟩, List.mem_of_getElem? (i := 1072) (by decide +kernel), List.mem_of_getElem? (i := 1237) (by decide +kernel), List.mem_of_getElem? (i := 1238) (by decide +kernel)⟩
theorem lw_p31 : lw_okq (⟨"OvenPairsModel", "its", "(II)I"⟩, 45) := ⟨⟨by decide +kernel, by decide +kernel⟩, List.mem_of_getElem? (i := 1072) (by decide +kernel), List.mem_of_getElem? (i := 1241) (by decide +kernel), List.mem_of_getElem? (i := 1242) (by decide +kernel)⟩
def lw_privs_2 : List (MethodName × Nat) := [(⟨"OvenPairs$RulesReader", "readBracket", "(LOvenPairs$Rules;I)Z"⟩, 8), (⟨"OvenPairs$RulesReader", "readSign", "(LOvenPairs$Rules;)Z"⟩, 8), (⟨"OvenPairs$RulesReader", "valueHere", "()I"⟩, 8), (⟨"OvenPairs", "isOvenSet", "(I)Z"⟩, 13), (⟨"OvenPairs$Town", "fits", "(III)Z"⟩, 18), (⟨"OvenPairs$Town", "isSo", "(III)Z"⟩, 18), (⟨"OvenPairs", "isRow", "(II)Z"⟩, 13), (⟨"OvenPairs", "isAct", "(I)Z"⟩, 13), (⟨"OvenPairs", "isItem", "(II)Z"⟩, 13), (⟨"OvenPairs", "refusalAs", "(II)I"⟩, 13), (⟨"OvenPairs", "putOn", "(IIII)I"⟩, 13), (⟨"OvenPairs", "heldOn", "(I)I"⟩, 13), (⟨"OvenPairsModel", "isOven", "(I)Z"⟩, 45), (⟨"OvenPairsModel", "looks", "(I)V"⟩, 45), (⟨"OvenPairsModel", "will", "(I)I"⟩, 45), (⟨"OvenPairsModel", "its", "(II)I"⟩, 45)]
theorem lw_r2 : ∀ q ∈ lw_privs_2, lw_okq q := List.forall_mem_cons.mpr ⟨lw_p16, List.forall_mem_cons.mpr ⟨lw_p17, List.forall_mem_cons.mpr ⟨lw_p18, List.forall_mem_cons.mpr ⟨lw_p19, List.forall_mem_cons.mpr ⟨lw_p20, List.forall_mem_cons.mpr ⟨lw_p21, List.forall_mem_cons.mpr ⟨lw_p22, List.forall_mem_cons.mpr ⟨lw_p23, List.forall_mem_cons.mpr ⟨lw_p24, List.forall_mem_cons.mpr ⟨lw_p25, List.forall_mem_cons.mpr ⟨lw_p26, List.forall_mem_cons.mpr ⟨lw_p27, List.forall_mem_cons.mpr ⟨lw_p28, List.forall_mem_cons.mpr ⟨lw_p29, List.forall_mem_cons.mpr ⟨lw_p30, List.forall_mem_cons.mpr ⟨lw_p31, fun _ h => absurd h List.not_mem_nil⟩⟩⟩⟩⟩⟩⟩⟩⟩⟩⟩⟩⟩⟩⟩⟩
theorem lw_p32 : lw_okq (⟨"OvenPairsModel", "holds", "(II)Z"⟩, 45) := ⟨⟨by decide +kernel, by decide +kernel⟩, List.mem_of_getElem? (i := 1072) (by decide +kernel), List.mem_of_getElem? (i := 1248) (by decide +kernel), List.mem_of_getElem? (i := 1249) (by decide +kernel)⟩
theorem lw_p33 : lw_okq (⟨"OvenPairsModel", "valueOf", "(II)I"⟩, 45) := ⟨⟨by decide +kernel, by decide +kernel⟩, List.mem_of_getElem? (i := 1072) (by decide +kernel), List.mem_of_getElem? (i := 1252) (by decide +kernel), List.mem_of_getElem? (i := 1253) (by decide +kernel)⟩
theorem lw_p34 : lw_okq (⟨"OvenPairsModel", "bakes", "(I)I"⟩, 45) := ⟨⟨by decide +kernel, by decide +kernel⟩, List.mem_of_getElem? (i := 1072) (by decide +kernel), List.mem_of_getElem? (i := 1258) (by decide +kernel), List.mem_of_getElem? (i := 1259) (by decide +kernel)⟩
theorem lw_p35 : lw_okq (⟨"OvenPairsModel", "choice", "(I)I"⟩, 45) := ⟨⟨by decide +kernel, by decide +kernel⟩, List.mem_of_getElem? (i := 1072) (by decide +kernel), List.mem_of_getElem? (i := 1262) (by decide +kernel), List.mem_of_getElem? (i := 1263) (by decide +kernel)⟩
theorem lw_p36 : lw_okq (⟨"OvenPairsModel", "longs", "(II)I"⟩, 45) := ⟨⟨by decide +kernel, by decide +kernel⟩, List.mem_of_getElem? (i := 1072) (by decide +kernel), List.mem_of_getElem? (i := 1266) (by decide +kernel), List.mem_of_getElem? (i := 1267) (by decide +kernel)⟩
theorem lw_p37 : lw_okq (⟨"OvenPairsModel", "becomes", "(II)I"⟩, 45) := ⟨⟨by decide +kernel, by decide +kernel⟩, List.mem_of_getElem? (i := 1072) (by decide +kernel), List.mem_of_getElem? (i := 1281) (by decide +kernel), List.mem_of_getElem? (i := 1282) (by decide +kernel)⟩
theorem lw_p38 : lw_okq (⟨"OvenPairsModel", "isOver", "()Z"⟩, 45) := ⟨⟨by decide +kernel, by decide +kernel⟩, List.mem_of_getElem? (i := 1072) (by decide +kernel), List.mem_of_getElem? (i := 1306) (by decide +kernel), List.mem_of_getElem? (i := 1307) (by decide +kernel)⟩
theorem lw_p39 : lw_okq (⟨"OvenPairsModel", "home", "()I"⟩, 45) := ⟨⟨by decide +kernel, by decide +kernel⟩, List.mem_of_getElem? (i := 1072) (by decide +kernel), List.mem_of_getElem? (i := 1310) (by decide +kernel), List.mem_of_getElem? (i := 1311) (by decide +kernel)⟩
theorem lw_p40 : lw_okq (⟨"OvenPairsModel", "nextToken", "()V"⟩, 45) := ⟨⟨by decide +kernel, by decide +kernel⟩, List.mem_of_getElem? (i := 1072) (by decide +kernel), List.mem_of_getElem? (i := 1324) (by decide +kernel), List.mem_of_getElem? (i := 1325) (by decide +kernel)⟩
theorem lw_p41 : lw_okq (⟨"OvenPairsModel", "byteAt", "(I)I"⟩, 45) := ⟨⟨by decide +kernel, by decide +kernel⟩, List.mem_of_getElem? (i := 1072) (by decide +kernel), List.mem_of_getElem? (i := 1328) (by decide +kernel), List.mem_of_getElem? (i := 1329) (by decide +kernel)⟩
theorem lw_p42 : lw_okq (⟨"OvenPairsModel", "ruleHere", "()V"⟩, 45) := ⟨⟨by decide +kernel, by decide +kernel⟩, List.mem_of_getElem? (i := 1072) (by decide +kernel), List.mem_of_getElem? (i := 1338) (by decide +kernel), List.mem_of_getElem? (i := 1339) (by decide +kernel)⟩
theorem lw_p43 : lw_okq (⟨"OvenPairsModel", "kindHere", "()I"⟩, 45) := ⟨⟨by decide +kernel, by decide +kernel⟩, List.mem_of_getElem? (i := 1072) (by decide +kernel), List.mem_of_getElem? (i := 1342) (by decide +kernel), List.mem_of_getElem? (i := 1343) (by decide +kernel)⟩
theorem lw_p44 : lw_okq (⟨"OvenPairsModel", "isName", "(IIIII)Z"⟩, 45) := ⟨⟨by decide +kernel, by decide +kernel⟩, List.mem_of_getElem? (i := 1072) (by decide +kernel), List.mem_of_getElem? (i := 1346) (by decide +kernel), List.mem_of_getElem? (i := 1347) (by decide +kernel)⟩
theorem lw_p45 : lw_okq (⟨"OvenPairsModel", "isSame", "(IIII)Z"⟩, 45) := ⟨⟨by decide +kernel, by decide +kernel⟩, List.mem_of_getElem? (i := 1072) (by decide +kernel), List.mem_of_getElem? (i := 1350) (by decide +kernel), List.mem_of_getElem? (i := 1351) (by decide +kernel)⟩
theorem lw_p46 : lw_okq (⟨"OvenPairsModel", "needs", "(Z)V"⟩, 45) := ⟨⟨by decide +kernel, by decide +kernel⟩, List.mem_of_getElem? (i := 1072) (by decide +kernel), List.mem_of_getElem? (i := 1354) (by decide +kernel), List.mem_of_getElem? (i := 1355) (by decide +kernel)⟩
theorem lw_p47 : lw_okq (⟨"OvenPairsModel", "isTwo", "(II)Z"⟩, 45) := ⟨⟨by decide +kernel, by decide +kernel⟩, List.mem_of_getElem? (i := 1072) (by decide +kernel), List.mem_of_getElem? (i := 1358) (by decide +kernel), List.mem_of_getElem? (i := 1359) (by decide +kernel)⟩
def lw_privs_3 : List (MethodName × Nat) := [(⟨"OvenPairsModel", "holds", "(II)Z"⟩, 45), (⟨"OvenPairsModel", "valueOf", "(II)I"⟩, 45), (⟨"OvenPairsModel", "bakes", "(I)I"⟩, 45), (⟨"OvenPairsModel", "choice", "(I)I"⟩, 45), (⟨"OvenPairsModel", "longs", "(II)I"⟩, 45), (⟨"OvenPairsModel", "becomes", "(II)I"⟩, 45), (⟨"OvenPairsModel", "isOver", "()Z"⟩, 45), (⟨"OvenPairsModel", "home", "()I"⟩, 45), (⟨"OvenPairsModel", "nextToken", "()V"⟩, 45), (⟨"OvenPairsModel", "byteAt", "(I)I"⟩, 45), (⟨"OvenPairsModel", "ruleHere", "()V"⟩, 45), (⟨"OvenPairsModel", "kindHere", "()I"⟩, 45), (⟨"OvenPairsModel", "isName", "(IIIII)Z"⟩, 45), (⟨"OvenPairsModel", "isSame", "(IIII)Z"⟩, 45), (⟨"OvenPairsModel", "needs", "(Z)V"⟩, 45), (⟨"OvenPairsModel", "isTwo", "(II)Z"⟩, 45)]
theorem lw_r3 : ∀ q ∈ lw_privs_3, lw_okq q := List.forall_mem_cons.mpr ⟨lw_p32, List.forall_mem_cons.mpr ⟨lw_p33, List.forall_mem_cons.mpr ⟨lw_p34, List.forall_mem_cons.mpr ⟨lw_p35, List.forall_mem_cons.mpr ⟨lw_p36, List.forall_mem_cons.mpr ⟨lw_p37, List.forall_mem_cons.mpr ⟨lw_p38, List.forall_mem_cons.mpr ⟨lw_p39, List.forall_mem_cons.mpr ⟨lw_p40, List.forall_mem_cons.mpr ⟨lw_p41, List.forall_mem_cons.mpr ⟨lw_p42, List.forall_mem_cons.mpr ⟨lw_p43, List.forall_mem_cons.mpr ⟨lw_p44, List.forall_mem_cons.mpr ⟨lw_p45, List.forall_mem_cons.mpr ⟨lw_p46, List.forall_mem_cons.mpr ⟨lw_p47, fun _ h => absurd h List.not_mem_nil⟩⟩⟩⟩⟩⟩⟩⟩⟩⟩⟩⟩⟩⟩⟩⟩
theorem lw_p48 : lw_okq (⟨"OvenPairsModel", "condHere", "()V"⟩, 45) := ⟨⟨by decide +kernel, by decide +kernel⟩, List.mem_of_getElem? (i := 1072) (by decide +kernel), List.mem_of_getElem? (i := 1362) (by decide +kernel), List.mem_of_getElem? (i := 1363) (by decide +kernel)⟩
theorem lw_p49 : lw_okq (⟨"OvenPairsModel", "allHere", "()V"⟩, 45) := ⟨⟨by decide +kernel, by decide +kernel⟩, List.mem_of_getElem? (i := 1072) (by decide +kernel), List.mem_of_getElem? (i := 1366) (by decide +kernel), List.mem_of_getElem? (i := 1367) (by decide +kernel)⟩
theorem lw_p50 : lw_okq (⟨"OvenPairsModel", "oneHere", "()V"⟩, 45) := ⟨⟨by decide +kernel, by decide +kernel⟩, List.mem_of_getElem? (i := 1072) (by decide +kernel), List.mem_of_getElem? (i := 1370) (by decide +kernel), List.mem_of_getElem? (i := 1371) (by decide +kernel)⟩
theorem lw_p51 : lw_okq (⟨"OvenPairsModel", "isByte", "(I)Z"⟩, 45) := ⟨⟨by decide +kernel, by decide +kernel⟩, List.mem_of_getElem? (i := 1072) (by decide +kernel), List.mem_of_getElem? (i := 1374) (by decide +kernel), List.mem_of_getElem? (i := 1375) (by decide +kernel)⟩
theorem lw_p52 : lw_okq (⟨"OvenPairsModel", "comparesHere", "()V"⟩, 45) := ⟨⟨by decide +kernel, by decide +kernel⟩, List.mem_of_getElem? (i := 1072) (by decide +kernel), List.mem_of_getElem? (i := 1378) (by decide +kernel), List.mem_of_getElem? (i := 1379) (by decide +kernel)⟩
theorem lw_p53 : lw_okq (⟨"OvenPairsModel", "valueHere", "()I"⟩, 45) := ⟨⟨by decide +kernel, by decide +kernel⟩, List.mem_of_getElem? (i := 1072) (by decide +kernel), List.mem_of_getElem? (i := 1382) (by decide +kernel), List.mem_of_getElem? (i := 1383) (by decide +kernel)⟩
theorem lw_p54 : lw_okq (⟨"OvenPairsModel", "factHere", "()I"⟩, 45) := ⟨⟨by decide +kernel, by decide +kernel⟩, List.mem_of_getElem? (i := 1072) (by decide +kernel), List.mem_of_getElem? (i := 1386) (by decide +kernel), List.mem_of_getElem? (i := 1387) (by decide +kernel)⟩
theorem lw_p55 : lw_okq (⟨"OvenPairsModel", "steps", "(III)V"⟩, 45) := ⟨⟨by decide +kernel, by decide +kernel⟩, List.mem_of_getElem? (i := 1072) (by decide +kernel), List.mem_of_getElem? (i := 1390) (by decide +kernel), List.mem_of_getElem? (i := 1391) (by decide +kernel)⟩
theorem lw_p56 : lw_okq (⟨"OvenPairsModel", "doHere", "()I"⟩, 45) := ⟨⟨by decide +kernel, by decide +kernel⟩, List.mem_of_getElem? (i := 1072) (by decide +kernel), List.mem_of_getElem? (i := 1394) (by decide +kernel), List.mem_of_getElem? (i := 1395) (by decide +kernel)⟩
theorem lw_p57 : lw_okq (⟨"OvenPairsModel", "goesBy", "(I)I"⟩, 45) := ⟨⟨by decide +kernel, by decide +kernel⟩, List.mem_of_getElem? (i := 1072) (by decide +kernel), List.mem_of_getElem? (i := 1402) (by decide +kernel), List.mem_of_getElem? (i := 1403) (by decide +kernel)⟩
theorem lw_p58 : lw_okq (⟨"OvenPairsModel", "onBy", "(II)I"⟩, 45) := ⟨⟨by decide +kernel, by decide +kernel⟩, List.mem_of_getElem? (i := 1072) (by decide +kernel), List.mem_of_getElem? (i := 1410) (by decide +kernel), List.mem_of_getElem? (i := 1411) (by decide +kernel)⟩
theorem lw_p59 : lw_okq (⟨"OvenPairsModel", "laysAside", "(I)V"⟩, 45) := ⟨⟨by decide +kernel, by decide +kernel⟩, List.mem_of_getElem? (i := 1072) (by decide +kernel), List.mem_of_getElem? (i := 1414) (by decide +kernel), List.mem_of_getElem? (i := 1415) (by decide +kernel)⟩
theorem lw_p60 : lw_okq (⟨"OvenPairsModel", "laysBack", "(I)V"⟩, 45) := ⟨⟨by decide +kernel, by decide +kernel⟩, List.mem_of_getElem? (i := 1072) (by decide +kernel), List.mem_of_getElem? (i := 1418) (by decide +kernel), List.mem_of_getElem? (i := 1419) (by decide +kernel)⟩
theorem lw_p61 : lw_okq (⟨"OvenPairsModel", "valueFor", "(III)I"⟩, 45) := ⟨⟨by decide +kernel, by decide +kernel⟩, List.mem_of_getElem? (i := 1072) (by decide +kernel), List.mem_of_getElem? (i := 1434) (by decide +kernel), List.mem_of_getElem? (i := 1435) (by decide +kernel)⟩
theorem lw_p62 : lw_okq (⟨"OvenPairsModel", "isPair", "(II)Z"⟩, 45) := ⟨⟨by decide +kernel, by decide +kernel⟩, List.mem_of_getElem? (i := 1072) (by decide +kernel), List.mem_of_getElem? (i := 1446) (by decide +kernel), List.mem_of_getElem? (i := 1447) (by decide +kernel)⟩
theorem lw_p63 : lw_okq (⟨"OvenPairsModel", "findsWeddings", "()V"⟩, 45) := ⟨⟨by decide +kernel, by decide +kernel⟩, List.mem_of_getElem? (i := 1072) (by decide +kernel), List.mem_of_getElem? (i := 1454) (by decide +kernel), List.mem_of_getElem? (i := 1455) (by decide +kernel)⟩
def lw_privs_4 : List (MethodName × Nat) := [(⟨"OvenPairsModel", "condHere", "()V"⟩, 45), (⟨"OvenPairsModel", "allHere", "()V"⟩, 45), (⟨"OvenPairsModel", "oneHere", "()V"⟩, 45), (⟨"OvenPairsModel", "isByte", "(I)Z"⟩, 45), (⟨"OvenPairsModel", "comparesHere", "()V"⟩, 45), (⟨"OvenPairsModel", "valueHere", "()I"⟩, 45), (⟨"OvenPairsModel", "factHere", "()I"⟩, 45), (⟨"OvenPairsModel", "steps", "(III)V"⟩, 45), (⟨"OvenPairsModel", "doHere", "()I"⟩, 45), (⟨"OvenPairsModel", "goesBy", "(I)I"⟩, 45), (⟨"OvenPairsModel", "onBy", "(II)I"⟩, 45), (⟨"OvenPairsModel", "laysAside", "(I)V"⟩, 45), (⟨"OvenPairsModel", "laysBack", "(I)V"⟩, 45), (⟨"OvenPairsModel", "valueFor", "(III)I"⟩, 45), (⟨"OvenPairsModel", "isPair", "(II)Z"⟩, 45), (⟨"OvenPairsModel", "findsWeddings", "()V"⟩, 45)]
theorem lw_r4 : ∀ q ∈ lw_privs_4, lw_okq q := List.forall_mem_cons.mpr ⟨lw_p48, List.forall_mem_cons.mpr ⟨lw_p49, List.forall_mem_cons.mpr ⟨lw_p50, List.forall_mem_cons.mpr ⟨lw_p51, List.forall_mem_cons.mpr ⟨lw_p52, List.forall_mem_cons.mpr ⟨lw_p53, List.forall_mem_cons.mpr ⟨lw_p54, List.forall_mem_cons.mpr ⟨lw_p55, List.forall_mem_cons.mpr ⟨lw_p56, List.forall_mem_cons.mpr ⟨lw_p57, List.forall_mem_cons.mpr ⟨lw_p58, List.forall_mem_cons.mpr ⟨lw_p59, List.forall_mem_cons.mpr ⟨lw_p60, List.forall_mem_cons.mpr ⟨lw_p61, List.forall_mem_cons.mpr ⟨lw_p62, List.forall_mem_cons.mpr ⟨lw_p63, fun _ h => absurd h List.not_mem_nil⟩⟩⟩⟩⟩⟩⟩⟩⟩⟩⟩⟩⟩⟩⟩⟩
theorem lw_p64 : lw_okq (⟨"OvenPairsModel", "weds", "(IIII)V"⟩, 45) := ⟨⟨by decide +kernel, by decide +kernel⟩, List.mem_of_getElem? (i := 1072) (by decide +kernel), List.mem_of_getElem? (i := 1458) (by decide +kernel), List.mem_of_getElem? (i := 1459) (by decide +kernel)⟩
theorem lw_p65 : lw_okq (⟨"OvenPairsModel", "isStill", "(I)Z"⟩, 45) := ⟨⟨by decide +kernel, by decide +kernel⟩, List.mem_of_getElem? (i := 1072) (by decide +kernel), List.mem_of_getElem? (i := 1473) (by decide +kernel), List.mem_of_getElem? (i := 1474) (by decide +kernel)⟩
theorem lw_p66 : lw_okq (⟨"OvenPairsModel", "findsPlans", "(II)V"⟩, 45) := ⟨⟨by decide +kernel, by decide +kernel⟩, List.mem_of_getElem? (i := 1072) (by decide +kernel), List.mem_of_getElem? (i := 1484) (by decide +kernel), List.mem_of_getElem? (i := 1485) (by decide +kernel)⟩
theorem lw_p67 : lw_okq (⟨"OvenPairsModel", "plans", "(IIII)V"⟩, 45) := ⟨⟨by decide +kernel, by decide +kernel⟩, List.mem_of_getElem? (i := 1072) (by decide +kernel), List.mem_of_getElem? (i := 1488) (by decide +kernel), List.mem_of_getElem? (i := 1489) (by decide +kernel)⟩
theorem lw_p68 : lw_okq (⟨"OvenPairsModel", "goesWith", "(I)I"⟩, 45) := ⟨⟨by decide +kernel, by decide +kernel⟩, List.mem_of_getElem? (i := 1072) (by decide +kernel), List.mem_of_getElem? (i := 1492) (by decide +kernel), List.mem_of_getElem? (i := 1493) (by decide +kernel)⟩
theorem lw_p69 : lw_okq (⟨"OvenPairsModel", "isSet", "(I)Z"⟩, 45) := ⟨⟨by decide +kernel, by decide +kernel⟩, List.mem_of_getElem? (i := 1072) (by decide +kernel), List.mem_of_getElem? (i := 1509) (by decide +kernel), List.mem_of_getElem? (i := 1510) (by decide +kernel)⟩
theorem lw_p70 : lw_okq (⟨"OvenPairsModel", "valueFrom", "(II)I"⟩, 45) := ⟨⟨by decide +kernel, by decide +kernel⟩, List.mem_of_getElem? (i := 1072) (by decide +kernel), List.mem_of_getElem? (i := 1521) (by decide +kernel), List.mem_of_getElem? (i := 1522) (by decide +kernel)⟩
theorem lw_p71 : lw_okq (⟨"OvenPairsModel", "findsFits", "(I)V"⟩, 45) := ⟨⟨by decide +kernel, by decide +kernel⟩, List.mem_of_getElem? (i := 1072) (by decide +kernel), List.mem_of_getElem? (i := 1543) (by decide +kernel), List.mem_of_getElem? (i := 1544) (by decide +kernel)⟩
theorem lw_p72 : lw_okq (⟨"OvenPairsModel", "isFit", "(III)Z"⟩, 45) := ⟨⟨by decide +kernel, by decide +kernel⟩, List.mem_of_getElem? (i := 1072) (by decide +kernel), List.mem_of_getElem? (i := 1547) (by decide +kernel), List.mem_of_getElem? (i := 1548) (by decide +kernel)⟩
theorem lw_p73 : lw_okq (⟨"OvenPairsModel", "goesByLot", "()I"⟩, 45) := ⟨⟨by decide +kernel, by decide +kernel⟩, List.mem_of_getElem? (i := 1072) (by decide +kernel), List.mem_of_getElem? (i := 1563) (by decide +kernel), List.mem_of_getElem? (i := 1564) (by decide +kernel)⟩
theorem lw_p74 : lw_okq (⟨"OvenPairsModel", "isRow", "(II)Z"⟩, 45) := ⟨⟨by decide +kernel, by decide +kernel⟩, List.mem_of_getElem? (i := 1072) (by decide +kernel), List.mem_of_getElem? (i := 1582) (by decide +kernel), List.mem_of_getElem? (i := 1583) (by decide +kernel)⟩
theorem lw_p75 : lw_okq (⟨"OvenPairsModel", "isAct", "(I)Z"⟩, 45) := ⟨⟨by decide +kernel, by decide +kernel⟩, List.mem_of_getElem? (i := 1072) (by decide +kernel), List.mem_of_getElem? (i := 1594) (by decide +kernel), List.mem_of_getElem? (i := 1595) (by decide +kernel)⟩
theorem lw_p76 : lw_okq (⟨"OvenPairsModel", "lacks", "(II)I"⟩, 45) := ⟨⟨by decide +kernel, by decide +kernel⟩, List.mem_of_getElem? (i := 1072) (by decide +kernel), List.mem_of_getElem? (i := 1614) (by decide +kernel), List.mem_of_getElem? (i := 1615) (by decide +kernel)⟩
theorem lw_p77 : lw_okq (⟨"OvenPairsModel", "sumBy", "(III)I"⟩, 45) := ⟨⟨by decide +kernel, by decide +kernel⟩, List.mem_of_getElem? (i := 1072) (by decide +kernel), List.mem_of_getElem? (i := 1626) (by decide +kernel), List.mem_of_getElem? (i := 1627) (by decide +kernel)⟩
theorem lw_p78 : lw_okq (⟨"OvenPairsModel", "heldOn", "(I)I"⟩, 45) := ⟨⟨by decide +kernel, by decide +kernel⟩, List.mem_of_getElem? (i := 1072) (by decide +kernel), List.mem_of_getElem? (i := 1643) (by decide +kernel), List.mem_of_getElem? (i := 1644) (by decide +kernel)⟩
theorem lw_p79 : lw_okq (⟨"OvenPairsModel", "glows", "(I)I"⟩, 45) := ⟨⟨by decide +kernel, by decide +kernel⟩, List.mem_of_getElem? (i := 1072) (by decide +kernel), List.mem_of_getElem? (i := 1651) (by decide +kernel), List.mem_of_getElem? (i := 1652) (by decide +kernel)⟩
def lw_privs_5 : List (MethodName × Nat) := [(⟨"OvenPairsModel", "weds", "(IIII)V"⟩, 45), (⟨"OvenPairsModel", "isStill", "(I)Z"⟩, 45), (⟨"OvenPairsModel", "findsPlans", "(II)V"⟩, 45), (⟨"OvenPairsModel", "plans", "(IIII)V"⟩, 45), (⟨"OvenPairsModel", "goesWith", "(I)I"⟩, 45), (⟨"OvenPairsModel", "isSet", "(I)Z"⟩, 45), (⟨"OvenPairsModel", "valueFrom", "(II)I"⟩, 45), (⟨"OvenPairsModel", "findsFits", "(I)V"⟩, 45), (⟨"OvenPairsModel", "isFit", "(III)Z"⟩, 45), (⟨"OvenPairsModel", "goesByLot", "()I"⟩, 45), (⟨"OvenPairsModel", "isRow", "(II)Z"⟩, 45), (⟨"OvenPairsModel", "isAct", "(I)Z"⟩, 45), (⟨"OvenPairsModel", "lacks", "(II)I"⟩, 45), (⟨"OvenPairsModel", "sumBy", "(III)I"⟩, 45), (⟨"OvenPairsModel", "heldOn", "(I)I"⟩, 45), (⟨"OvenPairsModel", "glows", "(I)I"⟩, 45)]
theorem lw_r5 : ∀ q ∈ lw_privs_5, lw_okq q := List.forall_mem_cons.mpr ⟨lw_p64, List.forall_mem_cons.mpr ⟨lw_p65, List.forall_mem_cons.mpr ⟨lw_p66, List.forall_mem_cons.mpr ⟨lw_p67, List.forall_mem_cons.mpr ⟨lw_p68, List.forall_mem_cons.mpr ⟨lw_p69, List.forall_mem_cons.mpr ⟨lw_p70, List.forall_mem_cons.mpr ⟨lw_p71, List.forall_mem_cons.mpr ⟨lw_p72, List.forall_mem_cons.mpr ⟨lw_p73, List.forall_mem_cons.mpr ⟨lw_p74, List.forall_mem_cons.mpr ⟨lw_p75, List.forall_mem_cons.mpr ⟨lw_p76, List.forall_mem_cons.mpr ⟨lw_p77, List.forall_mem_cons.mpr ⟨lw_p78, List.forall_mem_cons.mpr ⟨lw_p79, fun _ h => absurd h List.not_mem_nil⟩⟩⟩⟩⟩⟩⟩⟩⟩⟩⟩⟩⟩⟩⟩⟩
theorem lw_p80 : lw_okq (⟨"OvenPairsModel", "runs", "(I)V"⟩, 45) := ⟨⟨by decide +kernel, by decide +kernel⟩, List.mem_of_getElem? (i := 1072) (by decide +kernel), List.mem_of_getElem? (i := 1655) (by decide +kernel), List.mem_of_getElem? (i := 1656) (by decide +kernel)⟩
theorem lw_p81 : lw_okq (⟨"OvenPairsModel", "glowsPlain", "(I)I"⟩, 45) := ⟨⟨by decide +kernel, by decide +kernel⟩, List.mem_of_getElem? (i := 1072) (by decide +kernel), List.mem_of_getElem? (i := 1659) (by decide +kernel), List.mem_of_getElem? (i := 1660) (by decide +kernel)⟩
theorem lw_p82 : lw_okq (⟨"OvenPairsModel", "longsActs", "(I)I"⟩, 45) := ⟨⟨by decide +kernel, by decide +kernel⟩, List.mem_of_getElem? (i := 1072) (by decide +kernel), List.mem_of_getElem? (i := 1663) (by decide +kernel), List.mem_of_getElem? (i := 1664) (by decide +kernel)⟩
theorem lw_p83 : lw_okq (⟨"OvenPairsModel", "longsPlain", "(I)I"⟩, 45) := ⟨⟨by decide +kernel, by decide +kernel⟩, List.mem_of_getElem? (i := 1072) (by decide +kernel), List.mem_of_getElem? (i := 1667) (by decide +kernel), List.mem_of_getElem? (i := 1668) (by decide +kernel)⟩
theorem lw_p84 : lw_okq (⟨"OvenPairsModel", "parts", "(I)I"⟩, 45) := ⟨⟨by decide +kernel, by decide +kernel⟩, List.mem_of_getElem? (i := 1072) (by decide +kernel), List.mem_of_getElem? (i := 1671) (by decide +kernel), List.mem_of_getElem? (i := 1672) (by decide +kernel)⟩
theorem lw_p85 : lw_okq (⟨"OvenPairsModel", "partsPortable", "(I)I"⟩, 45) := ⟨⟨by decide +kernel, by decide +kernel⟩, List.mem_of_getElem? (i := 1072) (by decide +kernel), List.mem_of_getElem? (i := 1675) (by decide +kernel), List.mem_of_getElem? (i := 1676) (by decide +kernel)⟩
theorem lw_p86 : lw_okq (⟨"OvenPairsModel", "partsPlain", "(I)I"⟩, 45) := ⟨⟨by decide +kernel, by decide +kernel⟩, List.mem_of_getElem? (i := 1072) (by decide +kernel), List.mem_of_getElem? (i := 1679) (by decide +kernel), List.mem_of_getElem? (i := 1680) (by decide +kernel)⟩
theorem lw_p87 : lw_okq (⟨"OvenPairsModel", "wedsActs", "(I)I"⟩, 45) := ⟨⟨by decide +kernel, by decide +kernel⟩, List.mem_of_getElem? (i := 1072) (by decide +kernel), List.mem_of_getElem? (i := 1683) (by decide +kernel), List.mem_of_getElem? (i := 1684) (by decide +kernel)⟩
theorem lw_p88 : lw_okq (⟨"OvenPairsModel", "wedsPlain", "(I)I"⟩, 45) := ⟨⟨by decide +kernel, by decide +kernel⟩, List.mem_of_getElem? (i := 1072) (by decide +kernel), List.mem_of_getElem? (i := 1687) (by decide +kernel), List.mem_of_getElem? (i := 1688) (by decide +kernel)⟩
def lw_privs_6 : List (MethodName × Nat) := [(⟨"OvenPairsModel", "runs", "(I)V"⟩, 45), (⟨"OvenPairsModel", "glowsPlain", "(I)I"⟩, 45), (⟨"OvenPairsModel", "longsActs", "(I)I"⟩, 45), (⟨"OvenPairsModel", "longsPlain", "(I)I"⟩, 45), (⟨"OvenPairsModel", "parts", "(I)I"⟩, 45), (⟨"OvenPairsModel", "partsPortable", "(I)I"⟩, 45), (⟨"OvenPairsModel", "partsPlain", "(I)I"⟩, 45), (⟨"OvenPairsModel", "wedsActs", "(I)I"⟩, 45), (⟨"OvenPairsModel", "wedsPlain", "(I)I"⟩, 45)]
theorem lw_r6 : ∀ q ∈ lw_privs_6, lw_okq q := List.forall_mem_cons.mpr ⟨lw_p80, List.forall_mem_cons.mpr ⟨lw_p81, List.forall_mem_cons.mpr ⟨lw_p82, List.forall_mem_cons.mpr ⟨lw_p83, List.forall_mem_cons.mpr ⟨lw_p84, List.forall_mem_cons.mpr ⟨lw_p85, List.forall_mem_cons.mpr ⟨lw_p86, List.forall_mem_cons.mpr ⟨lw_p87, List.forall_mem_cons.mpr ⟨lw_p88, fun _ h => absurd h List.not_mem_nil⟩⟩⟩⟩⟩⟩⟩⟩⟩
def lw_privs : List (MethodName × Nat) := lw_privs_1 ++ (lw_privs_2 ++ (lw_privs_3 ++ (lw_privs_4 ++ (lw_privs_5 ++ (lw_privs_6)))))
def lw_tbl : List Cond := k2_sels lw_privs ++ tables_1
theorem lw_privs_ok : ∀ q ∈ lw_privs, lw_okq q := by
  show ∀ q ∈ lw_privs_1 ++ (lw_privs_2 ++ (lw_privs_3 ++ (lw_privs_4 ++ (lw_privs_5 ++ (lw_privs_6))))), lw_okq q
  exact List.forall_mem_append.mpr ⟨lw_r1, List.forall_mem_append.mpr ⟨lw_r2, List.forall_mem_append.mpr ⟨lw_r3, List.forall_mem_append.mpr ⟨lw_r4, List.forall_mem_append.mpr ⟨lw_r5, lw_r6⟩⟩⟩⟩⟩
def RX0 : String := "OvenPairs$Deed"
def TX0 : u_T := fun k => match k with
  | 0 => ("OvenPairs$Deed", "bodies", "[I", true)
  | 1 => ("OvenPairs$Deed", "count", "I", false)
  | 2 => ("OvenPairs$Deed", "number", "I", false)
  | 3 => ("OvenPairs$Deed", "fire", "I", false)
  | _ => ("OvenPairs$Deed", "parted", "Z", false)
def tyX0 : Nat → FieldType := fun k => match k with
  | 0 => .array .int
  | 1 => .int
  | 2 => .int
  | 3 => .int
  | _ => .boolean
theorem nmX0 : ∀ a, a < 5 → ∀ b, b < 5 → a ≠ b → (TX0 a).2.1 ≠ (TX0 b).2.1 := by decide +kernel
theorem tyX0_ok : ∀ k, k < 5 → parseFieldDescriptor (TX0 k).2.2.1 = some (tyX0 k) := by decide +kernel
abbrev cX0_init : ByteArray := prog_2_method_1_code
def yX0_init : MethodName := ⟨RX0, "<init>", "()V"⟩
abbrev cX0_clear : ByteArray := prog_2_method_2_code
def yX0_clear : MethodName := ⟨RX0, "clear", "()V"⟩
abbrev cX0_began : ByteArray := prog_2_method_3_code
def yX0_began : MethodName := ⟨RX0, "began", "(I)V"⟩
def RX1 : String := "OvenPairs$Doored"
def TX1 : u_T := fun k => match k with
  | _ => ("", "", "", false)
def tyX1 : Nat → FieldType := fun k => match k with
  | _ => .int
theorem nmX1 : ∀ a, a < 0 → ∀ b, b < 0 → a ≠ b → (TX1 a).2.1 ≠ (TX1 b).2.1 := by decide +kernel
theorem tyX1_ok : ∀ k, k < 0 → parseFieldDescriptor (TX1 k).2.2.1 = some (tyX1 k) := by decide +kernel
abbrev cX1_init : ByteArray := prog_3_method_1_code
def yX1_init : MethodName := ⟨RX1, "<init>", "()V"⟩
abbrev cX1_yearns : ByteArray := prog_3_method_2_code
def yX1_yearns : MethodName := ⟨RX1, "yearns", "(IIIZ)I"⟩
abbrev cX1_bakes : ByteArray := prog_3_method_3_code
def yX1_bakes : MethodName := ⟨RX1, "bakes", "(II)I"⟩
abbrev cX1_glows : ByteArray := prog_3_method_4_code
def yX1_glows : MethodName := ⟨RX1, "glows", "(LOvenPairs$Deed;I)I"⟩
abbrev cX1_weds : ByteArray := prog_3_method_5_code
def yX1_weds : MethodName := ⟨RX1, "weds", "(LOvenPairs$Deed;I)I"⟩
def RX2 : String := "OvenPairs$Outlook"
def TX2 : u_T := fun k => match k with
  | _ => ("", "", "", false)
def tyX2 : Nat → FieldType := fun k => match k with
  | _ => .int
theorem nmX2 : ∀ a, a < 0 → ∀ b, b < 0 → a ≠ b → (TX2 a).2.1 ≠ (TX2 b).2.1 := by decide +kernel
theorem tyX2_ok : ∀ k, k < 0 → parseFieldDescriptor (TX2 k).2.2.1 = some (tyX2 k) := by decide +kernel
abbrev cX2_restWorth : ByteArray := prog_4_method_2_code
def yX2_restWorth : MethodName := ⟨RX2, "restWorth", "(LOvenPairs$Town;I)I"⟩
abbrev cX2_went : ByteArray := prog_4_method_3_code
def yX2_went : MethodName := ⟨RX2, "went", "(LOvenPairs$Town;III)Z"⟩
abbrev cX2_firstGoing : ByteArray := prog_4_method_4_code
def yX2_firstGoing : MethodName := ⟨RX2, "firstGoing", "(LOvenPairs$Town;I)I"⟩
abbrev cX2_goings : ByteArray := prog_4_method_5_code
def yX2_goings : MethodName := ⟨RX2, "goings", "(LOvenPairs$Town;I)I"⟩
abbrev cX2_bestSetting : ByteArray := prog_4_method_6_code
def yX2_bestSetting : MethodName := ⟨RX2, "bestSetting", "(LOvenPairs$Town;[III)I"⟩
abbrev cX2_nobodyGoes : ByteArray := prog_4_method_7_code
def yX2_nobodyGoes : MethodName := ⟨RX2, "nobodyGoes", "(LOvenPairs$Town;I)Z"⟩
abbrev cX2_fewestChains : ByteArray := prog_4_method_8_code
def yX2_fewestChains : MethodName := ⟨RX2, "fewestChains", "(LOvenPairs$Town;)I"⟩
abbrev cX2_weddingOf : ByteArray := prog_4_method_9_code
def yX2_weddingOf : MethodName := ⟨RX2, "weddingOf", "(LOvenPairs$Town;II)I"⟩
abbrev cX2_mostWeddings : ByteArray := prog_4_method_10_code
def yX2_mostWeddings : MethodName := ⟨RX2, "mostWeddings", "(LOvenPairs$Town;)I"⟩
abbrev cX2_mostWed : ByteArray := prog_4_method_11_code
def yX2_mostWed : MethodName := ⟨RX2, "mostWed", "(LOvenPairs$Town;II)I"⟩
abbrev cX2_firstMate : ByteArray := prog_4_method_12_code
def yX2_firstMate : MethodName := ⟨RX2, "firstMate", "(LOvenPairs$Town;II)I"⟩
abbrev cX2_mateOf : ByteArray := prog_4_method_13_code
def yX2_mateOf : MethodName := ⟨RX2, "mateOf", "(LOvenPairs$Town;I)I"⟩
abbrev cX2_bestWorth : ByteArray := prog_4_method_14_code
def yX2_bestWorth : MethodName := ⟨RX2, "bestWorth", "(LOvenPairs$Town;I)I"⟩
abbrev cX2_mostWorth : ByteArray := prog_4_method_15_code
def yX2_mostWorth : MethodName := ⟨RX2, "mostWorth", "(LOvenPairs$Town;III)I"⟩
abbrev cX2_firstBestAct : ByteArray := prog_4_method_16_code
def yX2_firstBestAct : MethodName := ⟨RX2, "firstBestAct", "(LOvenPairs$Town;III)I"⟩
abbrev cX2_bestWays : ByteArray := prog_4_method_17_code
def yX2_bestWays : MethodName := ⟨RX2, "bestWays", "(LOvenPairs$Town;I)I"⟩
abbrev cX2_plansWorth : ByteArray := prog_4_method_18_code
def yX2_plansWorth : MethodName := ⟨RX2, "plansWorth", "(LOvenPairs$Town;IIII)I"⟩
abbrev cX2_actsTillHome : ByteArray := prog_4_method_19_code
def yX2_actsTillHome : MethodName := ⟨RX2, "actsTillHome", "(LOvenPairs$Town;II)I"⟩
abbrev cX2_fewestActs : ByteArray := prog_4_method_20_code
def yX2_fewestActs : MethodName := ⟨RX2, "fewestActs", "(LOvenPairs$Town;IIII)I"⟩
abbrev cX2_everHome : ByteArray := prog_4_method_21_code
def yX2_everHome : MethodName := ⟨RX2, "everHome", "(LOvenPairs$Town;I)I"⟩
abbrev cX2_homeBehindSome : ByteArray := prog_4_method_22_code
def yX2_homeBehindSome : MethodName := ⟨RX2, "homeBehindSome", "(LOvenPairs$Town;III)I"⟩
abbrev cX2_valueOfGame : ByteArray := prog_4_method_23_code
def yX2_valueOfGame : MethodName := ⟨RX2, "valueOfGame", "(LOvenPairs$Town;I)I"⟩
abbrev cX2_gameValue : ByteArray := prog_4_method_24_code
def yX2_gameValue : MethodName := ⟨RX2, "gameValue", "(LOvenPairs$Town;IIIZ)I"⟩
abbrev cX2_firstMove : ByteArray := prog_4_method_25_code
def yX2_firstMove : MethodName := ⟨RX2, "firstMove", "(LOvenPairs$Town;I)I"⟩
def RX3 : String := "OvenPairs$Oven"
def TX3 : u_T := fun k => match k with
  | _ => ("", "", "", false)
def tyX3 : Nat → FieldType := fun k => match k with
  | _ => .int
theorem nmX3 : ∀ a, a < 0 → ∀ b, b < 0 → a ≠ b → (TX3 a).2.1 ≠ (TX3 b).2.1 := by decide +kernel
theorem tyX3_ok : ∀ k, k < 0 → parseFieldDescriptor (TX3 k).2.2.1 = some (tyX3 k) := by decide +kernel
abbrev cX3_init : ByteArray := prog_5_method_1_code
def yX3_init : MethodName := ⟨RX3, "<init>", "()V"⟩
abbrev cX3_yearns : ByteArray := prog_5_method_2_code
def yX3_yearns : MethodName := ⟨RX3, "yearns", "(IIIZ)I"⟩
abbrev cX3_bakes : ByteArray := prog_5_method_3_code
def yX3_bakes : MethodName := ⟨RX3, "bakes", "(II)I"⟩
abbrev cX3_glows : ByteArray := prog_5_method_4_code
def yX3_glows : MethodName := ⟨RX3, "glows", "(LOvenPairs$Deed;I)I"⟩
abbrev cX3_longs : ByteArray := prog_5_method_5_code
def yX3_longs : MethodName := ⟨RX3, "longs", "(LOvenPairs$Deed;I)I"⟩
abbrev cX3_parts : ByteArray := prog_5_method_6_code
def yX3_parts : MethodName := ⟨RX3, "parts", "(LOvenPairs$Deed;I)I"⟩
abbrev cX3_weds : ByteArray := prog_5_method_7_code
def yX3_weds : MethodName := ⟨RX3, "weds", "(LOvenPairs$Deed;I)I"⟩
def RX4 : String := "OvenPairs$Portable"
def TX4 : u_T := fun k => match k with
  | _ => ("", "", "", false)
def tyX4 : Nat → FieldType := fun k => match k with
  | _ => .int
theorem nmX4 : ∀ a, a < 0 → ∀ b, b < 0 → a ≠ b → (TX4 a).2.1 ≠ (TX4 b).2.1 := by decide +kernel
theorem tyX4_ok : ∀ k, k < 0 → parseFieldDescriptor (TX4 k).2.2.1 = some (tyX4 k) := by decide +kernel
abbrev cX4_init : ByteArray := prog_6_method_1_code
def yX4_init : MethodName := ⟨RX4, "<init>", "()V"⟩
abbrev cX4_yearns : ByteArray := prog_6_method_2_code
def yX4_yearns : MethodName := ⟨RX4, "yearns", "(IIIZ)I"⟩
abbrev cX4_parts : ByteArray := prog_6_method_3_code
def yX4_parts : MethodName := ⟨RX4, "parts", "(LOvenPairs$Deed;I)I"⟩
def RX5 : String := "OvenPairs$Rake"
def TX5 : u_T := fun k => match k with
  | _ => ("", "", "", false)
def tyX5 : Nat → FieldType := fun k => match k with
  | _ => .int
theorem nmX5 : ∀ a, a < 0 → ∀ b, b < 0 → a ≠ b → (TX5 a).2.1 ≠ (TX5 b).2.1 := by decide +kernel
theorem tyX5_ok : ∀ k, k < 0 → parseFieldDescriptor (TX5 k).2.2.1 = some (tyX5 k) := by decide +kernel
abbrev cX5_init : ByteArray := prog_7_method_1_code
def yX5_init : MethodName := ⟨RX5, "<init>", "()V"⟩
abbrev cX5_yearns : ByteArray := prog_7_method_2_code
def yX5_yearns : MethodName := ⟨RX5, "yearns", "(IIIZ)I"⟩
abbrev cX5_bakes : ByteArray := prog_7_method_3_code
def yX5_bakes : MethodName := ⟨RX5, "bakes", "(II)I"⟩
abbrev cX5_longs : ByteArray := prog_7_method_4_code
def yX5_longs : MethodName := ⟨RX5, "longs", "(LOvenPairs$Deed;I)I"⟩
abbrev cX5_parts : ByteArray := prog_7_method_5_code
def yX5_parts : MethodName := ⟨RX5, "parts", "(LOvenPairs$Deed;I)I"⟩
def RX6 : String := "OvenPairs$Range"
def TX6 : u_T := fun k => match k with
  | _ => ("", "", "", false)
def tyX6 : Nat → FieldType := fun k => match k with
  | _ => .int
theorem nmX6 : ∀ a, a < 0 → ∀ b, b < 0 → a ≠ b → (TX6 a).2.1 ≠ (TX6 b).2.1 := by decide +kernel
theorem tyX6_ok : ∀ k, k < 0 → parseFieldDescriptor (TX6 k).2.2.1 = some (tyX6 k) := by decide +kernel
abbrev cX6_init : ByteArray := prog_8_method_1_code
def yX6_init : MethodName := ⟨RX6, "<init>", "()V"⟩
abbrev cX6_yearns : ByteArray := prog_8_method_2_code
def yX6_yearns : MethodName := ⟨RX6, "yearns", "(IIIZ)I"⟩
abbrev cX6_bakes : ByteArray := prog_8_method_3_code
def yX6_bakes : MethodName := ⟨RX6, "bakes", "(II)I"⟩
abbrev cX6_longs : ByteArray := prog_8_method_4_code
def yX6_longs : MethodName := ⟨RX6, "longs", "(LOvenPairs$Deed;I)I"⟩
def RX7 : String := "OvenPairs$Rules"
def TX7 : u_T := fun k => match k with
  | 0 => ("OvenPairs$Rules", "kinds", "[I", true)
  | 1 => ("OvenPairs$Rules", "wills", "[I", true)
  | 2 => ("OvenPairs$Rules", "ends", "[I", true)
  | 3 => ("OvenPairs$Rules", "steps", "[I", true)
  | 4 => ("OvenPairs$Rules", "count", "I", false)
  | _ => ("OvenPairs$Rules", "stepCount", "I", false)
def tyX7 : Nat → FieldType := fun k => match k with
  | 0 => .array .int
  | 1 => .array .int
  | 2 => .array .int
  | 3 => .array .int
  | 4 => .int
  | _ => .int
theorem nmX7 : ∀ a, a < 6 → ∀ b, b < 6 → a ≠ b → (TX7 a).2.1 ≠ (TX7 b).2.1 := by decide +kernel
theorem tyX7_ok : ∀ k, k < 6 → parseFieldDescriptor (TX7 k).2.2.1 = some (tyX7 k) := by decide +kernel
abbrev cX7_init : ByteArray := prog_9_method_1_code
def yX7_init : MethodName := ⟨RX7, "<init>", "(I)V"⟩
abbrev cX7_addRule : ByteArray := prog_9_method_2_code
def yX7_addRule : MethodName := ⟨RX7, "addRule", "(II)V"⟩
abbrev cX7_addStep : ByteArray := prog_9_method_3_code
def yX7_addStep : MethodName := ⟨RX7, "addStep", "(III)V"⟩
abbrev cX7_tellsOf : ByteArray := prog_9_method_4_code
def yX7_tellsOf : MethodName := ⟨RX7, "tellsOf", "(I[I)I"⟩
abbrev cX7_holds : ByteArray := prog_9_method_5_code
def yX7_holds : MethodName := ⟨RX7, "holds", "(I[I)Z"⟩
abbrev cX7_compares : ByteArray := prog_9_method_6_code
def yX7_compares : MethodName := ⟨RX7, "compares", "(I[I)Z"⟩
abbrev cX7_valueOf : ByteArray := prog_9_method_7_code
def yX7_valueOf : MethodName := ⟨RX7, "valueOf", "(I[I)I"⟩
def RX8 : String := "OvenPairs$RulesReader"
def TX8 : u_T := fun k => match k with
  | 0 => ("OvenPairs$RulesReader", "tape", "[I", true)
  | 1 => ("OvenPairs$RulesReader", "codes", "[I", true)
  | 2 => ("OvenPairs$RulesReader", "places", "[I", true)
  | 3 => ("OvenPairs$RulesReader", "numbers", "[I", true)
  | 4 => ("OvenPairs$RulesReader", "wordCount", "I", false)
  | 5 => ("OvenPairs$RulesReader", "at", "I", false)
  | 6 => ("OvenPairs$RulesReader", "size", "I", false)
  | _ => ("OvenPairs$RulesReader", "fault", "I", false)
def tyX8 : Nat → FieldType := fun k => match k with
  | 0 => .array .int
  | 1 => .array .int
  | 2 => .array .int
  | 3 => .array .int
  | 4 => .int
  | 5 => .int
  | 6 => .int
  | _ => .int
theorem nmX8 : ∀ a, a < 8 → ∀ b, b < 8 → a ≠ b → (TX8 a).2.1 ≠ (TX8 b).2.1 := by decide +kernel
theorem tyX8_ok : ∀ k, k < 8 → parseFieldDescriptor (TX8 k).2.2.1 = some (tyX8 k) := by decide +kernel
abbrev cX8_init : ByteArray := prog_10_method_1_code
def yX8_init : MethodName := ⟨RX8, "<init>", "()V"⟩
abbrev cX8_takeByte : ByteArray := prog_10_method_2_code
def yX8_takeByte : MethodName := ⟨RX8, "takeByte", "(I)V"⟩
abbrev cX8_readTape : ByteArray := prog_10_method_3_code
def yX8_readTape : MethodName := ⟨RX8, "readTape", "()LOvenPairs$Rules;"⟩
abbrev cX8_splitTape : ByteArray := prog_10_method_4_code
def yX8_splitTape : MethodName := ⟨RX8, "splitTape", "()V"⟩
abbrev cX8_isLetter : ByteArray := prog_10_method_5_code
def yX8_isLetter : MethodName := ⟨RX8, "isLetter", "(I)Z"⟩
abbrev cX8_isDigit : ByteArray := prog_10_method_6_code
def yX8_isDigit : MethodName := ⟨RX8, "isDigit", "(I)Z"⟩
abbrev cX8_wordEnd : ByteArray := prog_10_method_7_code
def yX8_wordEnd : MethodName := ⟨RX8, "wordEnd", "(I)I"⟩
abbrev cX8_codeOf : ByteArray := prog_10_method_8_code
def yX8_codeOf : MethodName := ⟨RX8, "codeOf", "(II)I"⟩
abbrev cX8_nameCode : ByteArray := prog_10_method_9_code
def yX8_nameCode : MethodName := ⟨RX8, "nameCode", "(II)I"⟩
abbrev cX8_isName : ByteArray := prog_10_method_10_code
def yX8_isName : MethodName := ⟨RX8, "isName", "(III)Z"⟩
abbrev cX8_numberOf : ByteArray := prog_10_method_11_code
def yX8_numberOf : MethodName := ⟨RX8, "numberOf", "(II)I"⟩
abbrev cX8_pass : ByteArray := prog_10_method_12_code
def yX8_pass : MethodName := ⟨RX8, "pass", "(II)Z"⟩
abbrev cX8_readRule : ByteArray := prog_10_method_13_code
def yX8_readRule : MethodName := ⟨RX8, "readRule", "(LOvenPairs$Rules;)Z"⟩
abbrev cX8_readCondition : ByteArray := prog_10_method_14_code
def yX8_readCondition : MethodName := ⟨RX8, "readCondition", "(LOvenPairs$Rules;I)Z"⟩
abbrev cX8_readAll : ByteArray := prog_10_method_15_code
def yX8_readAll : MethodName := ⟨RX8, "readAll", "(LOvenPairs$Rules;I)Z"⟩
abbrev cX8_readOne : ByteArray := prog_10_method_16_code
def yX8_readOne : MethodName := ⟨RX8, "readOne", "(LOvenPairs$Rules;I)Z"⟩
abbrev cX8_readBracket : ByteArray := prog_10_method_17_code
def yX8_readBracket : MethodName := ⟨RX8, "readBracket", "(LOvenPairs$Rules;I)Z"⟩
abbrev cX8_readSign : ByteArray := prog_10_method_18_code
def yX8_readSign : MethodName := ⟨RX8, "readSign", "(LOvenPairs$Rules;)Z"⟩
abbrev cX8_valueHere : ByteArray := prog_10_method_19_code
def yX8_valueHere : MethodName := ⟨RX8, "valueHere", "()I"⟩
def RX9 : String := "OvenPairs$Town"
def TX9 : u_T := fun k => match k with
  | 0 => ("OvenPairs$Town", "kinds", "[LOvenPairs$Oven;", true)
  | 1 => ("OvenPairs$Town", "kind", "[I", true)
  | 2 => ("OvenPairs$Town", "warm", "[I", true)
  | 3 => ("OvenPairs$Town", "place", "[I", true)
  | 4 => ("OvenPairs$Town", "fire", "[I", true)
  | 5 => ("OvenPairs$Town", "wishes", "[I", true)
  | 6 => ("OvenPairs$Town", "wills", "[I", true)
  | 7 => ("OvenPairs$Town", "choices", "[I", true)
  | 8 => ("OvenPairs$Town", "facts", "[I", true)
  | 9 => ("OvenPairs$Town", "reports", "[I", true)
  | 10 => ("OvenPairs$Town", "rules", "LOvenPairs$Rules;", false)
  | 11 => ("OvenPairs$Town", "count", "I", false)
  | 12 => ("OvenPairs$Town", "aways", "I", false)
  | 13 => ("OvenPairs$Town", "night", "I", false)
  | 14 => ("OvenPairs$Town", "end", "I", false)
  | 15 => ("OvenPairs$Town", "score", "I", false)
  | 16 => ("OvenPairs$Town", "z", "I", false)
  | _ => ("OvenPairs$Town", "reportCount", "I", false)
def tyX9 : Nat → FieldType := fun k => match k with
  | 0 => .array (.object "OvenPairs$Oven")
  | 1 => .array .int
  | 2 => .array .int
  | 3 => .array .int
  | 4 => .array .int
  | 5 => .array .int
  | 6 => .array .int
  | 7 => .array .int
  | 8 => .array .int
  | 9 => .array .int
  | 10 => .object "OvenPairs$Rules"
  | 11 => .int
  | 12 => .int
  | 13 => .int
  | 14 => .int
  | 15 => .int
  | 16 => .int
  | _ => .int
theorem nmX9 : ∀ a, a < 18 → ∀ b, b < 18 → a ≠ b → (TX9 a).2.1 ≠ (TX9 b).2.1 := by decide +kernel
theorem tyX9_ok : ∀ k, k < 18 → parseFieldDescriptor (TX9 k).2.2.1 = some (tyX9 k) := by decide +kernel
abbrev cX9_init : ByteArray := prog_11_method_1_code
def yX9_init : MethodName := ⟨RX9, "<init>", "()V"⟩
abbrev cX9_copyFrom : ByteArray := prog_11_method_2_code
def yX9_copyFrom : MethodName := ⟨RX9, "copyFrom", "(LOvenPairs$Town;)V"⟩
abbrev cX9_addOven : ByteArray := prog_11_method_3_code
def yX9_addOven : MethodName := ⟨RX9, "addOven", "(IIII)I"⟩
abbrev cX9_replace : ByteArray := prog_11_method_4_code
def yX9_replace : MethodName := ⟨RX9, "replace", "([III)I"⟩
abbrev cX9_replaceAway : ByteArray := prog_11_method_5_code
def yX9_replaceAway : MethodName := ⟨RX9, "replaceAway", "(II)I"⟩
abbrev cX9_obey : ByteArray := prog_11_method_6_code
def yX9_obey : MethodName := ⟨RX9, "obey", "(LOvenPairs$Rules;)V"⟩
abbrev cX9_settle : ByteArray := prog_11_method_7_code
def yX9_settle : MethodName := ⟨RX9, "settle", "(I)V"⟩
abbrev cX9_settleWish : ByteArray := prog_11_method_8_code
def yX9_settleWish : MethodName := ⟨RX9, "settleWish", "(II)V"⟩
abbrev cX9_settleWills : ByteArray := prog_11_method_9_code
def yX9_settleWills : MethodName := ⟨RX9, "settleWills", "(I)V"⟩
abbrev cX9_isOver : ByteArray := prog_11_method_10_code
def yX9_isOver : MethodName := ⟨RX9, "isOver", "()Z"⟩
abbrev cX9_nightsOf : ByteArray := prog_11_method_11_code
def yX9_nightsOf : MethodName := ⟨RX9, "nightsOf", "(I)I"⟩
abbrev cX9_everybody : ByteArray := prog_11_method_12_code
def yX9_everybody : MethodName := ⟨RX9, "everybody", "()I"⟩
abbrev cX9_wishOf : ByteArray := prog_11_method_13_code
def yX9_wishOf : MethodName := ⟨RX9, "wishOf", "(II)I"⟩
abbrev cX9_isPair : ByteArray := prog_11_method_14_code
def yX9_isPair : MethodName := ⟨RX9, "isPair", "(II)Z"⟩
abbrev cX9_willOf : ByteArray := prog_11_method_15_code
def yX9_willOf : MethodName := ⟨RX9, "willOf", "(II)I"⟩
abbrev cX9_bakesOf : ByteArray := prog_11_method_16_code
def yX9_bakesOf : MethodName := ⟨RX9, "bakesOf", "(II)I"⟩
abbrev cX9_awayOf : ByteArray := prog_11_method_17_code
def yX9_awayOf : MethodName := ⟨RX9, "awayOf", "(II)I"⟩
abbrev cX9_homeSet : ByteArray := prog_11_method_18_code
def yX9_homeSet : MethodName := ⟨RX9, "homeSet", "(I)I"⟩
abbrev cX9_freeSet : ByteArray := prog_11_method_19_code
def yX9_freeSet : MethodName := ⟨RX9, "freeSet", "(III)I"⟩
abbrev cX9_choiceOf : ByteArray := prog_11_method_20_code
def yX9_choiceOf : MethodName := ⟨RX9, "choiceOf", "(III)I"⟩
abbrev cX9_oneLess : ByteArray := prog_11_method_21_code
def yX9_oneLess : MethodName := ⟨RX9, "oneLess", "(I)I"⟩
abbrev cX9_after : ByteArray := prog_11_method_22_code
def yX9_after : MethodName := ⟨RX9, "after", "(III)I"⟩
abbrev cX9_worthOf : ByteArray := prog_11_method_23_code
def yX9_worthOf : MethodName := ⟨RX9, "worthOf", "(II)I"⟩
abbrev cX9_passNight : ByteArray := prog_11_method_24_code
def yX9_passNight : MethodName := ⟨RX9, "passNight", "(I)I"⟩
abbrev cX9_actByLot : ByteArray := prog_11_method_25_code
def yX9_actByLot : MethodName := ⟨RX9, "actByLot", "(I)I"⟩
abbrev cX9_addReport : ByteArray := prog_11_method_26_code
def yX9_addReport : MethodName := ⟨RX9, "addReport", "(IIII)I"⟩
abbrev cX9_isSo : ByteArray := prog_11_method_27_code
def yX9_isSo : MethodName := ⟨RX9, "isSo", "(III)Z"⟩
abbrev cX9_fits : ByteArray := prog_11_method_28_code
def yX9_fits : MethodName := ⟨RX9, "fits", "(III)Z"⟩
abbrev cX9_fitting : ByteArray := prog_11_method_29_code
def yX9_fitting : MethodName := ⟨RX9, "fitting", "(I)I"⟩
abbrev cX9_firstFitting : ByteArray := prog_11_method_30_code
def yX9_firstFitting : MethodName := ⟨RX9, "firstFitting", "(I)I"⟩
def RX10 : String := "OvenPairs$Widowed"
def TX10 : u_T := fun k => match k with
  | _ => ("", "", "", false)
def tyX10 : Nat → FieldType := fun k => match k with
  | _ => .int
theorem nmX10 : ∀ a, a < 0 → ∀ b, b < 0 → a ≠ b → (TX10 a).2.1 ≠ (TX10 b).2.1 := by decide +kernel
theorem tyX10_ok : ∀ k, k < 0 → parseFieldDescriptor (TX10 k).2.2.1 = some (tyX10 k) := by decide +kernel
abbrev cX10_init : ByteArray := prog_12_method_1_code
def yX10_init : MethodName := ⟨RX10, "<init>", "()V"⟩
abbrev cX10_yearns : ByteArray := prog_12_method_2_code
def yX10_yearns : MethodName := ⟨RX10, "yearns", "(IIIZ)I"⟩
abbrev cX10_bakes : ByteArray := prog_12_method_3_code
def yX10_bakes : MethodName := ⟨RX10, "bakes", "(II)I"⟩
abbrev cX10_glows : ByteArray := prog_12_method_4_code
def yX10_glows : MethodName := ⟨RX10, "glows", "(LOvenPairs$Deed;I)I"⟩
def RX11 : String := "OvenPairs"
def TX11 : u_T := fun k => match k with
  | 0 => ("OvenPairs", "town", "LOvenPairs$Town;", true)
  | 1 => ("OvenPairs", "saved", "LOvenPairs$Town;", true)
  | 2 => ("OvenPairs", "reader", "LOvenPairs$RulesReader;", true)
  | 3 => ("OvenPairs", "deed", "LOvenPairs$Deed;", true)
  | 4 => ("OvenPairs", "rows", "[I", true)
  | 5 => ("OvenPairs", "sheetSorts", "[I", true)
  | 6 => ("OvenPairs", "sheetSizes", "[I", true)
  | 7 => ("OvenPairs", "sheetItems", "[[I", true)
  | 8 => ("OvenPairs", "shelfHolds", "[I", true)
  | 9 => ("OvenPairs", "shelfThings", "[I", true)
  | 10 => ("OvenPairs", "shelfSizes", "[I", true)
  | 11 => ("OvenPairs", "rowCount", "I", false)
  | _ => ("OvenPairs", "anySaved", "Z", false)
def tyX11 : Nat → FieldType := fun k => match k with
  | 0 => .object "OvenPairs$Town"
  | 1 => .object "OvenPairs$Town"
  | 2 => .object "OvenPairs$RulesReader"
  | 3 => .object "OvenPairs$Deed"
  | 4 => .array .int
  | 5 => .array .int
  | 6 => .array .int
  | 7 => .array (.array .int)
  | 8 => .array .int
  | 9 => .array .int
  | 10 => .array .int
  | 11 => .int
  | _ => .boolean
theorem nmX11 : ∀ a, a < 13 → ∀ b, b < 13 → a ≠ b → (TX11 a).2.1 ≠ (TX11 b).2.1 := by decide +kernel
theorem tyX11_ok : ∀ k, k < 13 → parseFieldDescriptor (TX11 k).2.2.1 = some (tyX11 k) := by decide +kernel
abbrev cX11_init : ByteArray := prog_1_method_1_code
def yX11_init : MethodName := ⟨RX11, "<init>", "()V"⟩
abbrev cX11_oven : ByteArray := prog_1_method_2_code
def yX11_oven : MethodName := ⟨RX11, "oven", "(IIII)I"⟩
abbrev cX11_ovenOf : ByteArray := prog_1_method_3_code
def yX11_ovenOf : MethodName := ⟨RX11, "ovenOf", "(II)I"⟩
abbrev cX11_change : ByteArray := prog_1_method_4_code
def yX11_change : MethodName := ⟨RX11, "change", "(III)I"⟩
abbrev cX11_remake : ByteArray := prog_1_method_5_code
def yX11_remake : MethodName := ⟨RX11, "remake", "(II)I"⟩
abbrev cX11_longing : ByteArray := prog_1_method_6_code
def yX11_longing : MethodName := ⟨RX11, "longing", "(II)I"⟩
abbrev cX11_ends : ByteArray := prog_1_method_7_code
def yX11_ends : MethodName := ⟨RX11, "ends", "(I)I"⟩
abbrev cX11_anew : ByteArray := prog_1_method_8_code
def yX11_anew : MethodName := ⟨RX11, "anew", "()I"⟩
abbrev cX11_state : ByteArray := prog_1_method_9_code
def yX11_state : MethodName := ⟨RX11, "state", "(I)I"⟩
abbrev cX11_feed : ByteArray := prog_1_method_10_code
def yX11_feed : MethodName := ⟨RX11, "feed", "(JI)I"⟩
abbrev cX11_rules : ByteArray := prog_1_method_11_code
def yX11_rules : MethodName := ⟨RX11, "rules", "()I"⟩
abbrev cX11_night : ByteArray := prog_1_method_12_code
def yX11_night : MethodName := ⟨RX11, "night", "()I"⟩
abbrev cX11_on : ByteArray := prog_1_method_13_code
def yX11_on : MethodName := ⟨RX11, "on", "(I)I"⟩
abbrev cX11_goes : ByteArray := prog_1_method_14_code
def yX11_goes : MethodName := ⟨RX11, "goes", "(I)I"⟩
abbrev cX11_often : ByteArray := prog_1_method_15_code
def yX11_often : MethodName := ⟨RX11, "often", "(I)I"⟩
abbrev cX11_placeFor : ByteArray := prog_1_method_16_code
def yX11_placeFor : MethodName := ⟨RX11, "placeFor", "(I)I"⟩
abbrev cX11_warmFor : ByteArray := prog_1_method_17_code
def yX11_warmFor : MethodName := ⟨RX11, "warmFor", "(I)I"⟩
abbrev cX11_pairs : ByteArray := prog_1_method_18_code
def yX11_pairs : MethodName := ⟨RX11, "pairs", "()I"⟩
abbrev cX11_weddings : ByteArray := prog_1_method_19_code
def yX11_weddings : MethodName := ⟨RX11, "weddings", "(I)I"⟩
abbrev cX11_mate : ByteArray := prog_1_method_20_code
def yX11_mate : MethodName := ⟨RX11, "mate", "(I)I"⟩
abbrev cX11_chains : ByteArray := prog_1_method_21_code
def yX11_chains : MethodName := ⟨RX11, "chains", "(I)I"⟩
abbrev cX11_best : ByteArray := prog_1_method_22_code
def yX11_best : MethodName := ⟨RX11, "best", "(I)I"⟩
abbrev cX11_ith : ByteArray := prog_1_method_23_code
def yX11_ith : MethodName := ⟨RX11, "ith", "(II)I"⟩
abbrev cX11_ways : ByteArray := prog_1_method_24_code
def yX11_ways : MethodName := ⟨RX11, "ways", "(I)I"⟩
abbrev cX11_kept : ByteArray := prog_1_method_25_code
def yX11_kept : MethodName := ⟨RX11, "kept", "(II)I"⟩
abbrev cX11_bars : ByteArray := prog_1_method_26_code
def yX11_bars : MethodName := ⟨RX11, "bars", "(II)I"⟩
abbrev cX11_game : ByteArray := prog_1_method_27_code
def yX11_game : MethodName := ⟨RX11, "game", "(I)I"⟩
abbrev cX11_play : ByteArray := prog_1_method_28_code
def yX11_play : MethodName := ⟨RX11, "play", "(I)I"⟩
abbrev cX11_report : ByteArray := prog_1_method_29_code
def yX11_report : MethodName := ⟨RX11, "report", "(IIII)I"⟩
abbrev cX11_forget : ByteArray := prog_1_method_30_code
def yX11_forget : MethodName := ⟨RX11, "forget", "()I"⟩
abbrev cX11_span : ByteArray := prog_1_method_31_code
def yX11_span : MethodName := ⟨RX11, "span", "(I)I"⟩
abbrev cX11_liar : ByteArray := prog_1_method_32_code
def yX11_liar : MethodName := ⟨RX11, "liar", "()I"⟩
abbrev cX11_seed : ByteArray := prog_1_method_33_code
def yX11_seed : MethodName := ⟨RX11, "seed", "(I)I"⟩
abbrev cX11_lot : ByteArray := prog_1_method_34_code
def yX11_lot : MethodName := ⟨RX11, "lot", "()I"⟩
abbrev cX11_times : ByteArray := prog_1_method_35_code
def yX11_times : MethodName := ⟨RX11, "times", "(II)I"⟩
abbrev cX11_prove : ByteArray := prog_1_method_36_code
def yX11_prove : MethodName := ⟨RX11, "prove", "(I)I"⟩
abbrev cX11_row : ByteArray := prog_1_method_37_code
def yX11_row : MethodName := ⟨RX11, "row", "(II)I"⟩
abbrev cX11_alterRow : ByteArray := prog_1_method_38_code
def yX11_alterRow : MethodName := ⟨RX11, "alterRow", "(III)I"⟩
abbrev cX11_judge : ByteArray := prog_1_method_39_code
def yX11_judge : MethodName := ⟨RX11, "judge", "()I"⟩
abbrev cX11_sheet : ByteArray := prog_1_method_40_code
def yX11_sheet : MethodName := ⟨RX11, "sheet", "(III)I"⟩
abbrev cX11_write : ByteArray := prog_1_method_41_code
def yX11_write : MethodName := ⟨RX11, "write", "(III)I"⟩
abbrev cX11_item : ByteArray := prog_1_method_42_code
def yX11_item : MethodName := ⟨RX11, "item", "(III)I"⟩
abbrev cX11_goAll : ByteArray := prog_1_method_43_code
def yX11_goAll : MethodName := ⟨RX11, "goAll", "(III)I"⟩
abbrev cX11_wouldBe : ByteArray := prog_1_method_44_code
def yX11_wouldBe : MethodName := ⟨RX11, "wouldBe", "(III)I"⟩
abbrev cX11_shelf : ByteArray := prog_1_method_45_code
def yX11_shelf : MethodName := ⟨RX11, "shelf", "(III)I"⟩
abbrev cX11_taken : ByteArray := prog_1_method_46_code
def yX11_taken : MethodName := ⟨RX11, "taken", "(II)I"⟩
abbrev cX11_act : ByteArray := prog_1_method_47_code
def yX11_act : MethodName := ⟨RX11, "act", "(III)I"⟩
abbrev cX11_trace : ByteArray := prog_1_method_48_code
def yX11_trace : MethodName := ⟨RX11, "trace", "(I)I"⟩
abbrev cX11_many : ByteArray := prog_1_method_49_code
def yX11_many : MethodName := ⟨RX11, "many", "(I)I"⟩
abbrev cX11_keep : ByteArray := prog_1_method_50_code
def yX11_keep : MethodName := ⟨RX11, "keep", "()I"⟩
abbrev cX11_again : ByteArray := prog_1_method_51_code
def yX11_again : MethodName := ⟨RX11, "again", "()I"⟩
abbrev cX11_isBetween : ByteArray := prog_1_method_52_code
def yX11_isBetween : MethodName := ⟨RX11, "isBetween", "(III)Z"⟩
abbrev cX11_isKind : ByteArray := prog_1_method_53_code
def yX11_isKind : MethodName := ⟨RX11, "isKind", "(I)Z"⟩
abbrev cX11_isWarm : ByteArray := prog_1_method_54_code
def yX11_isWarm : MethodName := ⟨RX11, "isWarm", "(I)Z"⟩
abbrev cX11_isPlace : ByteArray := prog_1_method_55_code
def yX11_isPlace : MethodName := ⟨RX11, "isPlace", "(I)Z"⟩
abbrev cX11_isFire : ByteArray := prog_1_method_56_code
def yX11_isFire : MethodName := ⟨RX11, "isFire", "(I)Z"⟩
abbrev cX11_isPlan : ByteArray := prog_1_method_57_code
def yX11_isPlan : MethodName := ⟨RX11, "isPlan", "(I)Z"⟩
abbrev cX11_isGame : ByteArray := prog_1_method_58_code
def yX11_isGame : MethodName := ⟨RX11, "isGame", "(I)Z"⟩
abbrev cX11_isFelt : ByteArray := prog_1_method_59_code
def yX11_isFelt : MethodName := ⟨RX11, "isFelt", "(I)Z"⟩
abbrev cX11_isSheet : ByteArray := prog_1_method_60_code
def yX11_isSheet : MethodName := ⟨RX11, "isSheet", "(I)Z"⟩
abbrev cX11_isShelf : ByteArray := prog_1_method_61_code
def yX11_isShelf : MethodName := ⟨RX11, "isShelf", "(I)Z"⟩
abbrev cX11_isOven : ByteArray := prog_1_method_62_code
def yX11_isOven : MethodName := ⟨RX11, "isOven", "(I)Z"⟩
abbrev cX11_isAct : ByteArray := prog_1_method_63_code
def yX11_isAct : MethodName := ⟨RX11, "isAct", "(I)Z"⟩
abbrev cX11_isOvenSet : ByteArray := prog_1_method_64_code
def yX11_isOvenSet : MethodName := ⟨RX11, "isOvenSet", "(I)Z"⟩
abbrev cX11_isRow : ByteArray := prog_1_method_65_code
def yX11_isRow : MethodName := ⟨RX11, "isRow", "(II)Z"⟩
abbrev cX11_isItem : ByteArray := prog_1_method_66_code
def yX11_isItem : MethodName := ⟨RX11, "isItem", "(II)Z"⟩
abbrev cX11_isUnder : ByteArray := prog_1_method_67_code
def yX11_isUnder : MethodName := ⟨RX11, "isUnder", "(II)Z"⟩
abbrev cX11_chainOf : ByteArray := prog_1_method_68_code
def yX11_chainOf : MethodName := ⟨RX11, "chainOf", "(I)I"⟩
abbrev cX11_nextLot : ByteArray := prog_1_method_69_code
def yX11_nextLot : MethodName := ⟨RX11, "nextLot", "(I)I"⟩
abbrev cX11_narrowed : ByteArray := prog_1_method_70_code
def yX11_narrowed : MethodName := ⟨RX11, "narrowed", "(II)I"⟩
abbrev cX11_refusalAs : ByteArray := prog_1_method_71_code
def yX11_refusalAs : MethodName := ⟨RX11, "refusalAs", "(II)I"⟩
abbrev cX11_putOn : ByteArray := prog_1_method_72_code
def yX11_putOn : MethodName := ⟨RX11, "putOn", "(IIII)I"⟩
abbrev cX11_heldOn : ByteArray := prog_1_method_73_code
def yX11_heldOn : MethodName := ⟨RX11, "heldOn", "(I)I"⟩
def RX12 : String := "OvenPairsModel"
def TX12 : u_T := fun k => match k with
  | 0 => ("OvenPairsModel", "s", "[I", true)
  | 1 => ("OvenPairsModel", "held", "[I", true)
  | 2 => ("OvenPairsModel", "isHeld", "Z", false)
  | 3 => ("OvenPairsModel", "aside", "[I", true)
  | 4 => ("OvenPairsModel", "tape", "[I", true)
  | 5 => ("OvenPairsModel", "taped", "I", false)
  | 6 => ("OvenPairsModel", "wills", "[I", true)
  | 7 => ("OvenPairsModel", "free", "I", false)
  | 8 => ("OvenPairsModel", "token", "I", false)
  | 9 => ("OvenPairsModel", "from", "I", false)
  | 10 => ("OvenPairsModel", "to", "I", false)
  | 11 => ("OvenPairsModel", "value", "I", false)
  | 12 => ("OvenPairsModel", "isWrong", "Z", false)
  | 13 => ("OvenPairsModel", "open", "I", false)
  | 14 => ("OvenPairsModel", "before", "[I", true)
  | 15 => ("OvenPairsModel", "went", "I", false)
  | 16 => ("OvenPairsModel", "mates", "[I", true)
  | 17 => ("OvenPairsModel", "bestMates", "[I", true)
  | 18 => ("OvenPairsModel", "mostPairs", "I", false)
  | 19 => ("OvenPairsModel", "mostLonging", "I", false)
  | 20 => ("OvenPairsModel", "acts", "[I", true)
  | 21 => ("OvenPairsModel", "firstActs", "[I", true)
  | 22 => ("OvenPairsModel", "bestWorth", "I", false)
  | 23 => ("OvenPairsModel", "bestMany", "I", false)
  | 24 => ("OvenPairsModel", "firstLong", "I", false)
  | 25 => ("OvenPairsModel", "wanted", "I", false)
  | 26 => ("OvenPairsModel", "fewestActs", "I", false)
  | 27 => ("OvenPairsModel", "homes", "I", false)
  | 28 => ("OvenPairsModel", "firstAct", "I", false)
  | 29 => ("OvenPairsModel", "fits", "I", false)
  | 30 => ("OvenPairsModel", "firstFit", "I", false)
  | 31 => ("OvenPairsModel", "rows", "[I", true)
  | 32 => ("OvenPairsModel", "rowN", "I", false)
  | 33 => ("OvenPairsModel", "sortOf", "[I", true)
  | 34 => ("OvenPairsModel", "sizeOf", "[I", true)
  | 35 => ("OvenPairsModel", "numbers", "[I", true)
  | 36 => ("OvenPairsModel", "holdsWhat", "[I", true)
  | 37 => ("OvenPairsModel", "holdsWhich", "[I", true)
  | 38 => ("OvenPairsModel", "holdsMany", "[I", true)
  | 39 => ("OvenPairsModel", "bodies", "[I", true)
  | 40 => ("OvenPairsModel", "ran", "I", false)
  | 41 => ("OvenPairsModel", "actKind", "I", false)
  | 42 => ("OvenPairsModel", "actN", "I", false)
  | 43 => ("OvenPairsModel", "actA", "I", false)
  | _ => ("OvenPairsModel", "isParted", "Z", false)
def tyX12 : Nat → FieldType := fun k => match k with
  | 0 => .array .int
  | 1 => .array .int
  | 2 => .boolean
  | 3 => .array .int
  | 4 => .array .int
  | 5 => .int
  | 6 => .array .int
  | 7 => .int
  | 8 => .int
  | 9 => .int
  | 10 => .int
  | 11 => .int
  | 12 => .boolean
  | 13 => .int
  | 14 => .array .int
  | 15 => .int
  | 16 => .array .int
  | 17 => .array .int
  | 18 => .int
  | 19 => .int
  | 20 => .array .int
  | 21 => .array .int
  | 22 => .int
  | 23 => .int
  | 24 => .int
  | 25 => .int
  | 26 => .int
  | 27 => .int
  | 28 => .int
  | 29 => .int
  | 30 => .int
  | 31 => .array .int
  | 32 => .int
  | 33 => .array .int
  | 34 => .array .int
  | 35 => .array .int
  | 36 => .array .int
  | 37 => .array .int
  | 38 => .array .int
  | 39 => .array .int
  | 40 => .int
  | 41 => .int
  | 42 => .int
  | 43 => .int
  | _ => .boolean
theorem nmX12 : ∀ a, a < 45 → ∀ b, b < 45 → a ≠ b → (TX12 a).2.1 ≠ (TX12 b).2.1 := by decide +kernel
theorem tyX12_ok : ∀ k, k < 45 → parseFieldDescriptor (TX12 k).2.2.1 = some (tyX12 k) := by decide +kernel
abbrev cX12_init : ByteArray := prog_14_method_1_code
def yX12_init : MethodName := ⟨RX12, "<init>", "()V"⟩
abbrev cX12_isIn : ByteArray := prog_14_method_2_code
def yX12_isIn : MethodName := ⟨RX12, "isIn", "(JJJ)Z"⟩
abbrev cX12_isOven : ByteArray := prog_14_method_3_code
def yX12_isOven : MethodName := ⟨RX12, "isOven", "(I)Z"⟩
abbrev cX12_its : ByteArray := prog_14_method_4_code
def yX12_its : MethodName := ⟨RX12, "its", "(II)I"⟩
abbrev cX12_becomes : ByteArray := prog_14_method_5_code
def yX12_becomes : MethodName := ⟨RX12, "becomes", "(II)I"⟩
abbrev cX12_laysAside : ByteArray := prog_14_method_6_code
def yX12_laysAside : MethodName := ⟨RX12, "laysAside", "(I)V"⟩
abbrev cX12_laysBack : ByteArray := prog_14_method_7_code
def yX12_laysBack : MethodName := ⟨RX12, "laysBack", "(I)V"⟩
abbrev cX12_isOver : ByteArray := prog_14_method_8_code
def yX12_isOver : MethodName := ⟨RX12, "isOver", "()Z"⟩
abbrev cX12_oven : ByteArray := prog_14_method_9_code
def yX12_oven : MethodName := ⟨RX12, "oven", "(IIII)I"⟩
abbrev cX12_apart : ByteArray := prog_14_method_10_code
def yX12_apart : MethodName := ⟨RX12, "apart", "(II)I"⟩
abbrev cX12_longsBy : ByteArray := prog_14_method_11_code
def yX12_longsBy : MethodName := ⟨RX12, "longsBy", "(IIIIIZ)I"⟩
abbrev cX12_longs : ByteArray := prog_14_method_12_code
def yX12_longs : MethodName := ⟨RX12, "longs", "(II)I"⟩
abbrev cX12_bakes : ByteArray := prog_14_method_13_code
def yX12_bakes : MethodName := ⟨RX12, "bakes", "(I)I"⟩
abbrev cX12_isUnder : ByteArray := prog_14_method_14_code
def yX12_isUnder : MethodName := ⟨RX12, "isUnder", "(II)Z"⟩
abbrev cX12_valueOf : ByteArray := prog_14_method_15_code
def yX12_valueOf : MethodName := ⟨RX12, "valueOf", "(II)I"⟩
abbrev cX12_holds : ByteArray := prog_14_method_16_code
def yX12_holds : MethodName := ⟨RX12, "holds", "(II)Z"⟩
abbrev cX12_will : ByteArray := prog_14_method_17_code
def yX12_will : MethodName := ⟨RX12, "will", "(I)I"⟩
abbrev cX12_looks : ByteArray := prog_14_method_18_code
def yX12_looks : MethodName := ⟨RX12, "looks", "(I)V"⟩
abbrev cX12_choice : ByteArray := prog_14_method_19_code
def yX12_choice : MethodName := ⟨RX12, "choice", "(I)I"⟩
abbrev cX12_ovenOf : ByteArray := prog_14_method_20_code
def yX12_ovenOf : MethodName := ⟨RX12, "ovenOf", "(II)I"⟩
abbrev cX12_change : ByteArray := prog_14_method_21_code
def yX12_change : MethodName := ⟨RX12, "change", "(III)I"⟩
abbrev cX12_remake : ByteArray := prog_14_method_22_code
def yX12_remake : MethodName := ⟨RX12, "remake", "(II)I"⟩
abbrev cX12_longing : ByteArray := prog_14_method_23_code
def yX12_longing : MethodName := ⟨RX12, "longing", "(II)I"⟩
abbrev cX12_ends : ByteArray := prog_14_method_24_code
def yX12_ends : MethodName := ⟨RX12, "ends", "(I)I"⟩
abbrev cX12_anew : ByteArray := prog_14_method_25_code
def yX12_anew : MethodName := ⟨RX12, "anew", "()I"⟩
abbrev cX12_home : ByteArray := prog_14_method_26_code
def yX12_home : MethodName := ⟨RX12, "home", "()I"⟩
abbrev cX12_state : ByteArray := prog_14_method_27_code
def yX12_state : MethodName := ⟨RX12, "state", "(I)I"⟩
abbrev cX12_feed : ByteArray := prog_14_method_28_code
def yX12_feed : MethodName := ⟨RX12, "feed", "(JI)I"⟩
abbrev cX12_isAlpha : ByteArray := prog_14_method_29_code
def yX12_isAlpha : MethodName := ⟨RX12, "isAlpha", "(I)Z"⟩
abbrev cX12_isDigit : ByteArray := prog_14_method_30_code
def yX12_isDigit : MethodName := ⟨RX12, "isDigit", "(I)Z"⟩
abbrev cX12_byteAt : ByteArray := prog_14_method_31_code
def yX12_byteAt : MethodName := ⟨RX12, "byteAt", "(I)I"⟩
abbrev cX12_nextToken : ByteArray := prog_14_method_32_code
def yX12_nextToken : MethodName := ⟨RX12, "nextToken", "()V"⟩
abbrev cX12_needs : ByteArray := prog_14_method_33_code
def yX12_needs : MethodName := ⟨RX12, "needs", "(Z)V"⟩
abbrev cX12_isByte : ByteArray := prog_14_method_34_code
def yX12_isByte : MethodName := ⟨RX12, "isByte", "(I)Z"⟩
abbrev cX12_isName : ByteArray := prog_14_method_35_code
def yX12_isName : MethodName := ⟨RX12, "isName", "(IIIII)Z"⟩
abbrev cX12_isSame : ByteArray := prog_14_method_36_code
def yX12_isSame : MethodName := ⟨RX12, "isSame", "(IIII)Z"⟩
abbrev cX12_kindHere : ByteArray := prog_14_method_37_code
def yX12_kindHere : MethodName := ⟨RX12, "kindHere", "()I"⟩
abbrev cX12_doHere : ByteArray := prog_14_method_38_code
def yX12_doHere : MethodName := ⟨RX12, "doHere", "()I"⟩
abbrev cX12_factHere : ByteArray := prog_14_method_39_code
def yX12_factHere : MethodName := ⟨RX12, "factHere", "()I"⟩
abbrev cX12_isTwo : ByteArray := prog_14_method_40_code
def yX12_isTwo : MethodName := ⟨RX12, "isTwo", "(II)Z"⟩
abbrev cX12_steps : ByteArray := prog_14_method_41_code
def yX12_steps : MethodName := ⟨RX12, "steps", "(III)V"⟩
abbrev cX12_valueHere : ByteArray := prog_14_method_42_code
def yX12_valueHere : MethodName := ⟨RX12, "valueHere", "()I"⟩
abbrev cX12_comparesHere : ByteArray := prog_14_method_43_code
def yX12_comparesHere : MethodName := ⟨RX12, "comparesHere", "()V"⟩
abbrev cX12_oneHere : ByteArray := prog_14_method_44_code
def yX12_oneHere : MethodName := ⟨RX12, "oneHere", "()V"⟩
abbrev cX12_allHere : ByteArray := prog_14_method_45_code
def yX12_allHere : MethodName := ⟨RX12, "allHere", "()V"⟩
abbrev cX12_condHere : ByteArray := prog_14_method_46_code
def yX12_condHere : MethodName := ⟨RX12, "condHere", "()V"⟩
abbrev cX12_ruleHere : ByteArray := prog_14_method_47_code
def yX12_ruleHere : MethodName := ⟨RX12, "ruleHere", "()V"⟩
abbrev cX12_rules : ByteArray := prog_14_method_48_code
def yX12_rules : MethodName := ⟨RX12, "rules", "()I"⟩
abbrev cX12_goesBy : ByteArray := prog_14_method_49_code
def yX12_goesBy : MethodName := ⟨RX12, "goesBy", "(I)I"⟩
abbrev cX12_goesWith : ByteArray := prog_14_method_50_code
def yX12_goesWith : MethodName := ⟨RX12, "goesWith", "(I)I"⟩
abbrev cX12_night : ByteArray := prog_14_method_51_code
def yX12_night : MethodName := ⟨RX12, "night", "()I"⟩
abbrev cX12_onBy : ByteArray := prog_14_method_52_code
def yX12_onBy : MethodName := ⟨RX12, "onBy", "(II)I"⟩
abbrev cX12_on : ByteArray := prog_14_method_53_code
def yX12_on : MethodName := ⟨RX12, "on", "(I)I"⟩
abbrev cX12_goes : ByteArray := prog_14_method_54_code
def yX12_goes : MethodName := ⟨RX12, "goes", "(I)I"⟩
abbrev cX12_often : ByteArray := prog_14_method_55_code
def yX12_often : MethodName := ⟨RX12, "often", "(I)I"⟩
abbrev cX12_valueFor : ByteArray := prog_14_method_56_code
def yX12_valueFor : MethodName := ⟨RX12, "valueFor", "(III)I"⟩
abbrev cX12_placeFor : ByteArray := prog_14_method_57_code
def yX12_placeFor : MethodName := ⟨RX12, "placeFor", "(I)I"⟩
abbrev cX12_warmFor : ByteArray := prog_14_method_58_code
def yX12_warmFor : MethodName := ⟨RX12, "warmFor", "(I)I"⟩
abbrev cX12_isPair : ByteArray := prog_14_method_59_code
def yX12_isPair : MethodName := ⟨RX12, "isPair", "(II)Z"⟩
abbrev cX12_pairs : ByteArray := prog_14_method_60_code
def yX12_pairs : MethodName := ⟨RX12, "pairs", "()I"⟩
abbrev cX12_weds : ByteArray := prog_14_method_61_code
def yX12_weds : MethodName := ⟨RX12, "weds", "(IIII)V"⟩
abbrev cX12_findsWeddings : ByteArray := prog_14_method_62_code
def yX12_findsWeddings : MethodName := ⟨RX12, "findsWeddings", "()V"⟩
abbrev cX12_weddings : ByteArray := prog_14_method_63_code
def yX12_weddings : MethodName := ⟨RX12, "weddings", "(I)I"⟩
abbrev cX12_mate : ByteArray := prog_14_method_64_code
def yX12_mate : MethodName := ⟨RX12, "mate", "(I)I"⟩
abbrev cX12_size : ByteArray := prog_14_method_65_code
def yX12_size : MethodName := ⟨RX12, "size", "(I)I"⟩
abbrev cX12_isStill : ByteArray := prog_14_method_66_code
def yX12_isStill : MethodName := ⟨RX12, "isStill", "(I)Z"⟩
abbrev cX12_chains : ByteArray := prog_14_method_67_code
def yX12_chains : MethodName := ⟨RX12, "chains", "(I)I"⟩
abbrev cX12_plans : ByteArray := prog_14_method_68_code
def yX12_plans : MethodName := ⟨RX12, "plans", "(IIII)V"⟩
abbrev cX12_findsPlans : ByteArray := prog_14_method_69_code
def yX12_findsPlans : MethodName := ⟨RX12, "findsPlans", "(II)V"⟩
abbrev cX12_isLong : ByteArray := prog_14_method_70_code
def yX12_isLong : MethodName := ⟨RX12, "isLong", "(I)Z"⟩
abbrev cX12_best : ByteArray := prog_14_method_71_code
def yX12_best : MethodName := ⟨RX12, "best", "(I)I"⟩
abbrev cX12_ith : ByteArray := prog_14_method_72_code
def yX12_ith : MethodName := ⟨RX12, "ith", "(II)I"⟩
abbrev cX12_ways : ByteArray := prog_14_method_73_code
def yX12_ways : MethodName := ⟨RX12, "ways", "(I)I"⟩
abbrev cX12_isSet : ByteArray := prog_14_method_74_code
def yX12_isSet : MethodName := ⟨RX12, "isSet", "(I)Z"⟩
abbrev cX12_kept : ByteArray := prog_14_method_75_code
def yX12_kept : MethodName := ⟨RX12, "kept", "(II)I"⟩
abbrev cX12_bars : ByteArray := prog_14_method_76_code
def yX12_bars : MethodName := ⟨RX12, "bars", "(II)I"⟩
abbrev cX12_valueFrom : ByteArray := prog_14_method_77_code
def yX12_valueFrom : MethodName := ⟨RX12, "valueFrom", "(II)I"⟩
abbrev cX12_game : ByteArray := prog_14_method_78_code
def yX12_game : MethodName := ⟨RX12, "game", "(I)I"⟩
abbrev cX12_play : ByteArray := prog_14_method_79_code
def yX12_play : MethodName := ⟨RX12, "play", "(I)I"⟩
abbrev cX12_report : ByteArray := prog_14_method_80_code
def yX12_report : MethodName := ⟨RX12, "report", "(IIII)I"⟩
abbrev cX12_forget : ByteArray := prog_14_method_81_code
def yX12_forget : MethodName := ⟨RX12, "forget", "()I"⟩
abbrev cX12_isFit : ByteArray := prog_14_method_82_code
def yX12_isFit : MethodName := ⟨RX12, "isFit", "(III)Z"⟩
abbrev cX12_findsFits : ByteArray := prog_14_method_83_code
def yX12_findsFits : MethodName := ⟨RX12, "findsFits", "(I)V"⟩
abbrev cX12_span : ByteArray := prog_14_method_84_code
def yX12_span : MethodName := ⟨RX12, "span", "(I)I"⟩
abbrev cX12_liar : ByteArray := prog_14_method_85_code
def yX12_liar : MethodName := ⟨RX12, "liar", "()I"⟩
abbrev cX12_seed : ByteArray := prog_14_method_86_code
def yX12_seed : MethodName := ⟨RX12, "seed", "(I)I"⟩
abbrev cX12_goesByLot : ByteArray := prog_14_method_87_code
def yX12_goesByLot : MethodName := ⟨RX12, "goesByLot", "()I"⟩
abbrev cX12_lot : ByteArray := prog_14_method_88_code
def yX12_lot : MethodName := ⟨RX12, "lot", "()I"⟩
abbrev cX12_times : ByteArray := prog_14_method_89_code
def yX12_times : MethodName := ⟨RX12, "times", "(II)I"⟩
abbrev cX12_prove : ByteArray := prog_14_method_90_code
def yX12_prove : MethodName := ⟨RX12, "prove", "(I)I"⟩
abbrev cX12_isRow : ByteArray := prog_14_method_91_code
def yX12_isRow : MethodName := ⟨RX12, "isRow", "(II)Z"⟩
abbrev cX12_row : ByteArray := prog_14_method_92_code
def yX12_row : MethodName := ⟨RX12, "row", "(II)I"⟩
abbrev cX12_alterRow : ByteArray := prog_14_method_93_code
def yX12_alterRow : MethodName := ⟨RX12, "alterRow", "(III)I"⟩
abbrev cX12_isAct : ByteArray := prog_14_method_94_code
def yX12_isAct : MethodName := ⟨RX12, "isAct", "(I)Z"⟩
abbrev cX12_judge : ByteArray := prog_14_method_95_code
def yX12_judge : MethodName := ⟨RX12, "judge", "()I"⟩
abbrev cX12_isSheet : ByteArray := prog_14_method_96_code
def yX12_isSheet : MethodName := ⟨RX12, "isSheet", "(I)Z"⟩
abbrev cX12_isShelf : ByteArray := prog_14_method_97_code
def yX12_isShelf : MethodName := ⟨RX12, "isShelf", "(I)Z"⟩
abbrev cX12_sheet : ByteArray := prog_14_method_98_code
def yX12_sheet : MethodName := ⟨RX12, "sheet", "(III)I"⟩
abbrev cX12_write : ByteArray := prog_14_method_99_code
def yX12_write : MethodName := ⟨RX12, "write", "(III)I"⟩
abbrev cX12_lacks : ByteArray := prog_14_method_100_code
def yX12_lacks : MethodName := ⟨RX12, "lacks", "(II)I"⟩
abbrev cX12_item : ByteArray := prog_14_method_101_code
def yX12_item : MethodName := ⟨RX12, "item", "(III)I"⟩
abbrev cX12_goAll : ByteArray := prog_14_method_102_code
def yX12_goAll : MethodName := ⟨RX12, "goAll", "(III)I"⟩
abbrev cX12_sumBy : ByteArray := prog_14_method_103_code
def yX12_sumBy : MethodName := ⟨RX12, "sumBy", "(III)I"⟩
abbrev cX12_wouldBe : ByteArray := prog_14_method_104_code
def yX12_wouldBe : MethodName := ⟨RX12, "wouldBe", "(III)I"⟩
abbrev cX12_shelf : ByteArray := prog_14_method_105_code
def yX12_shelf : MethodName := ⟨RX12, "shelf", "(III)I"⟩
abbrev cX12_heldOn : ByteArray := prog_14_method_106_code
def yX12_heldOn : MethodName := ⟨RX12, "heldOn", "(I)I"⟩
abbrev cX12_taken : ByteArray := prog_14_method_107_code
def yX12_taken : MethodName := ⟨RX12, "taken", "(II)I"⟩
abbrev cX12_runs : ByteArray := prog_14_method_108_code
def yX12_runs : MethodName := ⟨RX12, "runs", "(I)V"⟩
abbrev cX12_glowsPlain : ByteArray := prog_14_method_109_code
def yX12_glowsPlain : MethodName := ⟨RX12, "glowsPlain", "(I)I"⟩
abbrev cX12_glows : ByteArray := prog_14_method_110_code
def yX12_glows : MethodName := ⟨RX12, "glows", "(I)I"⟩
abbrev cX12_longsPlain : ByteArray := prog_14_method_111_code
def yX12_longsPlain : MethodName := ⟨RX12, "longsPlain", "(I)I"⟩
abbrev cX12_longsActs : ByteArray := prog_14_method_112_code
def yX12_longsActs : MethodName := ⟨RX12, "longsActs", "(I)I"⟩
abbrev cX12_partsPlain : ByteArray := prog_14_method_113_code
def yX12_partsPlain : MethodName := ⟨RX12, "partsPlain", "(I)I"⟩
abbrev cX12_partsPortable : ByteArray := prog_14_method_114_code
def yX12_partsPortable : MethodName := ⟨RX12, "partsPortable", "(I)I"⟩
abbrev cX12_parts : ByteArray := prog_14_method_115_code
def yX12_parts : MethodName := ⟨RX12, "parts", "(I)I"⟩
abbrev cX12_wedsPlain : ByteArray := prog_14_method_116_code
def yX12_wedsPlain : MethodName := ⟨RX12, "wedsPlain", "(I)I"⟩
abbrev cX12_wedsActs : ByteArray := prog_14_method_117_code
def yX12_wedsActs : MethodName := ⟨RX12, "wedsActs", "(I)I"⟩
abbrev cX12_act : ByteArray := prog_14_method_118_code
def yX12_act : MethodName := ⟨RX12, "act", "(III)I"⟩
abbrev cX12_trace : ByteArray := prog_14_method_119_code
def yX12_trace : MethodName := ⟨RX12, "trace", "(I)I"⟩
abbrev cX12_many : ByteArray := prog_14_method_120_code
def yX12_many : MethodName := ⟨RX12, "many", "(I)I"⟩
abbrev cX12_keep : ByteArray := prog_14_method_121_code
def yX12_keep : MethodName := ⟨RX12, "keep", "()I"⟩
abbrev cX12_again : ByteArray := prog_14_method_122_code
def yX12_again : MethodName := ⟨RX12, "again", "()I"⟩
def RJ6 : String := "java/lang/Integer"
def TJ6 : u_T := fun k => match k with
  | _ => ("", "", "", false)
def tyJ6 : Nat → FieldType := fun k => match k with
  | _ => .int
theorem nmJ6 : ∀ a, a < 0 → ∀ b, b < 0 → a ≠ b → (TJ6 a).2.1 ≠ (TJ6 b).2.1 := by decide +kernel
theorem tyJ6_ok : ∀ k, k < 0 → parseFieldDescriptor (TJ6 k).2.2.1 = some (tyJ6 k) := by decide +kernel
abbrev cJ6_numberOfTrailingZeros_0f7a4 : ByteArray := prog_15_method_48_code
def yJ6_numberOfTrailingZeros_0f7a4 : MethodName := ⟨RJ6, "numberOfTrailingZeros", "(I)I"⟩
abbrev cJ6_bitCount_0f7a4 : ByteArray := prog_15_method_49_code
def yJ6_bitCount_0f7a4 : MethodName := ⟨RJ6, "bitCount", "(I)I"⟩
def RJ9 : String := "java/lang/Math"
def TJ9 : u_T := fun k => match k with
  | _ => ("", "", "", false)
def tyJ9 : Nat → FieldType := fun k => match k with
  | _ => .int
theorem nmJ9 : ∀ a, a < 0 → ∀ b, b < 0 → a ≠ b → (TJ9 a).2.1 ≠ (TJ9 b).2.1 := by decide +kernel
theorem tyJ9_ok : ∀ k, k < 0 → parseFieldDescriptor (TJ9 k).2.2.1 = some (tyJ9 k) := by decide +kernel
abbrev cJ9_abs_0f7a4 : ByteArray := prog_16_method_59_code
def yJ9_abs_0f7a4 : MethodName := ⟨RJ9, "abs", "(I)I"⟩
abbrev cJ9_max_7cf53 : ByteArray := prog_16_method_65_code
def yJ9_max_7cf53 : MethodName := ⟨RJ9, "max", "(II)I"⟩
abbrev cJ9_min_7cf53 : ByteArray := prog_16_method_69_code
def yJ9_min_7cf53 : MethodName := ⟨RJ9, "min", "(II)I"⟩
def RJ0 : String := "java/lang/String"
def TJ0 : u_T := fun k => match k with
  | _ => ("", "", "", false)
def tyJ0 : Nat → FieldType := fun k => match k with
  | _ => .int
theorem nmJ0 : ∀ a, a < 0 → ∀ b, b < 0 → a ≠ b → (TJ0 a).2.1 ≠ (TJ0 b).2.1 := by decide +kernel
theorem tyJ0_ok : ∀ k, k < 0 → parseFieldDescriptor (TJ0 k).2.2.1 = some (tyJ0 k) := by decide +kernel
abbrev cJ0_charAt_5068e : ByteArray := prog_17_method_56_code
def yJ0_charAt_5068e : MethodName := ⟨RJ0, "charAt", "(I)C"⟩
abbrev cJ0_isLatin1_aae02 : ByteArray := prog_17_method_154_code
def yJ0_isLatin1_aae02 : MethodName := ⟨RJ0, "isLatin1", "()Z"⟩
abbrev cJ0_checkIndex_df160 : ByteArray := prog_17_method_155_code
def yJ0_checkIndex_df160 : MethodName := ⟨RJ0, "checkIndex", "(II)V"⟩
def RJ1 : String := "java/lang/StringLatin1"
def TJ1 : u_T := fun k => match k with
  | _ => ("", "", "", false)
def tyJ1 : Nat → FieldType := fun k => match k with
  | _ => .int
theorem nmJ1 : ∀ a, a < 0 → ∀ b, b < 0 → a ≠ b → (TJ1 a).2.1 ≠ (TJ1 b).2.1 := by decide +kernel
theorem tyJ1_ok : ∀ k, k < 0 → parseFieldDescriptor (TJ1 k).2.2.1 = some (tyJ1 k) := by decide +kernel
abbrev cJ1_charAt_3b067 : ByteArray := prog_18_method_2_code
def yJ1_charAt_3b067 : MethodName := ⟨RJ1, "charAt", "([BI)C"⟩
def RJ2 : String := "java/lang/StringUTF16"
def TJ2 : u_T := fun k => match k with
  | _ => ("", "", "", false)
def tyJ2 : Nat → FieldType := fun k => match k with
  | _ => .int
theorem nmJ2 : ∀ a, a < 0 → ∀ b, b < 0 → a ≠ b → (TJ2 a).2.1 ≠ (TJ2 b).2.1 := by decide +kernel
theorem tyJ2_ok : ∀ k, k < 0 → parseFieldDescriptor (TJ2 k).2.2.1 = some (tyJ2 k) := by decide +kernel
abbrev cJ2_getChar_3b067 : ByteArray := prog_19_method_5_code
def yJ2_getChar_3b067 : MethodName := ⟨RJ2, "getChar", "([BI)C"⟩
abbrev cJ2_length_9d52b : ByteArray := prog_19_method_6_code
def yJ2_length_9d52b : MethodName := ⟨RJ2, "length", "([B)I"⟩
abbrev cJ2_charAt_3b067 : ByteArray := prog_19_method_83_code
def yJ2_charAt_3b067 : MethodName := ⟨RJ2, "charAt", "([BI)C"⟩
abbrev cJ2_checkIndex_2214a : ByteArray := prog_19_method_91_code
def yJ2_checkIndex_2214a : MethodName := ⟨RJ2, "checkIndex", "(I[B)V"⟩
def RJ10 : String := "java/lang/System"
def TJ10 : u_T := fun k => match k with
  | _ => ("", "", "", false)
def tyJ10 : Nat → FieldType := fun k => match k with
  | _ => .int
theorem nmJ10 : ∀ a, a < 0 → ∀ b, b < 0 → a ≠ b → (TJ10 a).2.1 ≠ (TJ10 b).2.1 := by decide +kernel
theorem tyJ10_ok : ∀ k, k < 0 → parseFieldDescriptor (TJ10 k).2.2.1 = some (tyJ10 k) := by decide +kernel
def RJ3 : String := "jdk/internal/util/Preconditions"
def TJ3 : u_T := fun k => match k with
  | _ => ("", "", "", false)
def tyJ3 : Nat → FieldType := fun k => match k with
  | _ => .int
theorem nmJ3 : ∀ a, a < 0 → ∀ b, b < 0 → a ≠ b → (TJ3 a).2.1 ≠ (TJ3 b).2.1 := by decide +kernel
theorem tyJ3_ok : ∀ k, k < 0 → parseFieldDescriptor (TJ3 k).2.2.1 = some (tyJ3 k) := by decide +kernel
abbrev cJ3_checkIndex_8e157 : ByteArray := prog_21_method_11_code
def yJ3_checkIndex_8e157 : MethodName := ⟨RJ3, "checkIndex", "(IILjava/util/function/BiFunction;)I"⟩
def RL : String := "OvenPairsLaw"
abbrev cL_law : ByteArray := code
def yL_law : MethodName := ⟨RL, "law", "([I)Z"⟩
