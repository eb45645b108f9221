section
-- ===== PART A: goes FIRST, ahead of the names: the tables' words, and 'selects' of the private methods out of them =====
/-- a private method of a class that the tables say can be made, by its rows of tables_1 -/
def lw_okq (q : MethodName × Nat) : Prop := (q.1.cls ≠ "java/lang/invoke/MethodHandle" ∧ q.1.cls ≠ "java/lang/invoke/VarHandle") ∧ Cond.instantiable q.1.cls q.2 ∈ tables_1 ∧ Cond.privateMethod q.1 ∈ tables_1 ∧ Cond.instanceMethod q.1 ∈ tables_1
theorem lw_p0 : lw_okq (⟨"BenchTimes", "finding", "(I)I"⟩, 14) := ⟨⟨by decide +kernel, by decide +kernel⟩, List.mem_of_getElem? (i := 20) (by decide +kernel), List.mem_of_getElem? (i := 357) (by decide +kernel), List.mem_of_getElem? (i := 358) (by decide +kernel)⟩
theorem lw_p1 : lw_okq (⟨"BenchTimes$Watch", "gatherNormals", "(I)V"⟩, 16) := ⟨⟨by decide +kernel, by decide +kernel⟩, List.mem_of_getElem? (i := 48) (by decide +kernel), List.mem_of_getElem? (i := 463) (by decide +kernel), List.mem_of_getElem? (i := 464) (by decide +kernel)⟩
theorem lw_p2 : lw_okq (⟨"BenchTimes$Watch", "putInOrder", "(I)V"⟩, 16) := ⟨⟨by decide +kernel, by decide +kernel⟩, List.mem_of_getElem? (i := 48) (by decide +kernel), List.mem_of_getElem? (i := 468) (by decide +kernel), List.mem_of_getElem? (i := 469) (by decide +kernel)⟩
theorem lw_p3 : lw_okq (⟨"BenchTimes$Watch", "keepNormals", "()V"⟩, 16) := ⟨⟨by decide +kernel, by decide +kernel⟩, List.mem_of_getElem? (i := 48) (by decide +kernel), List.mem_of_getElem? (i := 472) (by decide +kernel), List.mem_of_getElem? (i := 473) (by decide +kernel)⟩
theorem lw_p4 : lw_okq (⟨"BenchTimes", "newRate", "(II)I"⟩, 14) := ⟨⟨by decide +kernel, by decide +kernel⟩, List.mem_of_getElem? (i := 20) (by decide +kernel), List.mem_of_getElem? (i := 529) (by decide +kernel), List.mem_of_getElem? (i := 530) (by decide +kernel)⟩
theorem lw_p5 : lw_okq (⟨"BenchTimes$Rules", "readClauses", "()Z"⟩, 5) := ⟨⟨by decide +kernel, by decide +kernel⟩, List.mem_of_getElem? (i := 154) (by decide +kernel), List.mem_of_getElem? (i := 646) (by decide +kernel), List.mem_of_getElem? (i := 647) (by decide +kernel)⟩
theorem lw_p6 : lw_okq (⟨"BenchTimes$Rules", "readClause", "()Z"⟩, 5) := ⟨⟨by decide +kernel, by decide +kernel⟩, List.mem_of_getElem? (i := 154) (by decide +kernel), List.mem_of_getElem? (i := 651) (by decide +kernel), List.mem_of_getElem? (i := 652) (by decide +kernel)⟩
theorem lw_p7 : lw_okq (⟨"BenchTimes$Rules", "readWord", "()I"⟩, 5) := ⟨⟨by decide +kernel, by decide +kernel⟩, List.mem_of_getElem? (i := 154) (by decide +kernel), List.mem_of_getElem? (i := 655) (by decide +kernel), List.mem_of_getElem? (i := 656) (by decide +kernel)⟩
theorem lw_p8 : lw_okq (⟨"BenchTimes$Rules", "alikeWith", "(Ljava/lang/String;)I"⟩, 5) := ⟨⟨by decide +kernel, by decide +kernel⟩, List.mem_of_getElem? (i := 154) (by decide +kernel), List.mem_of_getElem? (i := 667) (by decide +kernel), List.mem_of_getElem? (i := 668) (by decide +kernel)⟩
theorem lw_p9 : lw_okq (⟨"BenchTimes$Rules", "readSign", "(C)Z"⟩, 5) := ⟨⟨by decide +kernel, by decide +kernel⟩, List.mem_of_getElem? (i := 154) (by decide +kernel), List.mem_of_getElem? (i := 720) (by decide +kernel), List.mem_of_getElem? (i := 721) (by decide +kernel)⟩
theorem lw_p10 : lw_okq (⟨"BenchTimes$Rules", "readNumber", "()I"⟩, 5) := ⟨⟨by decide +kernel, by decide +kernel⟩, List.mem_of_getElem? (i := 154) (by decide +kernel), List.mem_of_getElem? (i := 724) (by decide +kernel), List.mem_of_getElem? (i := 725) (by decide +kernel)⟩
theorem lw_p11 : lw_okq (⟨"BenchTimes$Rules", "takeNewValues", "()I"⟩, 5) := ⟨⟨by decide +kernel, by decide +kernel⟩, List.mem_of_getElem? (i := 154) (by decide +kernel), List.mem_of_getElem? (i := 731) (by decide +kernel), List.mem_of_getElem? (i := 732) (by decide +kernel)⟩
theorem lw_p12 : lw_okq (⟨"BenchTimes", "isOn", "(I)Z"⟩, 14) := ⟨⟨by decide +kernel, by decide +kernel⟩, List.mem_of_getElem? (i := 20) (by decide +kernel), List.mem_of_getElem? (i := 744) (by decide +kernel), List.mem_of_getElem? (i := 745) (by decide +kernel)⟩
theorem lw_p13 : lw_okq (⟨"BenchTimes$WorkRows", "learnersMore", "(II)I"⟩, 11) := ⟨⟨by decide +kernel, by decide +kernel⟩, List.mem_of_getElem? (i := 176) (by decide +kernel), List.mem_of_getElem? (i := 802) (by decide +kernel), List.mem_of_getElem? (i := 803) (by decide +kernel)⟩
theorem lw_p14 : lw_okq (⟨"BenchTimes$Pays", "forWaiting", "(II)I"⟩, 3) := ⟨⟨by decide +kernel, by decide +kernel⟩, List.mem_of_getElem? (i := 241) (by decide +kernel), List.mem_of_getElem? (i := 820) (by decide +kernel), List.mem_of_getElem? (i := 821) (by decide +kernel)⟩
theorem lw_p15 : lw_okq (⟨"BenchTimes", "orNone", "(I)I"⟩, 14) := ⟨⟨by decide +kernel, by decide +kernel⟩, List.mem_of_getElem? (i := 20) (by decide +kernel), List.mem_of_getElem? (i := 858) (by decide +kernel), List.mem_of_getElem? (i := 859) (by decide +kernel)⟩
def lw_privs_1 : List (MethodName × Nat) := [(⟨"BenchTimes", "finding", "(I)I"⟩, 14), (⟨"BenchTimes$Watch", "gatherNormals", "(I)V"⟩, 16), (⟨"BenchTimes$Watch", "putInOrder", "(I)V"⟩, 16), (⟨"BenchTimes$Watch", "keepNormals", "()V"⟩, 16), (⟨"BenchTimes", "newRate", "(II)I"⟩, 14), (⟨"BenchTimes$Rules", "readClauses", "()Z"⟩, 5), (⟨"BenchTimes$Rules", "readClause", "()Z"⟩, 5), (⟨"BenchTimes$Rules", "readWord", "()I"⟩, 5), (⟨"BenchTimes$Rules", "alikeWith", "(Ljava/lang/String;)I"⟩, 5), (⟨"BenchTimes$Rules", "readSign", "(C)Z"⟩, 5), (⟨"BenchTimes$Rules", "readNumber", "()I"⟩, 5), (⟨"BenchTimes$Rules", "takeNewValues", "()I"⟩, 5), (⟨"BenchTimes", "isOn", "(I)Z"⟩, 14), (⟨"BenchTimes$WorkRows", "learnersMore", "(II)I"⟩, 11), (⟨"BenchTimes$Pays", "forWaiting", "(II)I"⟩, 3), (⟨"BenchTimes", "orNone", "(I)I"⟩, 14)]
theorem lw_r1 : ∀ q ∈ lw_privs_1, lw_okq q := List.forall_mem_cons.mpr ⟨lw_p0, List.forall_mem_cons.mpr ⟨lw_p1, List.forall_mem_cons.mpr ⟨lw_p2, List.forall_mem_cons.mpr ⟨lw_p3, List.forall_mem_cons.mpr ⟨lw_p4, List.forall_mem_cons.mpr ⟨lw_p5, List.forall_mem_cons.mpr ⟨lw_p6, List.forall_mem_cons.mpr ⟨lw_p7, List.forall_mem_cons.mpr ⟨lw_p8, List.forall_mem_cons.mpr ⟨lw_p9, List.forall_mem_cons.mpr ⟨lw_p10, List.forall_mem_cons.mpr ⟨lw_p11, List.forall_mem_cons.mpr ⟨lw_p12, List.forall_mem_cons.mpr ⟨lw_p13, List.forall_mem_cons.mpr ⟨lw_p14, List.forall_mem_cons.mpr ⟨lw_p15, fun _ h => absurd h List.not_mem_nil⟩⟩⟩⟩⟩⟩⟩⟩⟩⟩⟩⟩⟩⟩⟩⟩
theorem lw_p16 : lw_okq (⟨"BenchTimes$Doubt", "reckonScores", "()V"⟩, 4) := ⟨⟨by decide +kernel, by decide +kernel⟩, List.mem_of_getElem? (i := 257) (by decide +kernel), List.mem_of_getElem? (i := 913) (by decide +kernel), List.mem_of_getElem? (i := 914) (by decide +kernel)⟩
theorem lw_p17 : lw_okq (⟨"BenchTimes$Doubt", "hasRows", "(I)Z"⟩, 4) := ⟨⟨by decide +kernel, by decide +kernel⟩, List.mem_of_getElem? (i := 257) (by decide +kernel), List.mem_of_getElem? (i := 918) (by decide +kernel), List.mem_of_getElem? (i := 919) (by decide +kernel)⟩
theorem lw_p18 : lw_okq (⟨"BenchTimes$Doubt", "manyAhead", "(I)I"⟩, 4) := ⟨⟨by decide +kernel, by decide +kernel⟩, List.mem_of_getElem? (i := 257) (by decide +kernel), List.mem_of_getElem? (i := 922) (by decide +kernel), List.mem_of_getElem? (i := 923) (by decide +kernel)⟩
theorem lw_p19 : lw_okq (⟨"BenchTimes$Slowness", "countWays", "()V"⟩, 6) := ⟨⟨by decide +kernel, by decide +kernel⟩, List.mem_of_getElem? (i := 277) (by decide +kernel), List.mem_of_getElem? (i := 954) (by decide +kernel), List.mem_of_getElem? (i := 955) (by decide +kernel)⟩
theorem lw_p20 : lw_okq (⟨"BenchTimes$Slowness", "rankOf", "(I)I"⟩, 6) := ⟨⟨by decide +kernel, by decide +kernel⟩, List.mem_of_getElem? (i := 277) (by decide +kernel), List.mem_of_getElem? (i := 959) (by decide +kernel), List.mem_of_getElem? (i := 960) (by decide +kernel)⟩
theorem lw_p21 : lw_okq (⟨"BenchTimes$Slowness", "addRow", "(III)V"⟩, 6) := ⟨⟨by decide +kernel, by decide +kernel⟩, List.mem_of_getElem? (i := 277) (by decide +kernel), List.mem_of_getElem? (i := 964) (by decide +kernel), List.mem_of_getElem? (i := 965) (by decide +kernel)⟩
theorem lw_p22 : lw_okq (⟨"BenchTimes$Slowness", "watchedRanks", "()I"⟩, 6) := ⟨⟨by decide +kernel, by decide +kernel⟩, List.mem_of_getElem? (i := 277) (by decide +kernel), List.mem_of_getElem? (i := 968) (by decide +kernel), List.mem_of_getElem? (i := 969) (by decide +kernel)⟩
theorem lw_p23 : lw_okq (⟨"BenchTimesModel", "finding", "(I)I"⟩, 49) := ⟨⟨by decide +kernel, by decide +kernel⟩, List.mem_of_getElem? (i := 1009) (by decide +kernel), List.mem_of_getElem? (i := 1170) (by decide +kernel), List.mem_of_getElem? (i := 1171) (by decide +kernel)⟩
theorem lw_p24 : lw_okq (⟨"BenchTimesModel", "isElement", "(I)Z"⟩, 49) := ⟨⟨by decide +kernel, by decide +kernel⟩, List.mem_of_getElem? (i := 1009) (by decide +kernel), List.mem_of_getElem? (i := 1179) (by decide +kernel), List.mem_of_getElem? (i := 1180) (by decide +kernel)⟩
theorem lw_p25 : lw_okq (⟨"BenchTimesModel", "allowanceOf", "(I)I"⟩, 49) := ⟨⟨by decide +kernel, by decide +kernel⟩, List.mem_of_getElem? (i := 1009) (by decide +kernel), List.mem_of_getElem? (i := 1183) (by decide +kernel), List.mem_of_getElem? (i := 1184) (by decide +kernel)⟩
theorem lw_p26 : lw_okq (⟨"BenchTimesModel", "habitOf", "(I)I"⟩, 49) := ⟨⟨by decide +kernel, by decide +kernel⟩, List.mem_of_getElem? (i := 1009) (by decide +kernel), List.mem_of_getElem? (i := 1202) (by decide +kernel), List.mem_of_getElem? (i := 1203) (by decide +kernel)⟩
theorem lw_p27 : lw_okq (⟨"BenchTimesModel", "normalOf", "(I)I"⟩, 49) := ⟨⟨by decide +kernel, by decide +kernel⟩, List.mem_of_getElem? (i := 1009) (by decide +kernel), List.mem_of_getElem? (i := 1214) (by decide +kernel), List.mem_of_getElem? (i := 1215) (by decide +kernel)⟩
theorem lw_p28 : lw_okq (⟨"BenchTimesModel", "cyclesOf", "(I)I"⟩, 49) := ⟨⟨by decide +kernel, by decide +kernel⟩, List.mem_of_getElem? (i := 1009) (by decide +kernel), List.mem_of_getElem? (i := 1222) (by decide +kernel), List.mem_of_getElem? (i := 1223) (by decide +kernel)⟩
theorem lw_p29 : lw_okq (⟨"BenchTimesModel", "standardOf", "(I)I"⟩, 49) := ⟨⟨by decide +kernel, by decide +kernel⟩, List.mem_of_getElem? (i := 1009) (by decide +kernel), List.mem_of_getElem? (i := 1226) (by decide +kernel), List.mem_of_getElem? (i := 1227) (by decide +kernel)⟩
theorem lw_p30 : lw_okq (⟨"BenchTimesModel", "keptOf", "(II)I"⟩, 49) := ⟨⟨by decide +kernel, by decide +kernel⟩, List.mem_of_getElem? (i := 1009) (by decide +kernel), List.mem_of_getElem? (i := 1230) (by decide +kernel), List.mem_of_getElem? (i := 1231) (by decide +kernel)⟩
theorem lw_p31 : lw_okq (⟨"BenchTimesModel", "isJob", "(I)Z"⟩, 49) := ⟨⟨by decide +kernel, by decide +kernel⟩, List.mem_of_getElem? (i := 1009) (by decide +kernel), List.mem_of_getElem? (i := 1242) (by decide +kernel), List.mem_of_getElem? (i := 1243) (by decide +kernel)⟩
def lw_privs_2 : List (MethodName × Nat) := [(⟨"BenchTimes$Doubt", "reckonScores", "()V"⟩, 4), (⟨"BenchTimes$Doubt", "hasRows", "(I)Z"⟩, 4), (⟨"BenchTimes$Doubt", "manyAhead", "(I)I"⟩, 4), (⟨"BenchTimes$Slowness", "countWays", "()V"⟩, 6), (⟨"BenchTimes$Slowness", "rankOf", "(I)I"⟩, 6), (⟨"BenchTimes$Slowness", "addRow", "(III)V"⟩, 6), (⟨"BenchTimes$Slowness", "watchedRanks", "()I"⟩, 6), (⟨"BenchTimesModel", "finding", "(I)I"⟩, 49), (⟨"BenchTimesModel", "isElement", "(I)Z"⟩, 49), (⟨"BenchTimesModel", "allowanceOf", "(I)I"⟩, 49), (⟨"BenchTimesModel", "habitOf", "(I)I"⟩, 49), (⟨"BenchTimesModel", "normalOf", "(I)I"⟩, 49), (⟨"BenchTimesModel", "cyclesOf", "(I)I"⟩, 49), (⟨"BenchTimesModel", "standardOf", "(I)I"⟩, 49), (⟨"BenchTimesModel", "keptOf", "(II)I"⟩, 49), (⟨"BenchTimesModel", "isJob", "(I)Z"⟩, 49)]
theorem lw_r2 : ∀ q ∈ lw_privs_2, lw_okq q := List.forall_mem_cons.mpr ⟨lw_p16, List.forall_mem_cons.mpr ⟨lw_p17, List.forall_mem_cons.mpr ⟨lw_p18, List.forall_mem_cons.mpr ⟨lw_p19, List.forall_mem_cons.mpr ⟨lw_p20, List.forall_mem_cons.mpr ⟨lw_p21, List.forall_mem_cons.mpr ⟨lw_p22, List.forall_mem_cons.mpr ⟨lw_p23, List.forall_mem_cons.mpr ⟨lw_p24, List.forall_mem_cons.mpr ⟨lw_p25, List.forall_mem_cons.mpr ⟨lw_p26, List.forall_mem_cons.mpr ⟨lw_p27, List.forall_mem_cons.mpr ⟨lw_p28, List.forall_mem_cons.mpr ⟨lw_p29, List.forall_mem_cons.mpr ⟨lw_p30, List.forall_mem_cons.mpr ⟨lw_p31, fun _ h => absurd h List.not_mem_nil⟩⟩⟩⟩⟩⟩⟩⟩⟩⟩⟩⟩⟩⟩⟩⟩
theorem lw_p32 : lw_okq (⟨"BenchTimesModel", "latestOf", "(I)I"⟩, 49) := ⟨⟨by decide +kernel, by decide +kernel⟩, List.mem_of_getElem? (i := 1009) (by decide +kernel), List.mem_of_getElem? (i := 1246) (by decide +kernel), List.mem_of_getElem? (i := 1247) (by decide +kernel)⟩
theorem lw_p33 : lw_okq (⟨"BenchTimesModel", "make", "(III)I"⟩, 49) := ⟨⟨by decide +kernel, by decide +kernel⟩, List.mem_of_getElem? (i := 1009) (by decide +kernel), List.mem_of_getElem? (i := 1254) (by decide +kernel), List.mem_of_getElem? (i := 1255) (by decide +kernel)⟩
theorem lw_p34 : lw_okq (⟨"BenchTimesModel", "sumOf", "(I)I"⟩, 49) := ⟨⟨by decide +kernel, by decide +kernel⟩, List.mem_of_getElem? (i := 1009) (by decide +kernel), List.mem_of_getElem? (i := 1258) (by decide +kernel), List.mem_of_getElem? (i := 1259) (by decide +kernel)⟩
theorem lw_p35 : lw_okq (⟨"BenchTimesModel", "forceOf", "(II)I"⟩, 49) := ⟨⟨by decide +kernel, by decide +kernel⟩, List.mem_of_getElem? (i := 1009) (by decide +kernel), List.mem_of_getElem? (i := 1277) (by decide +kernel), List.mem_of_getElem? (i := 1278) (by decide +kernel)⟩
theorem lw_p36 : lw_okq (⟨"BenchTimesModel", "readAll", "()I"⟩, 49) := ⟨⟨by decide +kernel, by decide +kernel⟩, List.mem_of_getElem? (i := 1009) (by decide +kernel), List.mem_of_getElem? (i := 1297) (by decide +kernel), List.mem_of_getElem? (i := 1298) (by decide +kernel)⟩
theorem lw_p37 : lw_okq (⟨"BenchTimesModel", "wordHere", "()I"⟩, 49) := ⟨⟨by decide +kernel, by decide +kernel⟩, List.mem_of_getElem? (i := 1009) (by decide +kernel), List.mem_of_getElem? (i := 1301) (by decide +kernel), List.mem_of_getElem? (i := 1302) (by decide +kernel)⟩
theorem lw_p38 : lw_okq (⟨"BenchTimesModel", "here", "()I"⟩, 49) := ⟨⟨by decide +kernel, by decide +kernel⟩, List.mem_of_getElem? (i := 1009) (by decide +kernel), List.mem_of_getElem? (i := 1307) (by decide +kernel), List.mem_of_getElem? (i := 1308) (by decide +kernel)⟩
theorem lw_p39 : lw_okq (⟨"BenchTimesModel", "earnedBy", "(I)I"⟩, 49) := ⟨⟨by decide +kernel, by decide +kernel⟩, List.mem_of_getElem? (i := 1009) (by decide +kernel), List.mem_of_getElem? (i := 1335) (by decide +kernel), List.mem_of_getElem? (i := 1336) (by decide +kernel)⟩
theorem lw_p40 : lw_okq (⟨"BenchTimesModel", "payOf", "(III)I"⟩, 49) := ⟨⟨by decide +kernel, by decide +kernel⟩, List.mem_of_getElem? (i := 1009) (by decide +kernel), List.mem_of_getElem? (i := 1343) (by decide +kernel), List.mem_of_getElem? (i := 1344) (by decide +kernel)⟩
theorem lw_p41 : lw_okq (⟨"BenchTimesModel", "efficiencyOf", "(II)I"⟩, 49) := ⟨⟨by decide +kernel, by decide +kernel⟩, List.mem_of_getElem? (i := 1009) (by decide +kernel), List.mem_of_getElem? (i := 1359) (by decide +kernel), List.mem_of_getElem? (i := 1360) (by decide +kernel)⟩
theorem lw_p42 : lw_okq (⟨"BenchTimesModel", "isLooser", "(II)Z"⟩, 49) := ⟨⟨by decide +kernel, by decide +kernel⟩, List.mem_of_getElem? (i := 1009) (by decide +kernel), List.mem_of_getElem? (i := 1368) (by decide +kernel), List.mem_of_getElem? (i := 1369) (by decide +kernel)⟩
def lw_privs_3 : List (MethodName × Nat) := [(⟨"BenchTimesModel", "latestOf", "(I)I"⟩, 49), (⟨"BenchTimesModel", "make", "(III)I"⟩, 49), (⟨"BenchTimesModel", "sumOf", "(I)I"⟩, 49), (⟨"BenchTimesModel", "forceOf", "(II)I"⟩, 49), (⟨"BenchTimesModel", "readAll", "()I"⟩, 49), (⟨"BenchTimesModel", "wordHere", "()I"⟩, 49), (⟨"BenchTimesModel", "here", "()I"⟩, 49), (⟨"BenchTimesModel", "earnedBy", "(I)I"⟩, 49), (⟨"BenchTimesModel", "payOf", "(III)I"⟩, 49), (⟨"BenchTimesModel", "efficiencyOf", "(II)I"⟩, 49), (⟨"BenchTimesModel", "isLooser", "(II)Z"⟩, 49)]
theorem lw_r3 : ∀ q ∈ lw_privs_3, lw_okq q := List.forall_mem_cons.mpr ⟨lw_p32, List.forall_mem_cons.mpr ⟨lw_p33, List.forall_mem_cons.mpr ⟨lw_p34, List.forall_mem_cons.mpr ⟨lw_p35, List.forall_mem_cons.mpr ⟨lw_p36, List.forall_mem_cons.mpr ⟨lw_p37, List.forall_mem_cons.mpr ⟨lw_p38, List.forall_mem_cons.mpr ⟨lw_p39, List.forall_mem_cons.mpr ⟨lw_p40, List.forall_mem_cons.mpr ⟨lw_p41, List.forall_mem_cons.mpr ⟨lw_p42, fun _ h => absurd h List.not_mem_nil⟩⟩⟩⟩⟩⟩⟩⟩⟩⟩⟩
def lw_privs : List (MethodName × Nat) := lw_privs_1 ++ (lw_privs_2 ++ (lw_privs_3))
def lw_tbl : List Cond := k2_sels lw_privs ++ tables_1
theorem lw_privs_ok : ∀ q ∈ lw_privs, lw_okq q := by
  show ∀ q ∈ lw_privs_1 ++ (lw_privs_2 ++ (lw_privs_3)), lw_okq q
  exact List.forall_mem_append.mpr ⟨lw_r1, List.forall_mem_append.mpr ⟨lw_r2, lw_r3⟩⟩
-- ===== names of the classes and methods =====
def RX0 : String := "BenchTimes$Doubt"
def TX0 : u_T := fun k => match k with
  | 0 => ("BenchTimes$Doubt", "rows", "LBenchTimes$WorkRows;", true)
  | 1 => ("BenchTimes$Doubt", "earned", "[J", true)
  | 2 => ("BenchTimes$Doubt", "minutes", "[I", true)
  | _ => ("BenchTimes$Doubt", "scores", "[I", true)
def tyX0 : Nat → FieldType := fun k => match k with
  | 0 => .object "BenchTimes$WorkRows"
  | 1 => .array .long
  | 2 => .array .int
  | _ => .array .int
abbrev wsX00 : List Cond := u_ws RX0 TX0 4
theorem nmX0 : ∀ a, a < 4 → ∀ b, b < 4 → a ≠ b → (TX0 a).2.1 ≠ (TX0 b).2.1 := by decide +kernel
theorem tyX0_ok : ∀ k, k < 4 → parseFieldDescriptor (TX0 k).2.2.1 = some (tyX0 k) := by decide +kernel
abbrev cX0_init : ByteArray := prog_2_method_1_code
def yX0_init : MethodName := ⟨RX0, "<init>", "(LBenchTimes$WorkRows;)V"⟩
abbrev cX0_survey : ByteArray := prog_2_method_2_code
def yX0_survey : MethodName := ⟨RX0, "survey", "()V"⟩
abbrev cX0_efficiencyOf : ByteArray := prog_2_method_3_code
def yX0_efficiencyOf : MethodName := ⟨RX0, "efficiencyOf", "(II)I"⟩
abbrev cX0_isLooser : ByteArray := prog_2_method_4_code
def yX0_isLooser : MethodName := ⟨RX0, "isLooser", "(II)Z"⟩
abbrev cX0_jobAt : ByteArray := prog_2_method_5_code
def yX0_jobAt : MethodName := ⟨RX0, "jobAt", "(I)I"⟩
abbrev cX0_hasRows : ByteArray := prog_2_method_6_code
def yX0_hasRows : MethodName := ⟨RX0, "hasRows", "(I)Z"⟩
abbrev cX0_reckonScores : ByteArray := prog_2_method_7_code
def yX0_reckonScores : MethodName := ⟨RX0, "reckonScores", "()V"⟩
abbrev cX0_manyAhead : ByteArray := prog_2_method_8_code
def yX0_manyAhead : MethodName := ⟨RX0, "manyAhead", "(I)I"⟩
abbrev cX0_waysToChoose : ByteArray := prog_2_method_9_code
def yX0_waysToChoose : MethodName := ⟨RX0, "waysToChoose", "(II)I"⟩
def RX1 : String := "BenchTimes$Elements"
def TX1 : u_T := fun k => match k with
  | 0 => ("BenchTimes$Elements", "kinds", "[I", true)
  | 1 => ("BenchTimes$Elements", "many", "I", false)
  | 2 => ("BenchTimes$Elements", "base", "I", false)
  | _ => ("BenchTimes$Elements", "more", "I", false)
def tyX1 : Nat → FieldType := fun k => match k with
  | 0 => .array .int
  | 1 => .int
  | 2 => .int
  | _ => .int
abbrev wsX10 : List Cond := u_ws RX1 TX1 4
theorem nmX1 : ∀ a, a < 4 → ∀ b, b < 4 → a ≠ b → (TX1 a).2.1 ≠ (TX1 b).2.1 := by decide +kernel
theorem tyX1_ok : ∀ k, k < 4 → parseFieldDescriptor (TX1 k).2.2.1 = some (tyX1 k) := by decide +kernel
abbrev cX1_init : ByteArray := prog_3_method_1_code
def yX1_init : MethodName := ⟨RX1, "<init>", "()V"⟩
abbrev cX1_isKind : ByteArray := prog_3_method_2_code
def yX1_isKind : MethodName := ⟨RX1, "isKind", "(I)Z"⟩
abbrev cX1_many : ByteArray := prog_3_method_3_code
def yX1_many : MethodName := ⟨RX1, "many", "()I"⟩
abbrev cX1_has : ByteArray := prog_3_method_4_code
def yX1_has : MethodName := ⟨RX1, "has", "(I)Z"⟩
abbrev cX1_isFull : ByteArray := prog_3_method_5_code
def yX1_isFull : MethodName := ⟨RX1, "isFull", "()Z"⟩
abbrev cX1_add : ByteArray := prog_3_method_6_code
def yX1_add : MethodName := ⟨RX1, "add", "(I)I"⟩
abbrev cX1_kindOf : ByteArray := prog_3_method_7_code
def yX1_kindOf : MethodName := ⟨RX1, "kindOf", "(I)I"⟩
abbrev cX1_isUnder : ByteArray := prog_3_method_8_code
def yX1_isUnder : MethodName := ⟨RX1, "isUnder", "(II)Z"⟩
abbrev cX1_setAllowances : ByteArray := prog_3_method_9_code
def yX1_setAllowances : MethodName := ⟨RX1, "setAllowances", "(II)V"⟩
abbrev cX1_allowanceOf : ByteArray := prog_3_method_10_code
def yX1_allowanceOf : MethodName := ⟨RX1, "allowanceOf", "(I)I"⟩
def RX2 : String := "BenchTimes$Jobs"
def TX2 : u_T := fun k => match k with
  | 0 => ("BenchTimes$Jobs", "partsOf", "[I", true)
  | 1 => ("BenchTimes$Jobs", "elementOf", "[I", true)
  | 2 => ("BenchTimes$Jobs", "oftenOf", "[I", true)
  | 3 => ("BenchTimes$Jobs", "marked", "[Z", true)
  | _ => ("BenchTimes$Jobs", "many", "I", false)
def tyX2 : Nat → FieldType := fun k => match k with
  | 0 => .array .int
  | 1 => .array .int
  | 2 => .array .int
  | 3 => .array .boolean
  | _ => .int
abbrev wsX20 : List Cond := u_ws RX2 TX2 5
theorem nmX2 : ∀ a, a < 5 → ∀ b, b < 5 → a ≠ b → (TX2 a).2.1 ≠ (TX2 b).2.1 := by decide +kernel
theorem tyX2_ok : ∀ k, k < 5 → parseFieldDescriptor (TX2 k).2.2.1 = some (tyX2 k) := by decide +kernel
abbrev cX2_init : ByteArray := prog_4_method_1_code
def yX2_init : MethodName := ⟨RX2, "<init>", "()V"⟩
abbrev cX2_many : ByteArray := prog_4_method_2_code
def yX2_many : MethodName := ⟨RX2, "many", "()I"⟩
abbrev cX2_has : ByteArray := prog_4_method_3_code
def yX2_has : MethodName := ⟨RX2, "has", "(I)Z"⟩
abbrev cX2_isFull : ByteArray := prog_4_method_4_code
def yX2_isFull : MethodName := ⟨RX2, "isFull", "()Z"⟩
abbrev cX2_add : ByteArray := prog_4_method_5_code
def yX2_add : MethodName := ⟨RX2, "add", "()I"⟩
abbrev cX2_partMany : ByteArray := prog_4_method_6_code
def yX2_partMany : MethodName := ⟨RX2, "partMany", "(I)I"⟩
abbrev cX2_isFullOfParts : ByteArray := prog_4_method_7_code
def yX2_isFullOfParts : MethodName := ⟨RX2, "isFullOfParts", "(I)Z"⟩
abbrev cX2_addPart : ByteArray := prog_4_method_8_code
def yX2_addPart : MethodName := ⟨RX2, "addPart", "(III)I"⟩
abbrev cX2_placeOf : ByteArray := prog_4_method_9_code
def yX2_placeOf : MethodName := ⟨RX2, "placeOf", "(II)I"⟩
abbrev cX2_elementAt : ByteArray := prog_4_method_10_code
def yX2_elementAt : MethodName := ⟨RX2, "elementAt", "(II)I"⟩
abbrev cX2_oftenAt : ByteArray := prog_4_method_11_code
def yX2_oftenAt : MethodName := ⟨RX2, "oftenAt", "(II)I"⟩
abbrev cX2_isMarked : ByteArray := prog_4_method_12_code
def yX2_isMarked : MethodName := ⟨RX2, "isMarked", "(II)Z"⟩
abbrev cX2_mark : ByteArray := prog_4_method_13_code
def yX2_mark : MethodName := ⟨RX2, "mark", "(II)V"⟩
abbrev cX2_clearMarks : ByteArray := prog_4_method_14_code
def yX2_clearMarks : MethodName := ⟨RX2, "clearMarks", "(I)V"⟩
def RX3 : String := "BenchTimes$Pays"
def TX3 : u_T := fun k => match k with
  | 0 => ("BenchTimes$Pays", "rows", "LBenchTimes$WorkRows;", true)
  | 1 => ("BenchTimes$Pays", "waits", "LBenchTimes$WaitRows;", true)
  | _ => ("BenchTimes$Pays", "rules", "LBenchTimes$Rules;", true)
def tyX3 : Nat → FieldType := fun k => match k with
  | 0 => .object "BenchTimes$WorkRows"
  | 1 => .object "BenchTimes$WaitRows"
  | _ => .object "BenchTimes$Rules"
abbrev wsX30 : List Cond := u_ws RX3 TX3 3
theorem nmX3 : ∀ a, a < 3 → ∀ b, b < 3 → a ≠ b → (TX3 a).2.1 ≠ (TX3 b).2.1 := by decide +kernel
theorem tyX3_ok : ∀ k, k < 3 → parseFieldDescriptor (TX3 k).2.2.1 = some (tyX3 k) := by decide +kernel
abbrev cX3_init : ByteArray := prog_5_method_1_code
def yX3_init : MethodName := ⟨RX3, "<init>", "(LBenchTimes$WorkRows;LBenchTimes$WaitRows;LBenchTimes$Rules;)V"⟩
abbrev cX3_tellOf : ByteArray := prog_5_method_2_code
def yX3_tellOf : MethodName := ⟨RX3, "tellOf", "(III)I"⟩
abbrev cX3_allOf : ByteArray := prog_5_method_3_code
def yX3_allOf : MethodName := ⟨RX3, "allOf", "(II)I"⟩
abbrev cX3_forWaiting : ByteArray := prog_5_method_4_code
def yX3_forWaiting : MethodName := ⟨RX3, "forWaiting", "(II)I"⟩
abbrev cX3_shareOf : ByteArray := prog_5_method_5_code
def yX3_shareOf : MethodName := ⟨RX3, "shareOf", "(III)I"⟩
def RX4 : String := "BenchTimes$Rates"
def TX4 : u_T := fun k => match k with
  | 0 => ("BenchTimes$Rates", "jobs", "LBenchTimes$Jobs;", true)
  | 1 => ("BenchTimes$Rates", "watch", "LBenchTimes$Watch;", true)
  | 2 => ("BenchTimes$Rates", "jobOf", "[I", true)
  | 3 => ("BenchTimes$Rates", "begins", "[I", true)
  | 4 => ("BenchTimes$Rates", "sums", "[I", true)
  | 5 => ("BenchTimes$Rates", "worths", "[I", true)
  | _ => ("BenchTimes$Rates", "many", "I", false)
def tyX4 : Nat → FieldType := fun k => match k with
  | 0 => .object "BenchTimes$Jobs"
  | 1 => .object "BenchTimes$Watch"
  | 2 => .array .int
  | 3 => .array .int
  | 4 => .array .int
  | 5 => .array .int
  | _ => .int
abbrev wsX40 : List Cond := u_ws RX4 TX4 7
theorem nmX4 : ∀ a, a < 7 → ∀ b, b < 7 → a ≠ b → (TX4 a).2.1 ≠ (TX4 b).2.1 := by decide +kernel
theorem tyX4_ok : ∀ k, k < 7 → parseFieldDescriptor (TX4 k).2.2.1 = some (tyX4 k) := by decide +kernel
abbrev cX4_init : ByteArray := prog_6_method_1_code
def yX4_init : MethodName := ⟨RX4, "<init>", "(LBenchTimes$Jobs;LBenchTimes$Watch;)V"⟩
abbrev cX4_many : ByteArray := prog_6_method_2_code
def yX4_many : MethodName := ⟨RX4, "many", "()I"⟩
abbrev cX4_isFull : ByteArray := prog_6_method_3_code
def yX4_isFull : MethodName := ⟨RX4, "isFull", "()Z"⟩
abbrev cX4_beginOf : ByteArray := prog_6_method_4_code
def yX4_beginOf : MethodName := ⟨RX4, "beginOf", "(I)I"⟩
abbrev cX4_sumOf : ByteArray := prog_6_method_5_code
def yX4_sumOf : MethodName := ⟨RX4, "sumOf", "(I)I"⟩
abbrev cX4_worthOf : ByteArray := prog_6_method_6_code
def yX4_worthOf : MethodName := ⟨RX4, "worthOf", "(II)I"⟩
abbrev cX4_latestOf : ByteArray := prog_6_method_7_code
def yX4_latestOf : MethodName := ⟨RX4, "latestOf", "(I)I"⟩
abbrev cX4_inForce : ByteArray := prog_6_method_8_code
def yX4_inForce : MethodName := ⟨RX4, "inForce", "(II)I"⟩
abbrev cX4_mayMove : ByteArray := prog_6_method_9_code
def yX4_mayMove : MethodName := ⟨RX4, "mayMove", "(II)Z"⟩
abbrev cX4_canMake : ByteArray := prog_6_method_10_code
def yX4_canMake : MethodName := ⟨RX4, "canMake", "(I)Z"⟩
abbrev cX4_make : ByteArray := prog_6_method_11_code
def yX4_make : MethodName := ⟨RX4, "make", "(II)I"⟩
def RX5 : String := "BenchTimes$Rules"
def TX5 : u_T := fun k => match k with
  | 0 => ("BenchTimes$Rules", "values", "[I", true)
  | 1 => ("BenchTimes$Rules", "newValues", "[I", true)
  | 2 => ("BenchTimes$Rules", "bytes", "[I", true)
  | 3 => ("BenchTimes$Rules", "length", "I", false)
  | _ => ("BenchTimes$Rules", "place", "I", false)
def tyX5 : Nat → FieldType := fun k => match k with
  | 0 => .array .int
  | 1 => .array .int
  | 2 => .array .int
  | 3 => .int
  | _ => .int
abbrev wsX50 : List Cond := u_ws RX5 TX5 5
theorem nmX5 : ∀ a, a < 5 → ∀ b, b < 5 → a ≠ b → (TX5 a).2.1 ≠ (TX5 b).2.1 := by decide +kernel
theorem tyX5_ok : ∀ k, k < 5 → parseFieldDescriptor (TX5 k).2.2.1 = some (tyX5 k) := by decide +kernel
abbrev cX5_init : ByteArray := prog_7_method_1_code
def yX5_init : MethodName := ⟨RX5, "<init>", "()V"⟩
abbrev cX5_valueOf : ByteArray := prog_7_method_2_code
def yX5_valueOf : MethodName := ⟨RX5, "valueOf", "(I)I"⟩
abbrev cX5_byteMany : ByteArray := prog_7_method_3_code
def yX5_byteMany : MethodName := ⟨RX5, "byteMany", "()I"⟩
abbrev cX5_isFullOfBytes : ByteArray := prog_7_method_4_code
def yX5_isFullOfBytes : MethodName := ⟨RX5, "isFullOfBytes", "()Z"⟩
abbrev cX5_addByte : ByteArray := prog_7_method_5_code
def yX5_addByte : MethodName := ⟨RX5, "addByte", "(I)I"⟩
abbrev cX5_takeTape : ByteArray := prog_7_method_6_code
def yX5_takeTape : MethodName := ⟨RX5, "takeTape", "()I"⟩
abbrev cX5_takeNewValues : ByteArray := prog_7_method_7_code
def yX5_takeNewValues : MethodName := ⟨RX5, "takeNewValues", "()I"⟩
abbrev cX5_readClauses : ByteArray := prog_7_method_8_code
def yX5_readClauses : MethodName := ⟨RX5, "readClauses", "()Z"⟩
abbrev cX5_readClause : ByteArray := prog_7_method_9_code
def yX5_readClause : MethodName := ⟨RX5, "readClause", "()Z"⟩
abbrev cX5_readWord : ByteArray := prog_7_method_10_code
def yX5_readWord : MethodName := ⟨RX5, "readWord", "()I"⟩
abbrev cX5_alikeWith : ByteArray := prog_7_method_11_code
def yX5_alikeWith : MethodName := ⟨RX5, "alikeWith", "(Ljava/lang/String;)I"⟩
abbrev cX5_readSign : ByteArray := prog_7_method_12_code
def yX5_readSign : MethodName := ⟨RX5, "readSign", "(C)Z"⟩
abbrev cX5_readNumber : ByteArray := prog_7_method_13_code
def yX5_readNumber : MethodName := ⟨RX5, "readNumber", "()I"⟩
abbrev cX5_wordOf : ByteArray := prog_7_method_14_code
def yX5_wordOf : MethodName := ⟨RX5, "wordOf", "(I)Ljava/lang/String;"⟩
def RX6 : String := "BenchTimes$Slowness"
def TX6 : u_T := fun k => match k with
  | 0 => ("BenchTimes$Slowness", "rows", "LBenchTimes$WorkRows;", true)
  | 1 => ("BenchTimes$Slowness", "paces", "[I", true)
  | 2 => ("BenchTimes$Slowness", "watched", "[Z", true)
  | 3 => ("BenchTimes$Slowness", "ways", "[[I", true)
  | 4 => ("BenchTimes$Slowness", "many", "I", false)
  | _ => ("BenchTimes$Slowness", "watchedMany", "I", false)
def tyX6 : Nat → FieldType := fun k => match k with
  | 0 => .object "BenchTimes$WorkRows"
  | 1 => .array .int
  | 2 => .array .boolean
  | 3 => .array (.array .int)
  | 4 => .int
  | _ => .int
abbrev wsX60 : List Cond := u_ws RX6 TX6 6
theorem nmX6 : ∀ a, a < 6 → ∀ b, b < 6 → a ≠ b → (TX6 a).2.1 ≠ (TX6 b).2.1 := by decide +kernel
theorem tyX6_ok : ∀ k, k < 6 → parseFieldDescriptor (TX6 k).2.2.1 = some (tyX6 k) := by decide +kernel
abbrev cX6_init : ByteArray := prog_8_method_1_code
def yX6_init : MethodName := ⟨RX6, "<init>", "(LBenchTimes$WorkRows;)V"⟩
abbrev cX6_gather : ByteArray := prog_8_method_2_code
def yX6_gather : MethodName := ⟨RX6, "gather", "(II)V"⟩
abbrev cX6_canTell : ByteArray := prog_8_method_3_code
def yX6_canTell : MethodName := ⟨RX6, "canTell", "()Z"⟩
abbrev cX6_isBeyondDoubt : ByteArray := prog_8_method_4_code
def yX6_isBeyondDoubt : MethodName := ⟨RX6, "isBeyondDoubt", "()Z"⟩
abbrev cX6_watchedRanks : ByteArray := prog_8_method_5_code
def yX6_watchedRanks : MethodName := ⟨RX6, "watchedRanks", "()I"⟩
abbrev cX6_rankOf : ByteArray := prog_8_method_6_code
def yX6_rankOf : MethodName := ⟨RX6, "rankOf", "(I)I"⟩
abbrev cX6_countWays : ByteArray := prog_8_method_7_code
def yX6_countWays : MethodName := ⟨RX6, "countWays", "()V"⟩
abbrev cX6_addRow : ByteArray := prog_8_method_8_code
def yX6_addRow : MethodName := ⟨RX6, "addRow", "(III)V"⟩
def RX7 : String := "BenchTimes$WaitRows"
def TX7 : u_T := fun k => match k with
  | 0 => ("BenchTimes$WaitRows", "weekOf", "[I", true)
  | 1 => ("BenchTimes$WaitRows", "workerOf", "[I", true)
  | 2 => ("BenchTimes$WaitRows", "minutesOf", "[I", true)
  | 3 => ("BenchTimes$WaitRows", "minutesOfCause", "[I", true)
  | _ => ("BenchTimes$WaitRows", "many", "I", false)
def tyX7 : Nat → FieldType := fun k => match k with
  | 0 => .array .int
  | 1 => .array .int
  | 2 => .array .int
  | 3 => .array .int
  | _ => .int
abbrev wsX70 : List Cond := u_ws RX7 TX7 5
theorem nmX7 : ∀ a, a < 5 → ∀ b, b < 5 → a ≠ b → (TX7 a).2.1 ≠ (TX7 b).2.1 := by decide +kernel
theorem tyX7_ok : ∀ k, k < 5 → parseFieldDescriptor (TX7 k).2.2.1 = some (tyX7 k) := by decide +kernel
abbrev cX7_init : ByteArray := prog_9_method_1_code
def yX7_init : MethodName := ⟨RX7, "<init>", "()V"⟩
abbrev cX7_many : ByteArray := prog_9_method_2_code
def yX7_many : MethodName := ⟨RX7, "many", "()I"⟩
abbrev cX7_isFull : ByteArray := prog_9_method_3_code
def yX7_isFull : MethodName := ⟨RX7, "isFull", "()Z"⟩
abbrev cX7_add : ByteArray := prog_9_method_4_code
def yX7_add : MethodName := ⟨RX7, "add", "(IIII)I"⟩
abbrev cX7_minutesFor : ByteArray := prog_9_method_5_code
def yX7_minutesFor : MethodName := ⟨RX7, "minutesFor", "(I)I"⟩
abbrev cX7_minutesIn : ByteArray := prog_9_method_6_code
def yX7_minutesIn : MethodName := ⟨RX7, "minutesIn", "(II)I"⟩
def RX8 : String := "BenchTimes$Watch"
def TX8 : u_T := fun k => match k with
  | 0 => ("BenchTimes$Watch", "elements", "LBenchTimes$Elements;", true)
  | 1 => ("BenchTimes$Watch", "toldMore", "[I", true)
  | 2 => ("BenchTimes$Watch", "filmsOf", "[I", true)
  | 3 => ("BenchTimes$Watch", "films", "I", false)
  | 4 => ("BenchTimes$Watch", "elementOf", "[I", true)
  | 5 => ("BenchTimes$Watch", "raterOf", "[I", true)
  | 6 => ("BenchTimes$Watch", "paceOf", "[I", true)
  | 7 => ("BenchTimes$Watch", "timeOf", "[I", true)
  | 8 => ("BenchTimes$Watch", "cycles", "I", false)
  | 9 => ("BenchTimes$Watch", "normals", "[I", true)
  | 10 => ("BenchTimes$Watch", "timed", "I", false)
  | 11 => ("BenchTimes$Watch", "kept", "I", false)
  | 12 => ("BenchTimes$Watch", "level", "I", false)
  | 13 => ("BenchTimes$Watch", "standard", "I", false)
  | 14 => ("BenchTimes$Watch", "least", "I", false)
  | _ => ("BenchTimes$Watch", "greatest", "I", false)
def tyX8 : Nat → FieldType := fun k => match k with
  | 0 => .object "BenchTimes$Elements"
  | 1 => .array .int
  | 2 => .array .int
  | 3 => .int
  | 4 => .array .int
  | 5 => .array .int
  | 6 => .array .int
  | 7 => .array .int
  | 8 => .int
  | 9 => .array .int
  | 10 => .int
  | 11 => .int
  | 12 => .int
  | 13 => .int
  | 14 => .int
  | _ => .int
abbrev wsX80 : List Cond := u_ws RX8 TX8 16
theorem nmX8 : ∀ a, a < 16 → ∀ b, b < 16 → a ≠ b → (TX8 a).2.1 ≠ (TX8 b).2.1 := by decide +kernel
theorem tyX8_ok : ∀ k, k < 16 → parseFieldDescriptor (TX8 k).2.2.1 = some (tyX8 k) := by decide +kernel
abbrev cX8_init : ByteArray := prog_10_method_1_code
def yX8_init : MethodName := ⟨RX8, "<init>", "(LBenchTimes$Elements;)V"⟩
abbrev cX8_filmMany : ByteArray := prog_10_method_2_code
def yX8_filmMany : MethodName := ⟨RX8, "filmMany", "()I"⟩
abbrev cX8_cycleMany : ByteArray := prog_10_method_3_code
def yX8_cycleMany : MethodName := ⟨RX8, "cycleMany", "()I"⟩
abbrev cX8_isFullOfFilms : ByteArray := prog_10_method_4_code
def yX8_isFullOfFilms : MethodName := ⟨RX8, "isFullOfFilms", "()Z"⟩
abbrev cX8_isFullOfCycles : ByteArray := prog_10_method_5_code
def yX8_isFullOfCycles : MethodName := ⟨RX8, "isFullOfCycles", "()Z"⟩
abbrev cX8_addFilm : ByteArray := prog_10_method_6_code
def yX8_addFilm : MethodName := ⟨RX8, "addFilm", "(II)I"⟩
abbrev cX8_habitOf : ByteArray := prog_10_method_7_code
def yX8_habitOf : MethodName := ⟨RX8, "habitOf", "(I)I"⟩
abbrev cX8_addCycle : ByteArray := prog_10_method_8_code
def yX8_addCycle : MethodName := ⟨RX8, "addCycle", "(IIII)I"⟩
abbrev cX8_normalOf : ByteArray := prog_10_method_9_code
def yX8_normalOf : MethodName := ⟨RX8, "normalOf", "(I)I"⟩
abbrev cX8_isTimed : ByteArray := prog_10_method_10_code
def yX8_isTimed : MethodName := ⟨RX8, "isTimed", "(I)Z"⟩
abbrev cX8_study : ByteArray := prog_10_method_11_code
def yX8_study : MethodName := ⟨RX8, "study", "(I)V"⟩
abbrev cX8_studied : ByteArray := prog_10_method_12_code
def yX8_studied : MethodName := ⟨RX8, "studied", "(I)I"⟩
abbrev cX8_gatherNormals : ByteArray := prog_10_method_13_code
def yX8_gatherNormals : MethodName := ⟨RX8, "gatherNormals", "(I)V"⟩
abbrev cX8_putInOrder : ByteArray := prog_10_method_14_code
def yX8_putInOrder : MethodName := ⟨RX8, "putInOrder", "(I)V"⟩
abbrev cX8_keepNormals : ByteArray := prog_10_method_15_code
def yX8_keepNormals : MethodName := ⟨RX8, "keepNormals", "()V"⟩
def RX9 : String := "BenchTimes$WorkRows"
def TX9 : u_T := fun k => match k with
  | 0 => ("BenchTimes$WorkRows", "rates", "LBenchTimes$Rates;", true)
  | 1 => ("BenchTimes$WorkRows", "rules", "LBenchTimes$Rules;", true)
  | 2 => ("BenchTimes$WorkRows", "weekOf", "[I", true)
  | 3 => ("BenchTimes$WorkRows", "workerOf", "[I", true)
  | 4 => ("BenchTimes$WorkRows", "jobOf", "[I", true)
  | 5 => ("BenchTimes$WorkRows", "good", "[I", true)
  | 6 => ("BenchTimes$WorkRows", "spoilt", "[I", true)
  | 7 => ("BenchTimes$WorkRows", "minutesOf", "[I", true)
  | 8 => ("BenchTimes$WorkRows", "watched", "[Z", true)
  | 9 => ("BenchTimes$WorkRows", "began", "[I", true)
  | _ => ("BenchTimes$WorkRows", "many", "I", false)
def tyX9 : Nat → FieldType := fun k => match k with
  | 0 => .object "BenchTimes$Rates"
  | 1 => .object "BenchTimes$Rules"
  | 2 => .array .int
  | 3 => .array .int
  | 4 => .array .int
  | 5 => .array .int
  | 6 => .array .int
  | 7 => .array .int
  | 8 => .array .boolean
  | 9 => .array .int
  | _ => .int
abbrev wsX90 : List Cond := u_ws RX9 TX9 11
theorem nmX9 : ∀ a, a < 11 → ∀ b, b < 11 → a ≠ b → (TX9 a).2.1 ≠ (TX9 b).2.1 := by decide +kernel
theorem tyX9_ok : ∀ k, k < 11 → parseFieldDescriptor (TX9 k).2.2.1 = some (tyX9 k) := by decide +kernel
abbrev cX9_init : ByteArray := prog_11_method_1_code
def yX9_init : MethodName := ⟨RX9, "<init>", "(LBenchTimes$Rates;LBenchTimes$Rules;)V"⟩
abbrev cX9_many : ByteArray := prog_11_method_2_code
def yX9_many : MethodName := ⟨RX9, "many", "()I"⟩
abbrev cX9_isFull : ByteArray := prog_11_method_3_code
def yX9_isFull : MethodName := ⟨RX9, "isFull", "()Z"⟩
abbrev cX9_add : ByteArray := prog_11_method_4_code
def yX9_add : MethodName := ⟨RX9, "add", "(IIII)I"⟩
abbrev cX9_swapBegin : ByteArray := prog_11_method_5_code
def yX9_swapBegin : MethodName := ⟨RX9, "swapBegin", "(III)I"⟩
abbrev cX9_workerAt : ByteArray := prog_11_method_6_code
def yX9_workerAt : MethodName := ⟨RX9, "workerAt", "(I)I"⟩
abbrev cX9_jobAt : ByteArray := prog_11_method_7_code
def yX9_jobAt : MethodName := ⟨RX9, "jobAt", "(I)I"⟩
abbrev cX9_goodAt : ByteArray := prog_11_method_8_code
def yX9_goodAt : MethodName := ⟨RX9, "goodAt", "(I)I"⟩
abbrev cX9_minutesAt : ByteArray := prog_11_method_9_code
def yX9_minutesAt : MethodName := ⟨RX9, "minutesAt", "(I)I"⟩
abbrev cX9_isWatched : ByteArray := prog_11_method_10_code
def yX9_isWatched : MethodName := ⟨RX9, "isWatched", "(I)Z"⟩
abbrev cX9_earnedBy : ByteArray := prog_11_method_11_code
def yX9_earnedBy : MethodName := ⟨RX9, "earnedBy", "(I)I"⟩
abbrev cX9_earnedIn : ByteArray := prog_11_method_12_code
def yX9_earnedIn : MethodName := ⟨RX9, "earnedIn", "(II)I"⟩
abbrev cX9_minutesIn : ByteArray := prog_11_method_13_code
def yX9_minutesIn : MethodName := ⟨RX9, "minutesIn", "(II)I"⟩
abbrev cX9_learnersMore : ByteArray := prog_11_method_14_code
def yX9_learnersMore : MethodName := ⟨RX9, "learnersMore", "(II)I"⟩
def RX10 : String := "BenchTimes"
def TX10 : u_T := fun k => match k with
  | 0 => ("BenchTimes", "findings", "[I", true)
  | 1 => ("BenchTimes", "elements", "LBenchTimes$Elements;", true)
  | 2 => ("BenchTimes", "watch", "LBenchTimes$Watch;", true)
  | 3 => ("BenchTimes", "jobs", "LBenchTimes$Jobs;", true)
  | 4 => ("BenchTimes", "rates", "LBenchTimes$Rates;", true)
  | 5 => ("BenchTimes", "rules", "LBenchTimes$Rules;", true)
  | 6 => ("BenchTimes", "rows", "LBenchTimes$WorkRows;", true)
  | 7 => ("BenchTimes", "waits", "LBenchTimes$WaitRows;", true)
  | 8 => ("BenchTimes", "pays", "LBenchTimes$Pays;", true)
  | 9 => ("BenchTimes", "doubt", "LBenchTimes$Doubt;", true)
  | 10 => ("BenchTimes", "slowness", "LBenchTimes$Slowness;", true)
  | 11 => ("BenchTimes", "numbers", "[I", true)
  | 12 => ("BenchTimes", "numberMany", "I", false)
  | _ => ("BenchTimes", "now", "I", false)
def tyX10 : Nat → FieldType := fun k => match k with
  | 0 => .array .int
  | 1 => .object "BenchTimes$Elements"
  | 2 => .object "BenchTimes$Watch"
  | 3 => .object "BenchTimes$Jobs"
  | 4 => .object "BenchTimes$Rates"
  | 5 => .object "BenchTimes$Rules"
  | 6 => .object "BenchTimes$WorkRows"
  | 7 => .object "BenchTimes$WaitRows"
  | 8 => .object "BenchTimes$Pays"
  | 9 => .object "BenchTimes$Doubt"
  | 10 => .object "BenchTimes$Slowness"
  | 11 => .array .int
  | 12 => .int
  | _ => .int
abbrev wsX100 : List Cond := u_ws RX10 TX10 14
theorem nmX10 : ∀ a, a < 14 → ∀ b, b < 14 → a ≠ b → (TX10 a).2.1 ≠ (TX10 b).2.1 := by decide +kernel
theorem tyX10_ok : ∀ k, k < 14 → parseFieldDescriptor (TX10 k).2.2.1 = some (tyX10 k) := by decide +kernel
abbrev cX10_init : ByteArray := prog_1_method_1_code
def yX10_init : MethodName := ⟨RX10, "<init>", "()V"⟩
abbrev cX10_element : ByteArray := prog_1_method_2_code
def yX10_element : MethodName := ⟨RX10, "element", "(I)I"⟩
abbrev cX10_as : ByteArray := prog_1_method_3_code
def yX10_as : MethodName := ⟨RX10, "as", "(II)I"⟩
abbrev cX10_allow : ByteArray := prog_1_method_4_code
def yX10_allow : MethodName := ⟨RX10, "allow", "(II)I"⟩
abbrev cX10_film : ByteArray := prog_1_method_5_code
def yX10_film : MethodName := ⟨RX10, "film", "(III)I"⟩
abbrev cX10_habit : ByteArray := prog_1_method_6_code
def yX10_habit : MethodName := ⟨RX10, "habit", "(I)I"⟩
abbrev cX10_cycle : ByteArray := prog_1_method_7_code
def yX10_cycle : MethodName := ⟨RX10, "cycle", "(IIII)I"⟩
abbrev cX10_normal : ByteArray := prog_1_method_8_code
def yX10_normal : MethodName := ⟨RX10, "normal", "(I)I"⟩
abbrev cX10_of : ByteArray := prog_1_method_9_code
def yX10_of : MethodName := ⟨RX10, "of", "(II)I"⟩
abbrev cX10_job : ByteArray := prog_1_method_10_code
def yX10_job : MethodName := ⟨RX10, "job", "()I"⟩
abbrev cX10_part : ByteArray := prog_1_method_11_code
def yX10_part : MethodName := ⟨RX10, "part", "(III)I"⟩
abbrev cX10_set : ByteArray := prog_1_method_12_code
def yX10_set : MethodName := ⟨RX10, "set", "(I)I"⟩
abbrev cX10_change : ByteArray := prog_1_method_13_code
def yX10_change : MethodName := ⟨RX10, "change", "(I)I"⟩
abbrev cX10_move : ByteArray := prog_1_method_14_code
def yX10_move : MethodName := ⟨RX10, "move", "(I)I"⟩
abbrev cX10_rate : ByteArray := prog_1_method_15_code
def yX10_rate : MethodName := ⟨RX10, "rate", "(II)I"⟩
abbrev cX10_worth : ByteArray := prog_1_method_16_code
def yX10_worth : MethodName := ⟨RX10, "worth", "(III)I"⟩
abbrev cX10_week : ByteArray := prog_1_method_17_code
def yX10_week : MethodName := ⟨RX10, "week", "(I)I"⟩
abbrev cX10_feed : ByteArray := prog_1_method_18_code
def yX10_feed : MethodName := ⟨RX10, "feed", "(I)I"⟩
abbrev cX10_read : ByteArray := prog_1_method_19_code
def yX10_read : MethodName := ⟨RX10, "read", "()I"⟩
abbrev cX10_rule : ByteArray := prog_1_method_20_code
def yX10_rule : MethodName := ⟨RX10, "rule", "(I)I"⟩
abbrev cX10_work : ByteArray := prog_1_method_21_code
def yX10_work : MethodName := ⟨RX10, "work", "(IIII)I"⟩
abbrev cX10_wait : ByteArray := prog_1_method_22_code
def yX10_wait : MethodName := ⟨RX10, "wait", "(IIII)I"⟩
abbrev cX10_learner : ByteArray := prog_1_method_23_code
def yX10_learner : MethodName := ⟨RX10, "learner", "(III)I"⟩
abbrev cX10_earned : ByteArray := prog_1_method_24_code
def yX10_earned : MethodName := ⟨RX10, "earned", "(I)I"⟩
abbrev cX10_pay : ByteArray := prog_1_method_25_code
def yX10_pay : MethodName := ⟨RX10, "pay", "(III)I"⟩
abbrev cX10_cause : ByteArray := prog_1_method_26_code
def yX10_cause : MethodName := ⟨RX10, "cause", "(I)I"⟩
abbrev cX10_pool : ByteArray := prog_1_method_27_code
def yX10_pool : MethodName := ⟨RX10, "pool", "(III)I"⟩
abbrev cX10_efficiency : ByteArray := prog_1_method_28_code
def yX10_efficiency : MethodName := ⟨RX10, "efficiency", "(II)I"⟩
abbrev cX10_looser : ByteArray := prog_1_method_29_code
def yX10_looser : MethodName := ⟨RX10, "looser", "(II)I"⟩
abbrev cX10_order : ByteArray := prog_1_method_30_code
def yX10_order : MethodName := ⟨RX10, "order", "(I)I"⟩
abbrev cX10_slow : ByteArray := prog_1_method_31_code
def yX10_slow : MethodName := ⟨RX10, "slow", "(II)I"⟩
abbrev cX10_tell : ByteArray := prog_1_method_32_code
def yX10_tell : MethodName := ⟨RX10, "tell", "(I)I"⟩
abbrev cX10_check : ByteArray := prog_1_method_33_code
def yX10_check : MethodName := ⟨RX10, "check", "(I)I"⟩
abbrev cX10_count : ByteArray := prog_1_method_34_code
def yX10_count : MethodName := ⟨RX10, "count", "(I)I"⟩
abbrev cX10_found : ByteArray := prog_1_method_35_code
def yX10_found : MethodName := ⟨RX10, "found", "(I)I"⟩
abbrev cX10_finding : ByteArray := prog_1_method_36_code
def yX10_finding : MethodName := ⟨RX10, "finding", "(I)I"⟩
abbrev cX10_orNone : ByteArray := prog_1_method_37_code
def yX10_orNone : MethodName := ⟨RX10, "orNone", "(I)I"⟩
abbrev cX10_newRate : ByteArray := prog_1_method_38_code
def yX10_newRate : MethodName := ⟨RX10, "newRate", "(II)I"⟩
abbrev cX10_isOn : ByteArray := prog_1_method_39_code
def yX10_isOn : MethodName := ⟨RX10, "isOn", "(I)Z"⟩
abbrev cX10_isWithin : ByteArray := prog_1_method_40_code
def yX10_isWithin : MethodName := ⟨RX10, "isWithin", "(III)Z"⟩
abbrev cX10_isWeek : ByteArray := prog_1_method_41_code
def yX10_isWeek : MethodName := ⟨RX10, "isWeek", "(I)Z"⟩
abbrev cX10_isRater : ByteArray := prog_1_method_42_code
def yX10_isRater : MethodName := ⟨RX10, "isRater", "(I)Z"⟩
abbrev cX10_isPace : ByteArray := prog_1_method_43_code
def yX10_isPace : MethodName := ⟨RX10, "isPace", "(I)Z"⟩
abbrev cX10_isWorker : ByteArray := prog_1_method_44_code
def yX10_isWorker : MethodName := ⟨RX10, "isWorker", "(I)Z"⟩
abbrev cX10_isCause : ByteArray := prog_1_method_45_code
def yX10_isCause : MethodName := ⟨RX10, "isCause", "(I)Z"⟩
abbrev cX10_isIn : ByteArray := prog_1_method_46_code
def yX10_isIn : MethodName := ⟨RX10, "isIn", "(II)Z"⟩
def RX11 : String := "BenchTimesModel"
def TX11 : u_T := fun k => match k with
  | 0 => ("BenchTimesModel", "elements", "I", false)
  | 1 => ("BenchTimesModel", "kind", "[I", true)
  | 2 => ("BenchTimesModel", "base", "I", false)
  | 3 => ("BenchTimesModel", "more", "I", false)
  | 4 => ("BenchTimesModel", "films", "I", false)
  | 5 => ("BenchTimesModel", "filmOf", "[I", true)
  | 6 => ("BenchTimesModel", "filmOver", "[I", true)
  | 7 => ("BenchTimesModel", "cycles", "I", false)
  | 8 => ("BenchTimesModel", "cycleOf", "[I", true)
  | 9 => ("BenchTimesModel", "cycleBy", "[I", true)
  | 10 => ("BenchTimesModel", "pace", "[I", true)
  | 11 => ("BenchTimesModel", "time", "[I", true)
  | 12 => ("BenchTimesModel", "jobs", "I", false)
  | 13 => ("BenchTimesModel", "parts", "[I", true)
  | 14 => ("BenchTimesModel", "partOf", "[I", true)
  | 15 => ("BenchTimesModel", "often", "[I", true)
  | 16 => ("BenchTimesModel", "isMarked", "[Z", true)
  | 17 => ("BenchTimesModel", "rates", "I", false)
  | 18 => ("BenchTimesModel", "rateOf", "[I", true)
  | 19 => ("BenchTimesModel", "rateFrom", "[I", true)
  | 20 => ("BenchTimesModel", "worthOf", "[I", true)
  | 21 => ("BenchTimesModel", "week", "I", false)
  | 22 => ("BenchTimesModel", "rules", "[I", true)
  | 23 => ("BenchTimesModel", "tape", "[I", true)
  | 24 => ("BenchTimesModel", "taped", "I", false)
  | 25 => ("BenchTimesModel", "rows", "I", false)
  | 26 => ("BenchTimesModel", "rowWeek", "[I", true)
  | 27 => ("BenchTimesModel", "rowWorker", "[I", true)
  | 28 => ("BenchTimesModel", "rowJob", "[I", true)
  | 29 => ("BenchTimesModel", "good", "[I", true)
  | 30 => ("BenchTimesModel", "spoilt", "[I", true)
  | 31 => ("BenchTimesModel", "minutes", "[I", true)
  | 32 => ("BenchTimesModel", "isWatched", "[Z", true)
  | 33 => ("BenchTimesModel", "waits", "I", false)
  | 34 => ("BenchTimesModel", "waitWeek", "[I", true)
  | 35 => ("BenchTimesModel", "waitWorker", "[I", true)
  | 36 => ("BenchTimesModel", "waitCause", "[I", true)
  | 37 => ("BenchTimesModel", "waitMinutes", "[I", true)
  | 38 => ("BenchTimesModel", "began", "[I", true)
  | 39 => ("BenchTimesModel", "numbers", "I", false)
  | 40 => ("BenchTimesModel", "waiting", "[I", true)
  | 41 => ("BenchTimesModel", "found", "[I", true)
  | 42 => ("BenchTimesModel", "inOrder", "[I", true)
  | 43 => ("BenchTimesModel", "told", "[I", true)
  | 44 => ("BenchTimesModel", "at", "I", false)
  | 45 => ("BenchTimesModel", "hasRows", "[Z", true)
  | 46 => ("BenchTimesModel", "score", "[I", true)
  | 47 => ("BenchTimesModel", "paces", "[I", true)
  | _ => ("BenchTimesModel", "ranks", "[I", true)
def tyX11 : Nat → FieldType := fun k => match k with
  | 0 => .int
  | 1 => .array .int
  | 2 => .int
  | 3 => .int
  | 4 => .int
  | 5 => .array .int
  | 6 => .array .int
  | 7 => .int
  | 8 => .array .int
  | 9 => .array .int
  | 10 => .array .int
  | 11 => .array .int
  | 12 => .int
  | 13 => .array .int
  | 14 => .array .int
  | 15 => .array .int
  | 16 => .array .boolean
  | 17 => .int
  | 18 => .array .int
  | 19 => .array .int
  | 20 => .array .int
  | 21 => .int
  | 22 => .array .int
  | 23 => .array .int
  | 24 => .int
  | 25 => .int
  | 26 => .array .int
  | 27 => .array .int
  | 28 => .array .int
  | 29 => .array .int
  | 30 => .array .int
  | 31 => .array .int
  | 32 => .array .boolean
  | 33 => .int
  | 34 => .array .int
  | 35 => .array .int
  | 36 => .array .int
  | 37 => .array .int
  | 38 => .array .int
  | 39 => .int
  | 40 => .array .int
  | 41 => .array .int
  | 42 => .array .int
  | 43 => .array .int
  | 44 => .int
  | 45 => .array .boolean
  | 46 => .array .int
  | 47 => .array .int
  | _ => .array .int
abbrev wsX110 : List Cond := u_ws RX11 TX11 49
theorem nmX11 : ∀ a, a < 49 → ∀ b, b < 49 → a ≠ b → (TX11 a).2.1 ≠ (TX11 b).2.1 := by decide +kernel
theorem tyX11_ok : ∀ k, k < 49 → parseFieldDescriptor (TX11 k).2.2.1 = some (tyX11 k) := by decide +kernel
abbrev cX11_init : ByteArray := prog_13_method_1_code
def yX11_init : MethodName := ⟨RX11, "<init>", "()V"⟩
abbrev cX11_finding : ByteArray := prog_13_method_2_code
def yX11_finding : MethodName := ⟨RX11, "finding", "(I)I"⟩
abbrev cX11_isIn : ByteArray := prog_13_method_3_code
def yX11_isIn : MethodName := ⟨RX11, "isIn", "(III)Z"⟩
abbrev cX11_isElement : ByteArray := prog_13_method_4_code
def yX11_isElement : MethodName := ⟨RX11, "isElement", "(I)Z"⟩
abbrev cX11_isJob : ByteArray := prog_13_method_5_code
def yX11_isJob : MethodName := ⟨RX11, "isJob", "(I)Z"⟩
abbrev cX11_isWorker : ByteArray := prog_13_method_6_code
def yX11_isWorker : MethodName := ⟨RX11, "isWorker", "(I)Z"⟩
abbrev cX11_isWeek : ByteArray := prog_13_method_7_code
def yX11_isWeek : MethodName := ⟨RX11, "isWeek", "(I)Z"⟩
abbrev cX11_isPace : ByteArray := prog_13_method_8_code
def yX11_isPace : MethodName := ⟨RX11, "isPace", "(I)Z"⟩
abbrev cX11_element : ByteArray := prog_13_method_9_code
def yX11_element : MethodName := ⟨RX11, "element", "(I)I"⟩
abbrev cX11_allowanceOf : ByteArray := prog_13_method_10_code
def yX11_allowanceOf : MethodName := ⟨RX11, "allowanceOf", "(I)I"⟩
abbrev cX11_as : ByteArray := prog_13_method_11_code
def yX11_as : MethodName := ⟨RX11, "as", "(II)I"⟩
abbrev cX11_allow : ByteArray := prog_13_method_12_code
def yX11_allow : MethodName := ⟨RX11, "allow", "(II)I"⟩
abbrev cX11_film : ByteArray := prog_13_method_13_code
def yX11_film : MethodName := ⟨RX11, "film", "(III)I"⟩
abbrev cX11_habitOf : ByteArray := prog_13_method_14_code
def yX11_habitOf : MethodName := ⟨RX11, "habitOf", "(I)I"⟩
abbrev cX11_habit : ByteArray := prog_13_method_15_code
def yX11_habit : MethodName := ⟨RX11, "habit", "(I)I"⟩
abbrev cX11_cycle : ByteArray := prog_13_method_16_code
def yX11_cycle : MethodName := ⟨RX11, "cycle", "(IIII)I"⟩
abbrev cX11_normalOf : ByteArray := prog_13_method_17_code
def yX11_normalOf : MethodName := ⟨RX11, "normalOf", "(I)I"⟩
abbrev cX11_normal : ByteArray := prog_13_method_18_code
def yX11_normal : MethodName := ⟨RX11, "normal", "(I)I"⟩
abbrev cX11_cyclesOf : ByteArray := prog_13_method_19_code
def yX11_cyclesOf : MethodName := ⟨RX11, "cyclesOf", "(I)I"⟩
abbrev cX11_keptOf : ByteArray := prog_13_method_20_code
def yX11_keptOf : MethodName := ⟨RX11, "keptOf", "(II)I"⟩
abbrev cX11_standardOf : ByteArray := prog_13_method_21_code
def yX11_standardOf : MethodName := ⟨RX11, "standardOf", "(I)I"⟩
abbrev cX11_of : ByteArray := prog_13_method_22_code
def yX11_of : MethodName := ⟨RX11, "of", "(II)I"⟩
abbrev cX11_job : ByteArray := prog_13_method_23_code
def yX11_job : MethodName := ⟨RX11, "job", "()I"⟩
abbrev cX11_latestOf : ByteArray := prog_13_method_24_code
def yX11_latestOf : MethodName := ⟨RX11, "latestOf", "(I)I"⟩
abbrev cX11_part : ByteArray := prog_13_method_25_code
def yX11_part : MethodName := ⟨RX11, "part", "(III)I"⟩
abbrev cX11_sumOf : ByteArray := prog_13_method_26_code
def yX11_sumOf : MethodName := ⟨RX11, "sumOf", "(I)I"⟩
abbrev cX11_make : ByteArray := prog_13_method_27_code
def yX11_make : MethodName := ⟨RX11, "make", "(III)I"⟩
abbrev cX11_set : ByteArray := prog_13_method_28_code
def yX11_set : MethodName := ⟨RX11, "set", "(I)I"⟩
abbrev cX11_change : ByteArray := prog_13_method_29_code
def yX11_change : MethodName := ⟨RX11, "change", "(I)I"⟩
abbrev cX11_move : ByteArray := prog_13_method_30_code
def yX11_move : MethodName := ⟨RX11, "move", "(I)I"⟩
abbrev cX11_forceOf : ByteArray := prog_13_method_31_code
def yX11_forceOf : MethodName := ⟨RX11, "forceOf", "(II)I"⟩
abbrev cX11_rate : ByteArray := prog_13_method_32_code
def yX11_rate : MethodName := ⟨RX11, "rate", "(II)I"⟩
abbrev cX11_worth : ByteArray := prog_13_method_33_code
def yX11_worth : MethodName := ⟨RX11, "worth", "(III)I"⟩
abbrev cX11_week : ByteArray := prog_13_method_34_code
def yX11_week : MethodName := ⟨RX11, "week", "(I)I"⟩
abbrev cX11_feed : ByteArray := prog_13_method_35_code
def yX11_feed : MethodName := ⟨RX11, "feed", "(I)I"⟩
abbrev cX11_here : ByteArray := prog_13_method_36_code
def yX11_here : MethodName := ⟨RX11, "here", "()I"⟩
abbrev cX11_wordHere : ByteArray := prog_13_method_37_code
def yX11_wordHere : MethodName := ⟨RX11, "wordHere", "()I"⟩
abbrev cX11_readAll : ByteArray := prog_13_method_38_code
def yX11_readAll : MethodName := ⟨RX11, "readAll", "()I"⟩
abbrev cX11_read : ByteArray := prog_13_method_39_code
def yX11_read : MethodName := ⟨RX11, "read", "()I"⟩
abbrev cX11_rule : ByteArray := prog_13_method_40_code
def yX11_rule : MethodName := ⟨RX11, "rule", "(I)I"⟩
abbrev cX11_work : ByteArray := prog_13_method_41_code
def yX11_work : MethodName := ⟨RX11, "work", "(IIII)I"⟩
abbrev cX11_wait : ByteArray := prog_13_method_42_code
def yX11_wait : MethodName := ⟨RX11, "wait", "(IIII)I"⟩
abbrev cX11_learner : ByteArray := prog_13_method_43_code
def yX11_learner : MethodName := ⟨RX11, "learner", "(III)I"⟩
abbrev cX11_earnedBy : ByteArray := prog_13_method_44_code
def yX11_earnedBy : MethodName := ⟨RX11, "earnedBy", "(I)I"⟩
abbrev cX11_earned : ByteArray := prog_13_method_45_code
def yX11_earned : MethodName := ⟨RX11, "earned", "(I)I"⟩
abbrev cX11_payOf : ByteArray := prog_13_method_46_code
def yX11_payOf : MethodName := ⟨RX11, "payOf", "(III)I"⟩
abbrev cX11_pay : ByteArray := prog_13_method_47_code
def yX11_pay : MethodName := ⟨RX11, "pay", "(III)I"⟩
abbrev cX11_cause : ByteArray := prog_13_method_48_code
def yX11_cause : MethodName := ⟨RX11, "cause", "(I)I"⟩
abbrev cX11_pool : ByteArray := prog_13_method_49_code
def yX11_pool : MethodName := ⟨RX11, "pool", "(III)I"⟩
abbrev cX11_efficiencyOf : ByteArray := prog_13_method_50_code
def yX11_efficiencyOf : MethodName := ⟨RX11, "efficiencyOf", "(II)I"⟩
abbrev cX11_efficiency : ByteArray := prog_13_method_51_code
def yX11_efficiency : MethodName := ⟨RX11, "efficiency", "(II)I"⟩
abbrev cX11_ones : ByteArray := prog_13_method_52_code
def yX11_ones : MethodName := ⟨RX11, "ones", "(I)I"⟩
abbrev cX11_isLooser : ByteArray := prog_13_method_53_code
def yX11_isLooser : MethodName := ⟨RX11, "isLooser", "(II)Z"⟩
abbrev cX11_looser : ByteArray := prog_13_method_54_code
def yX11_looser : MethodName := ⟨RX11, "looser", "(II)I"⟩
abbrev cX11_order : ByteArray := prog_13_method_55_code
def yX11_order : MethodName := ⟨RX11, "order", "(I)I"⟩
abbrev cX11_slow : ByteArray := prog_13_method_56_code
def yX11_slow : MethodName := ⟨RX11, "slow", "(II)I"⟩
abbrev cX11_tell : ByteArray := prog_13_method_57_code
def yX11_tell : MethodName := ⟨RX11, "tell", "(I)I"⟩
abbrev cX11_check : ByteArray := prog_13_method_58_code
def yX11_check : MethodName := ⟨RX11, "check", "(I)I"⟩
abbrev cX11_count : ByteArray := prog_13_method_59_code
def yX11_count : MethodName := ⟨RX11, "count", "(I)I"⟩
abbrev cX11_found : ByteArray := prog_13_method_60_code
def yX11_found : MethodName := ⟨RX11, "found", "(I)I"⟩
def RJ9 : String := "java/lang/Math"
def TJ9 : u_T := fun k => match k with
  | _ => ("", "", "", false)
def tyJ9 : Nat → FieldType := fun k => match k with
  | _ => .int
abbrev wsJ90 : List Cond := u_ws RJ9 TJ9 0
theorem nmJ9 : ∀ a, a < 0 → ∀ b, b < 0 → a ≠ b → (TJ9 a).2.1 ≠ (TJ9 b).2.1 := by decide +kernel
theorem tyJ9_ok : ∀ k, k < 0 → parseFieldDescriptor (TJ9 k).2.2.1 = some (tyJ9 k) := by decide +kernel
abbrev cJ9_abs_0f7a4 : ByteArray := prog_14_method_59_code
def yJ9_abs_0f7a4 : MethodName := ⟨RJ9, "abs", "(I)I"⟩
abbrev cJ9_max_7cf53 : ByteArray := prog_14_method_65_code
def yJ9_max_7cf53 : MethodName := ⟨RJ9, "max", "(II)I"⟩
abbrev cJ9_min_7cf53 : ByteArray := prog_14_method_69_code
def yJ9_min_7cf53 : MethodName := ⟨RJ9, "min", "(II)I"⟩
def RJ0 : String := "java/lang/String"
def TJ0 : u_T := fun k => match k with
  | _ => ("", "", "", false)
def tyJ0 : Nat → FieldType := fun k => match k with
  | _ => .int
abbrev wsJ00 : List Cond := u_ws RJ0 TJ0 0
theorem nmJ0 : ∀ a, a < 0 → ∀ b, b < 0 → a ≠ b → (TJ0 a).2.1 ≠ (TJ0 b).2.1 := by decide +kernel
theorem tyJ0_ok : ∀ k, k < 0 → parseFieldDescriptor (TJ0 k).2.2.1 = some (tyJ0 k) := by decide +kernel
abbrev cJ0_length_8abf5 : ByteArray := prog_15_method_54_code
def yJ0_length_8abf5 : MethodName := ⟨RJ0, "length", "()I"⟩
abbrev cJ0_charAt_5068e : ByteArray := prog_15_method_56_code
def yJ0_charAt_5068e : MethodName := ⟨RJ0, "charAt", "(I)C"⟩
abbrev cJ0_coder_7d493 : ByteArray := prog_15_method_152_code
def yJ0_coder_7d493 : MethodName := ⟨RJ0, "coder", "()B"⟩
abbrev cJ0_isLatin1_aae02 : ByteArray := prog_15_method_154_code
def yJ0_isLatin1_aae02 : MethodName := ⟨RJ0, "isLatin1", "()Z"⟩
abbrev cJ0_checkIndex_df160 : ByteArray := prog_15_method_155_code
def yJ0_checkIndex_df160 : MethodName := ⟨RJ0, "checkIndex", "(II)V"⟩
def RJ1 : String := "java/lang/StringLatin1"
def TJ1 : u_T := fun k => match k with
  | _ => ("", "", "", false)
def tyJ1 : Nat → FieldType := fun k => match k with
  | _ => .int
abbrev wsJ10 : List Cond := u_ws RJ1 TJ1 0
theorem nmJ1 : ∀ a, a < 0 → ∀ b, b < 0 → a ≠ b → (TJ1 a).2.1 ≠ (TJ1 b).2.1 := by decide +kernel
theorem tyJ1_ok : ∀ k, k < 0 → parseFieldDescriptor (TJ1 k).2.2.1 = some (tyJ1 k) := by decide +kernel
abbrev cJ1_charAt_3b067 : ByteArray := prog_16_method_2_code
def yJ1_charAt_3b067 : MethodName := ⟨RJ1, "charAt", "([BI)C"⟩
def RJ2 : String := "java/lang/StringUTF16"
def TJ2 : u_T := fun k => match k with
  | _ => ("", "", "", false)
def tyJ2 : Nat → FieldType := fun k => match k with
  | _ => .int
abbrev wsJ20 : List Cond := u_ws RJ2 TJ2 0
theorem nmJ2 : ∀ a, a < 0 → ∀ b, b < 0 → a ≠ b → (TJ2 a).2.1 ≠ (TJ2 b).2.1 := by decide +kernel
theorem tyJ2_ok : ∀ k, k < 0 → parseFieldDescriptor (TJ2 k).2.2.1 = some (tyJ2 k) := by decide +kernel
abbrev cJ2_getChar_3b067 : ByteArray := prog_17_method_5_code
def yJ2_getChar_3b067 : MethodName := ⟨RJ2, "getChar", "([BI)C"⟩
abbrev cJ2_length_9d52b : ByteArray := prog_17_method_6_code
def yJ2_length_9d52b : MethodName := ⟨RJ2, "length", "([B)I"⟩
abbrev cJ2_charAt_3b067 : ByteArray := prog_17_method_83_code
def yJ2_charAt_3b067 : MethodName := ⟨RJ2, "charAt", "([BI)C"⟩
abbrev cJ2_checkIndex_2214a : ByteArray := prog_17_method_91_code
def yJ2_checkIndex_2214a : MethodName := ⟨RJ2, "checkIndex", "(I[B)V"⟩
def RJ7 : String := "java/util/Arrays"
def TJ7 : u_T := fun k => match k with
  | _ => ("", "", "", false)
def tyJ7 : Nat → FieldType := fun k => match k with
  | _ => .int
abbrev wsJ70 : List Cond := u_ws RJ7 TJ7 0
theorem nmJ7 : ∀ a, a < 0 → ∀ b, b < 0 → a ≠ b → (TJ7 a).2.1 ≠ (TJ7 b).2.1 := by decide +kernel
theorem tyJ7_ok : ∀ k, k < 0 → parseFieldDescriptor (TJ7 k).2.2.1 = some (tyJ7 k) := by decide +kernel
abbrev cJ7_fill_d0a16 : ByteArray := prog_18_method_101_code
def yJ7_fill_d0a16 : MethodName := ⟨RJ7, "fill", "([JJ)V"⟩
abbrev cJ7_fill_53178 : ByteArray := prog_18_method_103_code
def yJ7_fill_53178 : MethodName := ⟨RJ7, "fill", "([II)V"⟩
def RJ3 : String := "jdk/internal/util/Preconditions"
def TJ3 : u_T := fun k => match k with
  | _ => ("", "", "", false)
def tyJ3 : Nat → FieldType := fun k => match k with
  | _ => .int
abbrev wsJ30 : List Cond := u_ws RJ3 TJ3 0
theorem nmJ3 : ∀ a, a < 0 → ∀ b, b < 0 → a ≠ b → (TJ3 a).2.1 ≠ (TJ3 b).2.1 := by decide +kernel
theorem tyJ3_ok : ∀ k, k < 0 → parseFieldDescriptor (TJ3 k).2.2.1 = some (tyJ3 k) := by decide +kernel
abbrev cJ3_checkIndex_8e157 : ByteArray := prog_19_method_11_code
def yJ3_checkIndex_8e157 : MethodName := ⟨RJ3, "checkIndex", "(IILjava/util/function/BiFunction;)I"⟩
def RL : String := "BenchTimesLaw"
abbrev cL_law : ByteArray := code
def yL_law : MethodName := ⟨RL, "law", "([I)Z"⟩
end
section
/-! THE WORLD: every cell of the object and of the reference, and a memory of ints over it -/
abbrev Mem : Type := (Nat → Nat → Int32) × (Nat → Int64)
/-- addresses of the cells; the classes' numbers and slots; the array classes; addresses of the static tables; of the texts -/
abbrev Cx : Type := (Nat → Nat) × va_G × (Nat → ClassId) × (Nat → Nat) × (Nat → Nat) × (Nat → Nat)
def up2 (M : Mem) (q j : Nat) (x : Int32) : Mem := (fun k => if k = q then upd (M.1 q) j x else M.1 k, M.2)
def upL (M : Mem) (j : Nat) (x : Int64) : Mem := (M.1, vp_updL M.2 j x)
abbrev cls : List vw_C := [(RX0, TX0, 4), (RX1, TX1, 4), (RX2, TX2, 5), (RX3, TX3, 3), (RX4, TX4, 7), (RX5, TX5, 5), (RX6, TX6, 6), (RX7, TX7, 5), (RX8, TX8, 16), (RX9, TX9, 11), (RX10, TX10, 14), (RX11, TX11, 49)]
abbrev fs0 (g : Cx) (M : Mem) : List Value := [.ref (g.1 12), .ref (g.1 1), .ref (g.1 2), .ref (g.1 3), .ref (g.1 4), .ref (g.1 5), .ref (g.1 6), .ref (g.1 7), .ref (g.1 8), .ref (g.1 9), .ref (g.1 10), .ref (g.1 13), .int (M.1 0 12), .int (M.1 0 13)]
abbrev fs1 (g : Cx) (M : Mem) : List Value := [.ref (g.1 14), .int (M.1 1 1), .int (M.1 1 2), .int (M.1 1 3)]
abbrev fs2 (g : Cx) (M : Mem) : List Value := [.ref (g.1 1), .ref (g.1 15), .ref (g.1 16), .int (M.1 2 3), .ref (g.1 17), .ref (g.1 18), .ref (g.1 19), .ref (g.1 20), .int (M.1 2 8), .ref (g.1 21), .int (M.1 2 10), .int (M.1 2 11), .int (M.1 2 12), .int (M.1 2 13), .int (M.1 2 14), .int (M.1 2 15)]
abbrev fs3 (g : Cx) (M : Mem) : List Value := [.ref (g.1 22), .ref (g.1 23), .ref (g.1 24), .ref (g.1 25), .int (M.1 3 4)]
abbrev fs4 (g : Cx) (M : Mem) : List Value := [.ref (g.1 3), .ref (g.1 2), .ref (g.1 26), .ref (g.1 27), .ref (g.1 28), .ref (g.1 29), .int (M.1 4 6)]
abbrev fs5 (g : Cx) (M : Mem) : List Value := [.ref (g.1 30), .ref (g.1 31), .ref (g.1 32), .int (M.1 5 3), .int (M.1 5 4)]
abbrev fs6 (g : Cx) (M : Mem) : List Value := [.ref (g.1 4), .ref (g.1 5), .ref (g.1 33), .ref (g.1 34), .ref (g.1 35), .ref (g.1 36), .ref (g.1 37), .ref (g.1 38), .ref (g.1 39), .ref (g.1 40), .int (M.1 6 10)]
abbrev fs7 (g : Cx) (M : Mem) : List Value := [.ref (g.1 41), .ref (g.1 42), .ref (g.1 43), .ref (g.1 44), .int (M.1 7 4)]
abbrev fs8 (g : Cx) (M : Mem) : List Value := [.ref (g.1 6), .ref (g.1 7), .ref (g.1 5)]
abbrev fs9 (g : Cx) (M : Mem) : List Value := [.ref (g.1 6), .ref (g.1 45), .ref (g.1 46), .ref (g.1 47)]
abbrev fs10 (g : Cx) (M : Mem) : List Value := [.ref (g.1 6), .ref (g.1 48), .ref (g.1 49), .ref (g.1 50), .int (M.1 10 4), .int (M.1 10 5)]
abbrev fs11 (g : Cx) (M : Mem) : List Value := [.int (M.1 11 0), .ref (g.1 66), .int (M.1 11 2), .int (M.1 11 3), .int (M.1 11 4), .ref (g.1 67), .ref (g.1 68), .int (M.1 11 7), .ref (g.1 69), .ref (g.1 70), .ref (g.1 71), .ref (g.1 72), .int (M.1 11 12), .ref (g.1 73), .ref (g.1 74), .ref (g.1 75), .ref (g.1 76), .int (M.1 11 17), .ref (g.1 77), .ref (g.1 78), .ref (g.1 79), .int (M.1 11 21), .ref (g.1 80), .ref (g.1 81), .int (M.1 11 24), .int (M.1 11 25), .ref (g.1 82), .ref (g.1 83), .ref (g.1 84), .ref (g.1 85), .ref (g.1 86), .ref (g.1 87), .ref (g.1 88), .int (M.1 11 33), .ref (g.1 89), .ref (g.1 90), .ref (g.1 91), .ref (g.1 92), .ref (g.1 93), .int (M.1 11 39), .ref (g.1 94), .ref (g.1 95), .ref (g.1 96), .ref (g.1 97), .int (M.1 11 44), .ref (g.1 98), .ref (g.1 99), .ref (g.1 100), .ref (g.1 101)]
def wl (g : Cx) (M : Mem) : va_W := [(g.1 0, .inr (10, [.ref (g.1 12), .ref (g.1 1), .ref (g.1 2), .ref (g.1 3), .ref (g.1 4), .ref (g.1 5), .ref (g.1 6), .ref (g.1 7), .ref (g.1 8), .ref (g.1 9), .ref (g.1 10), .ref (g.1 13), .int (M.1 0 12), .int (M.1 0 13)])),
  (g.1 1, .inr (1, [.ref (g.1 14), .int (M.1 1 1), .int (M.1 1 2), .int (M.1 1 3)])),
  (g.1 2, .inr (8, [.ref (g.1 1), .ref (g.1 15), .ref (g.1 16), .int (M.1 2 3), .ref (g.1 17), .ref (g.1 18), .ref (g.1 19), .ref (g.1 20), .int (M.1 2 8), .ref (g.1 21), .int (M.1 2 10), .int (M.1 2 11), .int (M.1 2 12), .int (M.1 2 13), .int (M.1 2 14), .int (M.1 2 15)])),
  (g.1 3, .inr (2, [.ref (g.1 22), .ref (g.1 23), .ref (g.1 24), .ref (g.1 25), .int (M.1 3 4)])),
  (g.1 4, .inr (4, [.ref (g.1 3), .ref (g.1 2), .ref (g.1 26), .ref (g.1 27), .ref (g.1 28), .ref (g.1 29), .int (M.1 4 6)])),
  (g.1 5, .inr (5, [.ref (g.1 30), .ref (g.1 31), .ref (g.1 32), .int (M.1 5 3), .int (M.1 5 4)])),
  (g.1 6, .inr (9, [.ref (g.1 4), .ref (g.1 5), .ref (g.1 33), .ref (g.1 34), .ref (g.1 35), .ref (g.1 36), .ref (g.1 37), .ref (g.1 38), .ref (g.1 39), .ref (g.1 40), .int (M.1 6 10)])),
  (g.1 7, .inr (7, [.ref (g.1 41), .ref (g.1 42), .ref (g.1 43), .ref (g.1 44), .int (M.1 7 4)])),
  (g.1 8, .inr (3, [.ref (g.1 6), .ref (g.1 7), .ref (g.1 5)])),
  (g.1 9, .inr (0, [.ref (g.1 6), .ref (g.1 45), .ref (g.1 46), .ref (g.1 47)])),
  (g.1 10, .inr (6, [.ref (g.1 6), .ref (g.1 48), .ref (g.1 49), .ref (g.1 50), .int (M.1 10 4), .int (M.1 10 5)])),
  (g.1 11, .inr (11, [.int (M.1 11 0), .ref (g.1 66), .int (M.1 11 2), .int (M.1 11 3), .int (M.1 11 4), .ref (g.1 67), .ref (g.1 68), .int (M.1 11 7), .ref (g.1 69), .ref (g.1 70), .ref (g.1 71), .ref (g.1 72), .int (M.1 11 12), .ref (g.1 73), .ref (g.1 74), .ref (g.1 75), .ref (g.1 76), .int (M.1 11 17), .ref (g.1 77), .ref (g.1 78), .ref (g.1 79), .int (M.1 11 21), .ref (g.1 80), .ref (g.1 81), .int (M.1 11 24), .int (M.1 11 25), .ref (g.1 82), .ref (g.1 83), .ref (g.1 84), .ref (g.1 85), .ref (g.1 86), .ref (g.1 87), .ref (g.1 88), .int (M.1 11 33), .ref (g.1 89), .ref (g.1 90), .ref (g.1 91), .ref (g.1 92), .ref (g.1 93), .int (M.1 11 39), .ref (g.1 94), .ref (g.1 95), .ref (g.1 96), .ref (g.1 97), .int (M.1 11 44), .ref (g.1 98), .ref (g.1 99), .ref (g.1 100), .ref (g.1 101)])),
  (g.1 12, .inl (g.2.2.1 0, 6, .inl (M.1 12))),
  (g.1 13, .inl (g.2.2.1 0, 8, .inl (M.1 13))),
  (g.1 14, .inl (g.2.2.1 0, 12, .inl (M.1 14))),
  (g.1 15, .inl (g.2.2.1 0, 4, .inl (M.1 15))),
  (g.1 16, .inl (g.2.2.1 0, 4, .inl (M.1 16))),
  (g.1 17, .inl (g.2.2.1 0, 60, .inl (M.1 17))),
  (g.1 18, .inl (g.2.2.1 0, 60, .inl (M.1 18))),
  (g.1 19, .inl (g.2.2.1 0, 60, .inl (M.1 19))),
  (g.1 20, .inl (g.2.2.1 0, 60, .inl (M.1 20))),
  (g.1 21, .inl (g.2.2.1 0, 60, .inl (M.1 21))),
  (g.1 22, .inl (g.2.2.1 0, 8, .inl (M.1 22))),
  (g.1 23, .inl (g.2.2.1 0, 48, .inl (M.1 23))),
  (g.1 24, .inl (g.2.2.1 0, 48, .inl (M.1 24))),
  (g.1 25, .inl (g.2.2.1 1, 48, .inl (M.1 25))),
  (g.1 26, .inl (g.2.2.1 0, 40, .inl (M.1 26))),
  (g.1 27, .inl (g.2.2.1 0, 40, .inl (M.1 27))),
  (g.1 28, .inl (g.2.2.1 0, 40, .inl (M.1 28))),
  (g.1 29, .inl (g.2.2.1 0, 240, .inl (M.1 29))),
  (g.1 30, .inl (g.2.2.1 0, 5, .inl (M.1 30))),
  (g.1 31, .inl (g.2.2.1 0, 5, .inl (M.1 31))),
  (g.1 32, .inl (g.2.2.1 0, 60, .inl (M.1 32))),
  (g.1 33, .inl (g.2.2.1 0, 100, .inl (M.1 33))),
  (g.1 34, .inl (g.2.2.1 0, 100, .inl (M.1 34))),
  (g.1 35, .inl (g.2.2.1 0, 100, .inl (M.1 35))),
  (g.1 36, .inl (g.2.2.1 0, 100, .inl (M.1 36))),
  (g.1 37, .inl (g.2.2.1 0, 100, .inl (M.1 37))),
  (g.1 38, .inl (g.2.2.1 0, 100, .inl (M.1 38))),
  (g.1 39, .inl (g.2.2.1 1, 100, .inl (M.1 39))),
  (g.1 40, .inl (g.2.2.1 0, 64, .inl (M.1 40))),
  (g.1 41, .inl (g.2.2.1 0, 60, .inl (M.1 41))),
  (g.1 42, .inl (g.2.2.1 0, 60, .inl (M.1 42))),
  (g.1 43, .inl (g.2.2.1 0, 60, .inl (M.1 43))),
  (g.1 44, .inl (g.2.2.1 0, 4, .inl (M.1 44))),
  (g.1 45, .inl (g.2.2.1 2, 64, .inr (.inl M.2))),
  (g.1 46, .inl (g.2.2.1 0, 64, .inl (M.1 46))),
  (g.1 47, .inl (g.2.2.1 0, 8, .inl (M.1 47))),
  (g.1 48, .inl (g.2.2.1 0, 14, .inl (M.1 48))),
  (g.1 49, .inl (g.2.2.1 1, 14, .inl (M.1 49))),
  (g.1 50, .inl (g.2.2.1 3, 15, .inr (.inr (.inr (.inr (fun i => if i < 15 then some (g.1 (51 + i)) else none)))))),
  (g.1 51, .inl (g.2.2.1 0, 183, .inl (M.1 51))),
  (g.1 52, .inl (g.2.2.1 0, 183, .inl (M.1 52))),
  (g.1 53, .inl (g.2.2.1 0, 183, .inl (M.1 53))),
  (g.1 54, .inl (g.2.2.1 0, 183, .inl (M.1 54))),
  (g.1 55, .inl (g.2.2.1 0, 183, .inl (M.1 55))),
  (g.1 56, .inl (g.2.2.1 0, 183, .inl (M.1 56))),
  (g.1 57, .inl (g.2.2.1 0, 183, .inl (M.1 57))),
  (g.1 58, .inl (g.2.2.1 0, 183, .inl (M.1 58))),
  (g.1 59, .inl (g.2.2.1 0, 183, .inl (M.1 59))),
  (g.1 60, .inl (g.2.2.1 0, 183, .inl (M.1 60))),
  (g.1 61, .inl (g.2.2.1 0, 183, .inl (M.1 61))),
  (g.1 62, .inl (g.2.2.1 0, 183, .inl (M.1 62))),
  (g.1 63, .inl (g.2.2.1 0, 183, .inl (M.1 63))),
  (g.1 64, .inl (g.2.2.1 0, 183, .inl (M.1 64))),
  (g.1 65, .inl (g.2.2.1 0, 183, .inl (M.1 65))),
  (g.1 66, .inl (g.2.2.1 0, 12, .inl (M.1 66))),
  (g.1 67, .inl (g.2.2.1 0, 20, .inl (M.1 67))),
  (g.1 68, .inl (g.2.2.1 0, 20, .inl (M.1 68))),
  (g.1 69, .inl (g.2.2.1 0, 60, .inl (M.1 69))),
  (g.1 70, .inl (g.2.2.1 0, 60, .inl (M.1 70))),
  (g.1 71, .inl (g.2.2.1 0, 60, .inl (M.1 71))),
  (g.1 72, .inl (g.2.2.1 0, 60, .inl (M.1 72))),
  (g.1 73, .inl (g.2.2.1 0, 8, .inl (M.1 73))),
  (g.1 74, .inl (g.2.2.1 0, 48, .inl (M.1 74))),
  (g.1 75, .inl (g.2.2.1 0, 48, .inl (M.1 75))),
  (g.1 76, .inl (g.2.2.1 1, 48, .inl (M.1 76))),
  (g.1 77, .inl (g.2.2.1 0, 40, .inl (M.1 77))),
  (g.1 78, .inl (g.2.2.1 0, 40, .inl (M.1 78))),
  (g.1 79, .inl (g.2.2.1 0, 240, .inl (M.1 79))),
  (g.1 80, .inl (g.2.2.1 0, 5, .inl (M.1 80))),
  (g.1 81, .inl (g.2.2.1 0, 60, .inl (M.1 81))),
  (g.1 82, .inl (g.2.2.1 0, 100, .inl (M.1 82))),
  (g.1 83, .inl (g.2.2.1 0, 100, .inl (M.1 83))),
  (g.1 84, .inl (g.2.2.1 0, 100, .inl (M.1 84))),
  (g.1 85, .inl (g.2.2.1 0, 100, .inl (M.1 85))),
  (g.1 86, .inl (g.2.2.1 0, 100, .inl (M.1 86))),
  (g.1 87, .inl (g.2.2.1 0, 100, .inl (M.1 87))),
  (g.1 88, .inl (g.2.2.1 1, 100, .inl (M.1 88))),
  (g.1 89, .inl (g.2.2.1 0, 60, .inl (M.1 89))),
  (g.1 90, .inl (g.2.2.1 0, 60, .inl (M.1 90))),
  (g.1 91, .inl (g.2.2.1 0, 60, .inl (M.1 91))),
  (g.1 92, .inl (g.2.2.1 0, 60, .inl (M.1 92))),
  (g.1 93, .inl (g.2.2.1 0, 64, .inl (M.1 93))),
  (g.1 94, .inl (g.2.2.1 0, 8, .inl (M.1 94))),
  (g.1 95, .inl (g.2.2.1 0, 6, .inl (M.1 95))),
  (g.1 96, .inl (g.2.2.1 0, 60, .inl (M.1 96))),
  (g.1 97, .inl (g.2.2.1 0, 5, .inl (M.1 97))),
  (g.1 98, .inl (g.2.2.1 1, 8, .inl (M.1 98))),
  (g.1 99, .inl (g.2.2.1 0, 8, .inl (M.1 99))),
  (g.1 100, .inl (g.2.2.1 0, 14, .inl (M.1 100))),
  (g.1 101, .inl (g.2.2.1 0, 14, .inl (M.1 101)))]
def inW (g : Cx) : Nat → Prop := fun q => ∃ k : Nat, k < 102 ∧ q = g.1 k
def DJ (g : Cx) : Prop := ∀ i j : Nat, i < 102 → j < 102 → g.1 i = g.1 j → i = j
theorem wl_ad (g : Cx) (M : Mem) : (wl g M).map (fun p => p.1) = (List.range 102).map g.1 := rfl
theorem wl_at {g : Cx} {M : Mem} {k : Nat} {p : Nat × va_E} (h : (wl g M)[k]? = some p) : k < 102 ∧ p.1 = g.1 k := by
  have h1 : ((wl g M).map (fun p => p.1))[k]? = some p.1 := by rw [List.getElem?_map, h]; rfl
  rw [wl_ad, List.getElem?_map] at h1
  by_cases hk : k < 102
  · rw [List.getElem?_range hk] at h1
    exact ⟨hk, (Option.some.inj h1).symm⟩
  · have hn : (List.range 102)[k]? = none := List.getElem?_eq_none (by rw [List.length_range]; omega)
    rw [hn] at h1
    cases h1
theorem wl_D {g : Cx} (h : DJ g) (M : Mem) : va_D (inW g) (wl g M) := by
  refine ⟨fun i j p q hi hj e => ?_, fun k q hk => ?_⟩
  · obtain ⟨h1, h2⟩ := wl_at hi
    obtain ⟨h3, h4⟩ := wl_at hj
    exact h i j h1 h3 (by rw [← h2, ← h4]; exact e)
  · obtain ⟨h1, h2⟩ := wl_at hk
    exact ⟨k, h1, h2⟩
def tysG (g : Cx) : List (ClassId × FieldType) := [(g.2.2.1 0, .int), (g.2.2.1 1, .boolean), (g.2.2.1 2, .long), (g.2.2.1 3, .array .int)]
/-- an int array of n places at cell q -/
def IA (q n : Nat) : Prop := (∀ (g : Cx) (M : Mem), (wl g M)[q]? = some (g.1 q, .inl (g.2.2.1 0, n, .inl (M.1 q)))) ∧ ∀ (g : Cx) (M : Mem) (i : Nat) (x : Int32), (wl g M).set q (g.1 q, .inl (g.2.2.1 0, n, .inl (upd (M.1 q) i x))) = wl g (up2 M q i x)
def ZA (q n : Nat) : Prop := (∀ (g : Cx) (M : Mem), (wl g M)[q]? = some (g.1 q, .inl (g.2.2.1 1, n, .inl (M.1 q)))) ∧ ∀ (g : Cx) (M : Mem) (i : Nat) (x : Int32), (wl g M).set q (g.1 q, .inl (g.2.2.1 1, n, .inl (upd (M.1 q) i x))) = wl g (up2 M q i x)
def LA (q n : Nat) : Prop := (∀ (g : Cx) (M : Mem), (wl g M)[q]? = some (g.1 q, .inl (g.2.2.1 2, n, .inr (.inl M.2)))) ∧ ∀ (g : Cx) (M : Mem) (i : Nat) (x : Int64), (wl g M).set q (g.1 q, .inl (g.2.2.1 2, n, .inr (.inl (vp_updL M.2 i x)))) = wl g (upL M i x)
def OB (q ci : Nat) (fs : Cx → Mem → List Value) : Prop := ∀ (g : Cx) (M : Mem), (wl g M)[q]? = some (g.1 q, .inr (ci, fs g M))
def PF (q ci j : Nat) (fs : Cx → Mem → List Value) : Prop := ∀ (g : Cx) (M : Mem) (x : Int32), (wl g M).set q (g.1 q, .inr (ci, (fs g M).set j (.int x))) = wl g (up2 M q j x)
theorem ob0 : OB 0 10 fs0 := fun _ _ => rfl
theorem pf0_12 : PF 0 10 12 fs0 := fun _ _ _ => rfl
theorem pf0_13 : PF 0 10 13 fs0 := fun _ _ _ => rfl
theorem ob1 : OB 1 1 fs1 := fun _ _ => rfl
theorem pf1_1 : PF 1 1 1 fs1 := fun _ _ _ => rfl
theorem pf1_2 : PF 1 1 2 fs1 := fun _ _ _ => rfl
theorem pf1_3 : PF 1 1 3 fs1 := fun _ _ _ => rfl
theorem ob2 : OB 2 8 fs2 := fun _ _ => rfl
theorem pf2_3 : PF 2 8 3 fs2 := fun _ _ _ => rfl
theorem pf2_8 : PF 2 8 8 fs2 := fun _ _ _ => rfl
theorem pf2_10 : PF 2 8 10 fs2 := fun _ _ _ => rfl
theorem pf2_11 : PF 2 8 11 fs2 := fun _ _ _ => rfl
theorem pf2_12 : PF 2 8 12 fs2 := fun _ _ _ => rfl
theorem pf2_13 : PF 2 8 13 fs2 := fun _ _ _ => rfl
theorem pf2_14 : PF 2 8 14 fs2 := fun _ _ _ => rfl
theorem pf2_15 : PF 2 8 15 fs2 := fun _ _ _ => rfl
theorem ob3 : OB 3 2 fs3 := fun _ _ => rfl
theorem pf3_4 : PF 3 2 4 fs3 := fun _ _ _ => rfl
theorem ob4 : OB 4 4 fs4 := fun _ _ => rfl
theorem pf4_6 : PF 4 4 6 fs4 := fun _ _ _ => rfl
theorem ob5 : OB 5 5 fs5 := fun _ _ => rfl
theorem pf5_3 : PF 5 5 3 fs5 := fun _ _ _ => rfl
theorem pf5_4 : PF 5 5 4 fs5 := fun _ _ _ => rfl
theorem ob6 : OB 6 9 fs6 := fun _ _ => rfl
theorem pf6_10 : PF 6 9 10 fs6 := fun _ _ _ => rfl
theorem ob7 : OB 7 7 fs7 := fun _ _ => rfl
theorem pf7_4 : PF 7 7 4 fs7 := fun _ _ _ => rfl
theorem ob8 : OB 8 3 fs8 := fun _ _ => rfl
theorem ob9 : OB 9 0 fs9 := fun _ _ => rfl
theorem ob10 : OB 10 6 fs10 := fun _ _ => rfl
theorem pf10_4 : PF 10 6 4 fs10 := fun _ _ _ => rfl
theorem pf10_5 : PF 10 6 5 fs10 := fun _ _ _ => rfl
theorem ob11 : OB 11 11 fs11 := fun _ _ => rfl
theorem pf11_0 : PF 11 11 0 fs11 := fun _ _ _ => rfl
theorem pf11_2 : PF 11 11 2 fs11 := fun _ _ _ => rfl
theorem pf11_3 : PF 11 11 3 fs11 := fun _ _ _ => rfl
theorem pf11_4 : PF 11 11 4 fs11 := fun _ _ _ => rfl
theorem pf11_7 : PF 11 11 7 fs11 := fun _ _ _ => rfl
theorem pf11_12 : PF 11 11 12 fs11 := fun _ _ _ => rfl
theorem pf11_17 : PF 11 11 17 fs11 := fun _ _ _ => rfl
theorem pf11_21 : PF 11 11 21 fs11 := fun _ _ _ => rfl
theorem pf11_24 : PF 11 11 24 fs11 := fun _ _ _ => rfl
theorem pf11_25 : PF 11 11 25 fs11 := fun _ _ _ => rfl
theorem pf11_33 : PF 11 11 33 fs11 := fun _ _ _ => rfl
theorem pf11_39 : PF 11 11 39 fs11 := fun _ _ _ => rfl
theorem pf11_44 : PF 11 11 44 fs11 := fun _ _ _ => rfl
theorem ia12 : IA 12 6 := ⟨fun _ _ => rfl, fun _ _ _ _ => rfl⟩
theorem ia13 : IA 13 8 := ⟨fun _ _ => rfl, fun _ _ _ _ => rfl⟩
theorem ia14 : IA 14 12 := ⟨fun _ _ => rfl, fun _ _ _ _ => rfl⟩
theorem ia15 : IA 15 4 := ⟨fun _ _ => rfl, fun _ _ _ _ => rfl⟩
theorem ia16 : IA 16 4 := ⟨fun _ _ => rfl, fun _ _ _ _ => rfl⟩
theorem ia17 : IA 17 60 := ⟨fun _ _ => rfl, fun _ _ _ _ => rfl⟩
theorem ia18 : IA 18 60 := ⟨fun _ _ => rfl, fun _ _ _ _ => rfl⟩
theorem ia19 : IA 19 60 := ⟨fun _ _ => rfl, fun _ _ _ _ => rfl⟩
theorem ia20 : IA 20 60 := ⟨fun _ _ => rfl, fun _ _ _ _ => rfl⟩
theorem ia21 : IA 21 60 := ⟨fun _ _ => rfl, fun _ _ _ _ => rfl⟩
theorem ia22 : IA 22 8 := ⟨fun _ _ => rfl, fun _ _ _ _ => rfl⟩
theorem ia23 : IA 23 48 := ⟨fun _ _ => rfl, fun _ _ _ _ => rfl⟩
theorem ia24 : IA 24 48 := ⟨fun _ _ => rfl, fun _ _ _ _ => rfl⟩
theorem za25 : ZA 25 48 := ⟨fun _ _ => rfl, fun _ _ _ _ => rfl⟩
theorem ia26 : IA 26 40 := ⟨fun _ _ => rfl, fun _ _ _ _ => rfl⟩
theorem ia27 : IA 27 40 := ⟨fun _ _ => rfl, fun _ _ _ _ => rfl⟩
theorem ia28 : IA 28 40 := ⟨fun _ _ => rfl, fun _ _ _ _ => rfl⟩
theorem ia29 : IA 29 240 := ⟨fun _ _ => rfl, fun _ _ _ _ => rfl⟩
theorem ia30 : IA 30 5 := ⟨fun _ _ => rfl, fun _ _ _ _ => rfl⟩
theorem ia31 : IA 31 5 := ⟨fun _ _ => rfl, fun _ _ _ _ => rfl⟩
theorem ia32 : IA 32 60 := ⟨fun _ _ => rfl, fun _ _ _ _ => rfl⟩
theorem ia33 : IA 33 100 := ⟨fun _ _ => rfl, fun _ _ _ _ => rfl⟩
theorem ia34 : IA 34 100 := ⟨fun _ _ => rfl, fun _ _ _ _ => rfl⟩
theorem ia35 : IA 35 100 := ⟨fun _ _ => rfl, fun _ _ _ _ => rfl⟩
theorem ia36 : IA 36 100 := ⟨fun _ _ => rfl, fun _ _ _ _ => rfl⟩
theorem ia37 : IA 37 100 := ⟨fun _ _ => rfl, fun _ _ _ _ => rfl⟩
theorem ia38 : IA 38 100 := ⟨fun _ _ => rfl, fun _ _ _ _ => rfl⟩
theorem za39 : ZA 39 100 := ⟨fun _ _ => rfl, fun _ _ _ _ => rfl⟩
theorem ia40 : IA 40 64 := ⟨fun _ _ => rfl, fun _ _ _ _ => rfl⟩
theorem ia41 : IA 41 60 := ⟨fun _ _ => rfl, fun _ _ _ _ => rfl⟩
theorem ia42 : IA 42 60 := ⟨fun _ _ => rfl, fun _ _ _ _ => rfl⟩
theorem ia43 : IA 43 60 := ⟨fun _ _ => rfl, fun _ _ _ _ => rfl⟩
theorem ia44 : IA 44 4 := ⟨fun _ _ => rfl, fun _ _ _ _ => rfl⟩
theorem la45 : LA 45 64 := ⟨fun _ _ => rfl, fun _ _ _ _ => rfl⟩
theorem ia46 : IA 46 64 := ⟨fun _ _ => rfl, fun _ _ _ _ => rfl⟩
theorem ia47 : IA 47 8 := ⟨fun _ _ => rfl, fun _ _ _ _ => rfl⟩
theorem ia48 : IA 48 14 := ⟨fun _ _ => rfl, fun _ _ _ _ => rfl⟩
theorem za49 : ZA 49 14 := ⟨fun _ _ => rfl, fun _ _ _ _ => rfl⟩
theorem ia51 : IA 51 183 := ⟨fun _ _ => rfl, fun _ _ _ _ => rfl⟩
theorem ia52 : IA 52 183 := ⟨fun _ _ => rfl, fun _ _ _ _ => rfl⟩
theorem ia53 : IA 53 183 := ⟨fun _ _ => rfl, fun _ _ _ _ => rfl⟩
theorem ia54 : IA 54 183 := ⟨fun _ _ => rfl, fun _ _ _ _ => rfl⟩
theorem ia55 : IA 55 183 := ⟨fun _ _ => rfl, fun _ _ _ _ => rfl⟩
theorem ia56 : IA 56 183 := ⟨fun _ _ => rfl, fun _ _ _ _ => rfl⟩
theorem ia57 : IA 57 183 := ⟨fun _ _ => rfl, fun _ _ _ _ => rfl⟩
theorem ia58 : IA 58 183 := ⟨fun _ _ => rfl, fun _ _ _ _ => rfl⟩
theorem ia59 : IA 59 183 := ⟨fun _ _ => rfl, fun _ _ _ _ => rfl⟩
theorem ia60 : IA 60 183 := ⟨fun _ _ => rfl, fun _ _ _ _ => rfl⟩
theorem ia61 : IA 61 183 := ⟨fun _ _ => rfl, fun _ _ _ _ => rfl⟩
theorem ia62 : IA 62 183 := ⟨fun _ _ => rfl, fun _ _ _ _ => rfl⟩
theorem ia63 : IA 63 183 := ⟨fun _ _ => rfl, fun _ _ _ _ => rfl⟩
theorem ia64 : IA 64 183 := ⟨fun _ _ => rfl, fun _ _ _ _ => rfl⟩
theorem ia65 : IA 65 183 := ⟨fun _ _ => rfl, fun _ _ _ _ => rfl⟩
theorem ia66 : IA 66 12 := ⟨fun _ _ => rfl, fun _ _ _ _ => rfl⟩
theorem ia67 : IA 67 20 := ⟨fun _ _ => rfl, fun _ _ _ _ => rfl⟩
theorem ia68 : IA 68 20 := ⟨fun _ _ => rfl, fun _ _ _ _ => rfl⟩
theorem ia69 : IA 69 60 := ⟨fun _ _ => rfl, fun _ _ _ _ => rfl⟩
theorem ia70 : IA 70 60 := ⟨fun _ _ => rfl, fun _ _ _ _ => rfl⟩
theorem ia71 : IA 71 60 := ⟨fun _ _ => rfl, fun _ _ _ _ => rfl⟩
theorem ia72 : IA 72 60 := ⟨fun _ _ => rfl, fun _ _ _ _ => rfl⟩
theorem ia73 : IA 73 8 := ⟨fun _ _ => rfl, fun _ _ _ _ => rfl⟩
theorem ia74 : IA 74 48 := ⟨fun _ _ => rfl, fun _ _ _ _ => rfl⟩
theorem ia75 : IA 75 48 := ⟨fun _ _ => rfl, fun _ _ _ _ => rfl⟩
theorem za76 : ZA 76 48 := ⟨fun _ _ => rfl, fun _ _ _ _ => rfl⟩
theorem ia77 : IA 77 40 := ⟨fun _ _ => rfl, fun _ _ _ _ => rfl⟩
theorem ia78 : IA 78 40 := ⟨fun _ _ => rfl, fun _ _ _ _ => rfl⟩
theorem ia79 : IA 79 240 := ⟨fun _ _ => rfl, fun _ _ _ _ => rfl⟩
theorem ia80 : IA 80 5 := ⟨fun _ _ => rfl, fun _ _ _ _ => rfl⟩
theorem ia81 : IA 81 60 := ⟨fun _ _ => rfl, fun _ _ _ _ => rfl⟩
theorem ia82 : IA 82 100 := ⟨fun _ _ => rfl, fun _ _ _ _ => rfl⟩
theorem ia83 : IA 83 100 := ⟨fun _ _ => rfl, fun _ _ _ _ => rfl⟩
theorem ia84 : IA 84 100 := ⟨fun _ _ => rfl, fun _ _ _ _ => rfl⟩
theorem ia85 : IA 85 100 := ⟨fun _ _ => rfl, fun _ _ _ _ => rfl⟩
theorem ia86 : IA 86 100 := ⟨fun _ _ => rfl, fun _ _ _ _ => rfl⟩
theorem ia87 : IA 87 100 := ⟨fun _ _ => rfl, fun _ _ _ _ => rfl⟩
theorem za88 : ZA 88 100 := ⟨fun _ _ => rfl, fun _ _ _ _ => rfl⟩
theorem ia89 : IA 89 60 := ⟨fun _ _ => rfl, fun _ _ _ _ => rfl⟩
theorem ia90 : IA 90 60 := ⟨fun _ _ => rfl, fun _ _ _ _ => rfl⟩
theorem ia91 : IA 91 60 := ⟨fun _ _ => rfl, fun _ _ _ _ => rfl⟩
theorem ia92 : IA 92 60 := ⟨fun _ _ => rfl, fun _ _ _ _ => rfl⟩
theorem ia93 : IA 93 64 := ⟨fun _ _ => rfl, fun _ _ _ _ => rfl⟩
theorem ia94 : IA 94 8 := ⟨fun _ _ => rfl, fun _ _ _ _ => rfl⟩
theorem ia95 : IA 95 6 := ⟨fun _ _ => rfl, fun _ _ _ _ => rfl⟩
theorem ia96 : IA 96 60 := ⟨fun _ _ => rfl, fun _ _ _ _ => rfl⟩
theorem ia97 : IA 97 5 := ⟨fun _ _ => rfl, fun _ _ _ _ => rfl⟩
theorem za98 : ZA 98 8 := ⟨fun _ _ => rfl, fun _ _ _ _ => rfl⟩
theorem ia99 : IA 99 8 := ⟨fun _ _ => rfl, fun _ _ _ _ => rfl⟩
theorem ia100 : IA 100 14 := ⟨fun _ _ => rfl, fun _ _ _ _ => rfl⟩
theorem ia101 : IA 101 14 := ⟨fun _ _ => rfl, fun _ _ _ _ => rfl⟩
theorem iaW {i : Nat} (h : i < 15) : IA (51 + i) 183 := by
  rcases (show i = 0 ∨ i = 1 ∨ i = 2 ∨ i = 3 ∨ i = 4 ∨ i = 5 ∨ i = 6 ∨ i = 7 ∨ i = 8 ∨ i = 9 ∨ i = 10 ∨ i = 11 ∨ i = 12 ∨ i = 13 ∨ i = 14 by omega) with rfl | rfl | rfl | rfl | rfl | rfl | rfl | rfl | rfl | rfl | rfl | rfl | rfl | rfl | rfl
  · exact ia51
  · exact ia52
  · exact ia53
  · exact ia54
  · exact ia55
  · exact ia56
  · exact ia57
  · exact ia58
  · exact ia59
  · exact ia60
  · exact ia61
  · exact ia62
  · exact ia63
  · exact ia64
  · exact ia65
theorem waW : ∀ (g : Cx) (M : Mem), (wl g M)[50]? = some (g.1 50, .inl (g.2.2.1 3, 15, .inr (.inr (.inr (.inr (fun i => if i < 15 then some (g.1 (51 + i)) else none)))))) := fun _ _ => rfl
end
section
/-! THE JUDGEMENTS: a frame of a method over a memory (AT), a method's contract (CT) -/
def gd : List Cond := lw_tbl.filter goodWord
theorem gd_good {w : Cond} (h : w ∈ gd) : w ∈ gd ∧ ((w.onTables && w.keeps) = true ∨ ∃ ty, w = .arrayClass ty) := ⟨h, good_of_word (List.mem_filter.mp h).2⟩
theorem gd_t {w : Cond} (i : Nat) (h : tables_1[i]? = some w ∧ goodWord w = true) : w ∈ gd := List.mem_filter.mpr ⟨List.mem_append_right _ (List.mem_of_getElem? h.1), h.2⟩
theorem gd_1 {w : Cond} (i : Nat) (h : tables_1_1[i]? = some w ∧ goodWord w = true) : w ∈ gd := List.mem_filter.mpr ⟨List.mem_append_right _ (List.mem_append_left _ (List.mem_of_getElem? h.1)), h.2⟩
theorem gd_2 {w : Cond} (i : Nat) (h : tables_1_2[i]? = some w ∧ goodWord w = true) : w ∈ gd := List.mem_filter.mpr ⟨List.mem_append_right _ (List.mem_append_right _ (List.mem_append_left _ (List.mem_of_getElem? h.1))), h.2⟩
theorem gd_3 {w : Cond} (i : Nat) (h : tables_1_3[i]? = some w ∧ goodWord w = true) : w ∈ gd := List.mem_filter.mpr ⟨List.mem_append_right _ (List.mem_append_right _ (List.mem_append_right _ (List.mem_append_left _ (List.mem_of_getElem? h.1)))), h.2⟩
theorem gd_4 {w : Cond} (i : Nat) (h : tables_1_4[i]? = some w ∧ goodWord w = true) : w ∈ gd := List.mem_filter.mpr ⟨List.mem_append_right _ (List.mem_append_right _ (List.mem_append_right _ (List.mem_append_right _ (List.mem_append_left _ (List.mem_of_getElem? h.1))))), h.2⟩
theorem gd_5 {w : Cond} (i : Nat) (h : tables_1_5[i]? = some w ∧ goodWord w = true) : w ∈ gd := List.mem_filter.mpr ⟨List.mem_append_right _ (List.mem_append_right _ (List.mem_append_right _ (List.mem_append_right _ (List.mem_append_right _ (List.mem_append_left _ (List.mem_of_getElem? h.1)))))), h.2⟩
theorem gd_6 {w : Cond} (i : Nat) (h : tables_1_6[i]? = some w ∧ goodWord w = true) : w ∈ gd := List.mem_filter.mpr ⟨List.mem_append_right _ (List.mem_append_right _ (List.mem_append_right _ (List.mem_append_right _ (List.mem_append_right _ (List.mem_append_right _ (List.mem_of_getElem? h.1)))))), h.2⟩
theorem gd_p {w : Cond} (i : Nat) (h : (k2_sels lw_privs)[i]? = some w ∧ goodWord w = true) : w ∈ gd := List.mem_filter.mpr ⟨List.mem_append_left _ (List.mem_of_getElem? h.1), h.2⟩
def tbA (j : Nat) : Int32 := [-1, 0, 1, 0].getD j 0
def tbG (j : Nat) : Int32 := [100, 52, 100, 100, 100].getD j 0
def tbW (j : Nat) : Int32 := [115, 104, 97, 114, 101, 107, 101, 101, 112, 0, 119, 97, 105, 116, 0, 102, 114, 101, 101, 0, 115, 117, 114, 101, 0].getD j 0
def sLen : List Nat := [5, 4, 4, 4, 4]
def sByt : List (List Int32) := [[115, 104, 97, 114, 101], [107, 101, 101, 112], [119, 97, 105, 116], [102, 114, 101, 101], [115, 117, 114, 101]]
def nestW : List Cond := [.methodLinkNest RX1 22 yX10_isWithin "BenchTimes", .methodLinkNest RX2 29 yX10_isWithin "BenchTimes", .methodLinkNest RX5 80 yX10_isWithin "BenchTimes", .methodLinkNest RX9 84 yX10_isWithin "BenchTimes", .methodLinkNest RX3 52 yX10_isIn "BenchTimes"]
/-- statics, texts and links of nest mates: what no method writes -/
def ST (g : Cx) (A : Nat → Prop) (U : State) (H : Heap) : Prop :=
  (va_Z "BenchTimes$Elements" "ABOVE" "[I" (.ref (g.2.2.2.1 0)) A U H ∧ va_T .int (g.2.2.2.1 0) 4 (fun j => .int (tbA j)) A U H) ∧
  (va_Z "BenchTimes$Rules" "GREATEST" "[I" (.ref (g.2.2.2.1 1)) A U H ∧ va_T .int (g.2.2.2.1 1) 5 (fun j => .int (tbG j)) A U H) ∧
  (va_Z "BenchTimesModel" "WORDS" "[I" (.ref (g.2.2.2.1 2)) A U H ∧ va_T .int (g.2.2.2.1 2) 25 (fun j => .int (tbW j)) A U H) ∧
  va_Z "java/lang/String" "COMPACT_STRINGS" "Z" (.int 1) A U H ∧
  vk_S 5 sLen sByt g.2.2.2.2.1 g.2.2.2.2.2 A U H ∧
  (vk_R "BenchTimes$Rules" 84 "share" (g.2.2.2.2.1 0) U ∧ vk_R "BenchTimes$Rules" 86 "keep" (g.2.2.2.2.1 1) U ∧ vk_R "BenchTimes$Rules" 88 "wait" (g.2.2.2.2.1 2) U ∧ vk_R "BenchTimes$Rules" 90 "free" (g.2.2.2.2.1 3) U ∧ vk_R "BenchTimes$Rules" 92 "sure" (g.2.2.2.2.1 4) U) ∧
  (∀ w ∈ nestW, va_Nw w U) ∧ va_Zq "jdk/internal/util/Preconditions" "SIOOBE_FORMATTER" "Ljava/util/function/BiFunction;" A U H
theorem ST.go {g : Cx} {A : Nat → Prop} {s U : State} {H : Heap} (hW : s.WarmedH U.vm) (h : ST g A s s.heap) (hq : ∀ a : Nat, a < s.heap.size → ¬ A a → H[a]? = s.heap[a]?) : ST g A U H := by
  obtain ⟨⟨a1, a2⟩, ⟨b1, b2⟩, ⟨c1, c2⟩, d1, e1, ⟨f1, f2, f3, f4, f5⟩, n1, z1⟩ := h
  have hA := hW.alike
  refine ⟨⟨(a1.kept hq).moved hA, (a2.kept hq).moved hA⟩, ⟨(b1.kept hq).moved hA, (b2.kept hq).moved hA⟩, ⟨(c1.kept hq).moved hA, (c2.kept hq).moved hA⟩, (d1.kept hq).moved hA, (e1.kept hq).moved hA, ⟨f1.warm hW, f2.warm hW, f3.warm hW, f4.warm hW, f5.warm hW⟩, fun w hw => ?_, (z1.kept hq).moved hA⟩
  have hn := n1 w hw
  simp only [nestW, List.mem_cons, List.not_mem_nil, or_false] at hw
  rcases hw with rfl | rfl | rfl | rfl | rfl <;> exact va_Nw.warmM hW hn
theorem ST.same {g : Cx} {A : Nat → Prop} {u U : State} {H : Heap} (hv : U.vm = u.vm) (h : ST g A u H) : ST g A U H := by
  obtain ⟨⟨a1, a2⟩, ⟨b1, b2⟩, ⟨c1, c2⟩, d1, e1, ⟨f1, f2, f3, f4, f5⟩, n1, z1⟩ := h
  have hA : u.vm.Alike U.vm := by rw [hv]; exact Vm.Alike.refl u.vm
  refine ⟨⟨a1.moved hA, a2.moved hA⟩, ⟨b1.moved hA, b2.moved hA⟩, ⟨c1.moved hA, c2.moved hA⟩, d1.moved hA, e1.moved hA, ⟨f1.same hv, f2.same hv, f3.same hv, f4.same hv, f5.same hv⟩, fun w hw => ?_, z1.moved hA⟩
  have hn := n1 w hw
  simp only [nestW, List.mem_cons, List.not_mem_nil, or_false] at hw
  rcases hw with rfl | rfl | rfl | rfl | rfl <;> exact va_Nw.same rfl hv.symm hn
def lvA : Nat → List (Option Value) → List (Nat × Value)
  | _, [] => []
  | i, none :: t => lvA (i + 1) t
  | i, some v :: t => (i, v) :: lvA (i + 1) t
def CF (p : Program) (s : State) (m : MethodId) (args : Array Value) (meth : Method) (c : Code) (g : Cx) (own : String) (cc : ByteArray) (nL : Nat) (ret : Option FieldType) : Prop :=
  p.tables.exec = Jvm.exec ∧ c.code = cc ∧ meth.sig.returnType = ret ∧ c.maxLocals = nL ∧ s.vm.findClass own = some m.cls ∧ meth.locks = false ∧ (∀ w ∈ gd, w.before args s = true) ∧ va_K g.2.1 cls (tysG g) s ∧ DJ g ∧ ST g (inW g) s s.heap
def QC (g : Cx) (P : Option Value → Mem → Prop) : Array Value → State → Outcome → State → Prop := fun _ st o t => (∃ (r : Option Value) (M' : Mem), o = .returned r ∧ P r M' ∧ va_P g.2.1 cls (wl g M') t.heap) ∧ va_F (inW g) st t
def AT (l : Launch) (g : Cx) (own : String) (cc : ByteArray) (nL : Nat) (ret : Option FieldType) (R : Room) (P : Option Value → Mem → Prop) (pc : Nat) (lv : List (Option Value)) (st : List Value) (M : Mem) : Prop :=
  ∀ (p : Program) (e : Env) (s : State) (m : MethodId) (args : Array Value) (below : List Frame) (meth : Method) (c : Code) (H : Heap) (locs : List Loc) (ls : Array Slot),
    CF p s m args meth c g own cc nL ret → va_P g.2.1 cls (wl g M) H → va_S (inW g) s.heap H locs → lv_has ls nL (lvA 0 lv) →
    W p l e R s m args below meth c H locs 0 0 (MQ below (QC g P) args s 0 0 (inW g)) (F0 m pc ls st)
abbrev rmM (fr lo : Nat) : Room := { frames := fr, cells := 0, slots := 0, locals := lo }
def CT (l : Launch) (g : Cx) (y : MethodName) (cc : ByteArray) (nL : Nat) (ret : Option FieldType) (fr lo : Nat) (as : List Value) (M : Mem) (P : Option Value → Mem → Prop) : Prop :=
  Met l y (.code y cc nL ret :: gd) (rmM fr lo) (va_Pc as (fun U => va_P g.2.1 cls (wl g M) U.heap ∧ va_K g.2.1 cls (tysG g) U ∧ DJ g ∧ ST g (inW g) U U.heap)) (QC g P) 0 0 (inW g)
theorem CT_of {l : Launch} {g : Cx} {y : MethodName} {cc : ByteArray} {nL : Nat} {ret : Option FieldType} {fr lo : Nat} {as : List Value} {M : Mem} {P : Option Value → Mem → Prop} {lv : List (Option Value)} (hy : plainName y.cls = true) (hlv : lv_args 0 as = lvA 0 lv) (hn : (lg_sl as).length ≤ nL)
    (h : AT l g y.cls cc nL ret (rmM fr lo) P 0 lv [] M) : CT l g y cc nL ret fr lo as M P := by
  refine Met.ofW (cc := cc) (maxL := nL) (ret := ret) hy rfl ?_
  intro p e s m args below meth c s₁ B hml hv
  obtain ⟨rfl, hP, hK, hJ, hT⟩ := hv
  have hts := atoms_spec (ws := Cond.code y cc nL ret :: gd) B.pre
  have hown : s.vm.findClass y.cls = some m.cls := findClass_of_methodNamed B.named
  have hl := lv_entry as (n := nL) hn
  rw [lg_entry_eq]
  rw [hlv] at hl
  exact h p e s m _ below meth c s.heap [] _ ⟨B.exec, B.bytes, B.returns, hml, hown, B.notSynchronized, fun w hw => hts w (List.mem_cons_of_mem _ hw), hK, hJ, hT⟩ hP va_S.rf hl
theorem CT.mono {l : Launch} {g : Cx} {y : MethodName} {cc : ByteArray} {nL : Nat} {ret : Option FieldType} {fr lo : Nat} {as : List Value} {M : Mem} {P P' : Option Value → Mem → Prop} (h : CT l g y cc nL ret fr lo as M P) (hp : ∀ r M', P r M' → P' r M') : CT l g y cc nL ret fr lo as M P' := by
  intro p e ha hc hk s m args below hf hfit hheap happ
  obtain ⟨k, o, h1, h2, h3, ⟨⟨r, M', q1, q2, q3⟩, q4⟩, h5⟩ := h p e ha hc hk s m args below hf hfit hheap happ
  exact ⟨k, o, h1, h2, h3, ⟨⟨r, M', q1, hp r M' q2, q3⟩, q4⟩, h5⟩
def lvLe : List (Option Value) → List (Option Value) → Prop
  | [], _ => True
  | none :: a, b => lvLe a b.tail
  | some v :: a, b => b.head? = some (some v) ∧ lvLe a b.tail
theorem lvLe_0 {b : List (Option Value)} : lvLe [] b := trivial
theorem lvLe_n {a b : List (Option Value)} {x : Option Value} (h : lvLe a b) : lvLe (none :: a) (x :: b) := h
theorem lvLe_s {a b : List (Option Value)} {v : Value} (h : lvLe a b) : lvLe (some v :: a) (some v :: b) := ⟨rfl, h⟩
theorem lvA_le : ∀ (a b : List (Option Value)) (i : Nat), lvLe a b → ∀ q ∈ lvA i a, q ∈ lvA i b
  | [], _, _, _, q, hq => by cases hq
  | none :: a, b, i, h, q, hq => by
    cases b with
    | nil =>
      have h1 := lvA_le a [] (i + 1) h q hq
      cases h1
    | cons x t =>
      have h1 := lvA_le a t (i + 1) h q hq
      cases x with
      | none => exact h1
      | some w => exact List.mem_cons_of_mem _ h1
  | some v :: a, b, i, h, q, hq => by
    cases b with
    | nil => exact absurd h.1 (by simp)
    | cons x t =>
      obtain ⟨hx, ht⟩ := h
      cases (Option.some.inj hx : x = some v)
      rcases List.mem_cons.mp hq with rfl | h2
      · exact List.mem_cons_self
      · exact List.mem_cons_of_mem _ (lvA_le a t (i + 1) ht q h2)
theorem lvA_at : ∀ (a : List (Option Value)) (i k : Nat) (v : Value), a[k]? = some (some v) → (i + k, v) ∈ lvA i a
  | [], _, k, _, h => by simp at h
  | x :: t, i, 0, v, h => by
    have hx : x = some v := by simpa using h
    subst hx
    exact List.mem_cons_self
  | x :: t, i, k + 1, v, h => by
    have h1 := lvA_at t (i + 1) k v (by simpa using h)
    rw [show i + (k + 1) = i + 1 + k by omega]
    cases x with
    | none => exact h1
    | some w => exact List.mem_cons_of_mem _ h1
/-- what stands in the list behind a store: the new value, and what was there and isn't touched -/
theorem lvA_in : ∀ (a : List (Option Value)) (i : Nat) (q : Nat × Value), q ∈ lvA i a → i ≤ q.1 ∧ a[q.1 - i]? = some (some q.2)
  | [], _, q, h => by cases h
  | x :: t, i, q, h => by
    cases x with
    | none =>
      obtain ⟨h1, h2⟩ := lvA_in t (i + 1) q h
      refine ⟨by omega, ?_⟩
      rw [show q.1 - i = (q.1 - (i + 1)) + 1 by omega]
      simpa using h2
    | some w =>
      rcases List.mem_cons.mp h with rfl | h
      · exact ⟨Nat.le_refl _, by simp⟩
      · obtain ⟨h1, h2⟩ := lvA_in t (i + 1) q h
        refine ⟨by omega, ?_⟩
        rw [show q.1 - i = (q.1 - (i + 1)) + 1 by omega]
        simpa using h2
def okp : Option Value → Bool
  | some v => v.category != 2
  | none => true
theorem lv_keep1 {lv : List (Option Value)} {k : Nat} {v : Value} (hp : ∀ x, k ≠ 0 → lv[k - 1]? = some x → okp x = true) : ∀ q ∈ lvA 0 (lv.set k (some v)), q ∈ (k, v) :: (lvA 0 lv).filter (fun q => !(q.1 == k) && !(q.1 + 1 == k && q.2.category == 2)) := by
  intro q hq
  obtain ⟨-, h⟩ := lvA_in _ 0 q hq
  rw [Nat.sub_zero] at h
  by_cases hk : q.1 = k
  · have hl : k < lv.length := by
      have := (List.getElem?_eq_some_iff.mp h).1
      rw [List.length_set] at this
      omega
    rw [hk, List.getElem?_set_self hl] at h
    have hv : v = q.2 := by simpa using h
    rw [show q = (k, v) from Prod.ext hk hv.symm]
    exact List.mem_cons_self
  · rw [List.getElem?_set_ne (Ne.symm hk)] at h
    refine List.mem_cons_of_mem _ (List.mem_filter.mpr ⟨?_, ?_⟩)
    · have := lvA_at lv 0 q.1 q.2 h
      simpa using this
    · by_cases hk1 : q.1 + 1 = k
      · have h2 := hp (some q.2) (by omega) (by rw [show k - 1 = q.1 by omega]; exact h)
        simp only [okp] at h2
        have h3 : (q.1 == k) = false := by simpa using hk
        have h4 : (q.2.category == 2) = false := by simpa using h2
        simp [h3, h4]
      · have h3 : (q.1 == k) = false := by simpa using hk
        have h4 : (q.1 + 1 == k) = false := by simpa using hk1
        simp [h3, h4]
theorem lv_keep2 {lv : List (Option Value)} {k : Nat} {v : Value} (hp : ∀ x, k ≠ 0 → lv[k - 1]? = some x → okp x = true) : ∀ q ∈ lvA 0 ((lv.set k (some v)).set (k + 1) none), q ∈ (k, v) :: (lvA 0 lv).filter (fun q => !(q.1 == k) && (!(q.1 == k + 1) && !(q.1 + 1 == k && q.2.category == 2))) := by
  intro q hq
  obtain ⟨-, h⟩ := lvA_in _ 0 q hq
  rw [Nat.sub_zero] at h
  by_cases hk2 : q.1 = k + 1
  · exfalso
    have hl := (List.getElem?_eq_some_iff.mp h).1
    rw [List.length_set, hk2] at hl
    rw [hk2, List.getElem?_set_self hl] at h
    cases h
  rw [List.getElem?_set_ne (Ne.symm hk2)] at h
  by_cases hk : q.1 = k
  · have hl : k < lv.length := by
      have := (List.getElem?_eq_some_iff.mp h).1
      rw [List.length_set] at this
      omega
    rw [hk, List.getElem?_set_self hl] at h
    have hv : v = q.2 := by simpa using h
    rw [show q = (k, v) from Prod.ext hk hv.symm]
    exact List.mem_cons_self
  · rw [List.getElem?_set_ne (Ne.symm hk)] at h
    refine List.mem_cons_of_mem _ (List.mem_filter.mpr ⟨?_, ?_⟩)
    · have := lvA_at lv 0 q.1 q.2 h
      simpa using this
    · have h3 : (q.1 == k) = false := by simpa using hk
      have h5 : (q.1 == k + 1) = false := by simpa using hk2
      by_cases hk1 : q.1 + 1 = k
      · have h2 := hp (some q.2) (by omega) (by rw [show k - 1 = q.1 by omega]; exact h)
        simp only [okp] at h2
        have h4 : (q.2.category == 2) = false := by simpa using h2
        simp [h3, h4, h5]
      · have h4 : (q.1 + 1 == k) = false := by simpa using hk1
        simp [h3, h4, h5]
theorem lv_more {ls : Array Slot} {nL : Nat} {a b : List (Nat × Value)} (h : lv_has ls nL b) (hs : ∀ q ∈ a, q ∈ b) : lv_has ls nL a := ⟨h.1, h.2.1, fun q hq => h.2.2 q (hs q hq)⟩
end
section
/-! ROWS of AT: an instruction each -/
def di (cc : ByteArray) (pc : Nat) (i : Instr) (len n : Nat) : Prop := decode cc pc = .ok (i, len) ∧ pc + len = n
def dj (cc : ByteArray) (pc : Nat) (mk : Int → Instr) (n tgt : Nat) : Prop := ∃ off : Int, decode cc pc = .ok (mk off, 3) ∧ pc + 3 = n ∧ (pc : Int) + off = (tgt : Int)
def FW (own : String) (idx ci j : Nat) : Prop := ∃ (C : String) (T : u_T) (N : Nat), cls[ci]? = some (C, T, N) ∧ j < N ∧ Cond.fieldLink own idx (T j).1 (T j).2.1 (T j).2.2.1 ∈ gd ∧ (∀ w ∈ u_ws C T N, w ∈ gd)
def PW (own : String) (idx ci j : Nat) : Prop := ∃ (C : String) (T : u_T) (N : Nat) (ty0 : Nat → FieldType), cls[ci]? = some (C, T, N) ∧ j < N ∧ Cond.fieldLink own idx (T j).1 (T j).2.1 (T j).2.2.1 ∈ gd ∧ (∀ w ∈ u_ws C T N, w ∈ gd) ∧ (∀ k, k < N → parseFieldDescriptor (T k).2.2.1 = some (ty0 k)) ∧ (∀ a, a < N → ∀ b, b < N → a ≠ b → (T a).2.1 ≠ (T b).2.1) ∧ (T j).2.2.2 = false ∧ parseFieldDescriptor (T j).2.2.1 = some .int
section ROWS
variable {l : Launch} {g : Cx} {own : String} {cc : ByteArray} {nL : Nat} {ret : Option FieldType} {R : Room} {P : Option Value → Mem → Prop} {pc n : Nat} {lv : List (Option Value)} {st : List Value} {M : Mem}
theorem A_iconst {z : Int} {v : Int32} (hd : di cc pc (.iconst z) 1 n) (hv : Int32.ofInt z = v) (k : AT l g own cc nL ret R P n lv (.int v :: st) M) : AT l g own cc nL ret R P pc lv (st) M := fun p e s m args below meth c H locs ls C hP hS hl => by
  obtain ⟨hd, rfl⟩ := hd
  exact lv_iconst C.1 C.2.1 hd hv (k p e s m args below meth c H locs ls C hP hS hl)
theorem A_bipush {z : Int} {v : Int32} (hd : di cc pc (.bipush z) 2 n) (hv : (Int8.ofInt z).toInt32 = v) (k : AT l g own cc nL ret R P n lv (.int v :: st) M) : AT l g own cc nL ret R P pc lv (st) M := fun p e s m args below meth c H locs ls C hP hS hl => by
  obtain ⟨hd, rfl⟩ := hd
  exact lv_bipush C.1 C.2.1 hd hv (k p e s m args below meth c H locs ls C hP hS hl)
theorem A_sipush {z : Int} {v : Int32} (hd : di cc pc (.sipush z) 3 n) (hv : (Int16.ofInt z).toInt32 = v) (k : AT l g own cc nL ret R P n lv (.int v :: st) M) : AT l g own cc nL ret R P pc lv (st) M := fun p e s m args below meth c H locs ls C hP hS hl => by
  obtain ⟨hd, rfl⟩ := hd
  exact lv_sipush C.1 C.2.1 hd hv (k p e s m args below meth c H locs ls C hP hS hl)
theorem A_lconst {z : Fin 2} {v : Int64} (hd : di cc pc (.lconst z) 1 n) (hv : Int64.ofNat (z : Nat) = v) (k : AT l g own cc nL ret R P n lv (.long v :: st) M) : AT l g own cc nL ret R P pc lv (st) M := fun p e s m args below meth c H locs ls C hP hS hl => by
  obtain ⟨hd, rfl⟩ := hd
  exact lv_lconst C.1 C.2.1 hd hv (k p e s m args below meth c H locs ls C hP hS hl)
theorem A_iload_n {i : Fin 4} {x : Int32} (hd : di cc pc (.iload_n i) 1 n) (hi : lv[(i : Nat)]? = some (some (.int x))) (k : AT l g own cc nL ret R P n lv (.int x :: st) M) : AT l g own cc nL ret R P pc lv st M := fun p e s m args below meth c H locs ls C hP hS hl => by
  obtain ⟨hd, rfl⟩ := hd
  have hq := hl.2.2 _ (lvA_at lv 0 _ _ hi)
  rw [Nat.zero_add] at hq
  exact lv_iload_n C.1 C.2.1 hd rfl hq (k p e s m args below meth c H locs ls C hP hS hl)
theorem A_iload {i : Nat} {x : Int32} (hd : di cc pc (.iload i) 2 n) (hi : lv[i]? = some (some (.int x))) (k : AT l g own cc nL ret R P n lv (.int x :: st) M) : AT l g own cc nL ret R P pc lv st M := fun p e s m args below meth c H locs ls C hP hS hl => by
  obtain ⟨hd, rfl⟩ := hd
  have hq := hl.2.2 _ (lvA_at lv 0 _ _ hi)
  rw [Nat.zero_add] at hq
  exact lv_iload C.1 C.2.1 hd hq (k p e s m args below meth c H locs ls C hP hS hl)
theorem A_lload_n {i : Fin 4} {x : Int64} (hd : di cc pc (.lload_n i) 1 n) (hi : lv[(i : Nat)]? = some (some (.long x))) (k : AT l g own cc nL ret R P n lv (.long x :: st) M) : AT l g own cc nL ret R P pc lv st M := fun p e s m args below meth c H locs ls C hP hS hl => by
  obtain ⟨hd, rfl⟩ := hd
  have hq := hl.2.2 _ (lvA_at lv 0 _ _ hi)
  rw [Nat.zero_add] at hq
  exact lv_lload_n C.1 C.2.1 hd rfl hq (k p e s m args below meth c H locs ls C hP hS hl)
theorem A_lload {i : Nat} {x : Int64} (hd : di cc pc (.lload i) 2 n) (hi : lv[i]? = some (some (.long x))) (k : AT l g own cc nL ret R P n lv (.long x :: st) M) : AT l g own cc nL ret R P pc lv st M := fun p e s m args below meth c H locs ls C hP hS hl => by
  obtain ⟨hd, rfl⟩ := hd
  have hq := hl.2.2 _ (lvA_at lv 0 _ _ hi)
  rw [Nat.zero_add] at hq
  exact lv_lload C.1 C.2.1 hd hq (k p e s m args below meth c H locs ls C hP hS hl)
theorem A_aload_n {i : Fin 4} {x : Nat} (hd : di cc pc (.aload_n i) 1 n) (hi : lv[(i : Nat)]? = some (some (.ref x))) (k : AT l g own cc nL ret R P n lv (.ref x :: st) M) : AT l g own cc nL ret R P pc lv st M := fun p e s m args below meth c H locs ls C hP hS hl => by
  obtain ⟨hd, rfl⟩ := hd
  have hq := hl.2.2 _ (lvA_at lv 0 _ _ hi)
  rw [Nat.zero_add] at hq
  exact lv_aload_n C.1 C.2.1 hd rfl hq (k p e s m args below meth c H locs ls C hP hS hl)
theorem A_aload {i : Nat} {x : Nat} (hd : di cc pc (.aload i) 2 n) (hi : lv[i]? = some (some (.ref x))) (k : AT l g own cc nL ret R P n lv (.ref x :: st) M) : AT l g own cc nL ret R P pc lv st M := fun p e s m args below meth c H locs ls C hP hS hl => by
  obtain ⟨hd, rfl⟩ := hd
  have hq := hl.2.2 _ (lvA_at lv 0 _ _ hi)
  rw [Nat.zero_add] at hq
  exact lv_aload C.1 C.2.1 hd hq (k p e s m args below meth c H locs ls C hP hS hl)
theorem A_istore_n {i : Fin 4} {x : Int32} (hd : di cc pc (.istore_n i) 1 n) (hn : (i : Nat) < nL) (hp : ∀ x, (i : Nat) ≠ 0 → lv[(i : Nat) - 1]? = some x → okp x = true) (k : AT l g own cc nL ret R P n (lv.set (i : Nat) (some (.int x))) st M) : AT l g own cc nL ret R P pc lv (.int x :: st) M := fun p e s m args below meth c H locs ls C hP hS hl => by
  obtain ⟨hd, rfl⟩ := hd
  exact lv_istore_n C.1 C.2.1 hd rfl hl hn rfl (fun ls2 hl2 => k p e s m args below meth c H locs ls2 C hP hS (lv_more hl2 (lv_keep1 hp)))
theorem A_istore {i : Nat} {x : Int32} (hd : di cc pc (.istore i) 2 n) (hn : i < nL) (hp : ∀ x, i ≠ 0 → lv[i - 1]? = some x → okp x = true) (k : AT l g own cc nL ret R P n (lv.set i (some (.int x))) st M) : AT l g own cc nL ret R P pc lv (.int x :: st) M := fun p e s m args below meth c H locs ls C hP hS hl => by
  obtain ⟨hd, rfl⟩ := hd
  exact lv_istore C.1 C.2.1 hd hl hn rfl (fun ls2 hl2 => k p e s m args below meth c H locs ls2 C hP hS (lv_more hl2 (lv_keep1 hp)))
theorem A_lstore_n {i : Fin 4} {x : Int64} (hd : di cc pc (.lstore_n i) 1 n) (hn : (i : Nat) + 1 < nL) (hp : ∀ x, (i : Nat) ≠ 0 → lv[(i : Nat) - 1]? = some x → okp x = true) (k : AT l g own cc nL ret R P n ((lv.set (i : Nat) (some (.long x))).set ((i : Nat) + 1) none) st M) : AT l g own cc nL ret R P pc lv (.long x :: st) M := fun p e s m args below meth c H locs ls C hP hS hl => by
  obtain ⟨hd, rfl⟩ := hd
  exact lv_lstore_n C.1 C.2.1 hd rfl hl hn rfl (fun ls2 hl2 => k p e s m args below meth c H locs ls2 C hP hS (lv_more hl2 (lv_keep2 hp)))
theorem A_lstore {i : Nat} {x : Int64} (hd : di cc pc (.lstore i) 2 n) (hn : i + 1 < nL) (hp : ∀ x, i ≠ 0 → lv[i - 1]? = some x → okp x = true) (k : AT l g own cc nL ret R P n ((lv.set i (some (.long x))).set (i + 1) none) st M) : AT l g own cc nL ret R P pc lv (.long x :: st) M := fun p e s m args below meth c H locs ls C hP hS hl => by
  obtain ⟨hd, rfl⟩ := hd
  exact lv_lstore C.1 C.2.1 hd hl hn rfl (fun ls2 hl2 => k p e s m args below meth c H locs ls2 C hP hS (lv_more hl2 (lv_keep2 hp)))
theorem A_astore_n {i : Fin 4} {x : Nat} (hd : di cc pc (.astore_n i) 1 n) (hn : (i : Nat) < nL) (hp : ∀ x, (i : Nat) ≠ 0 → lv[(i : Nat) - 1]? = some x → okp x = true) (k : AT l g own cc nL ret R P n (lv.set (i : Nat) (some (.ref x))) st M) : AT l g own cc nL ret R P pc lv (.ref x :: st) M := fun p e s m args below meth c H locs ls C hP hS hl => by
  obtain ⟨hd, rfl⟩ := hd
  exact lv_astore_n C.1 C.2.1 hd rfl hl hn rfl (fun ls2 hl2 => k p e s m args below meth c H locs ls2 C hP hS (lv_more hl2 (lv_keep1 hp)))
theorem A_iinc {i : Nat} {z : Int} {x d : Int32} (hd : di cc pc (.iinc i z) 3 n) (hi : lv[i]? = some (some (.int x))) (hv : Int32.ofInt z = d) (hn : i < nL) (hp : ∀ x, i ≠ 0 → lv[i - 1]? = some x → okp x = true) (k : AT l g own cc nL ret R P n (lv.set i (some (.int (x + d)))) st M) : AT l g own cc nL ret R P pc lv st M := fun p e s m args below meth c H locs ls C hP hS hl => by
  obtain ⟨hd, rfl⟩ := hd
  have hq := lvA_at lv 0 _ _ hi
  rw [Nat.zero_add] at hq
  obtain ⟨k0, hk0⟩ := List.getElem?_of_mem hq
  exact lv_iinc C.1 C.2.1 hd hl hk0 (by rw [hv]) hn rfl (fun ls2 hl2 => k p e s m args below meth c H locs ls2 C hP hS (lv_more hl2 (lv_keep1 hp)))
theorem A_iadd {x y : Int32} (hd : di cc pc (.iadd) 1 n) (k : AT l g own cc nL ret R P n lv (.int (x + y) :: st) M) : AT l g own cc nL ret R P pc lv (.int y :: .int x :: st) M := fun p e s m args below meth c H locs ls C hP hS hl => by
  obtain ⟨hd, rfl⟩ := hd
  exact lv_iadd C.1 C.2.1 hd (k p e s m args below meth c H locs ls C hP hS hl)
theorem A_isub {x y : Int32} (hd : di cc pc (.isub) 1 n) (k : AT l g own cc nL ret R P n lv (.int (x - y) :: st) M) : AT l g own cc nL ret R P pc lv (.int y :: .int x :: st) M := fun p e s m args below meth c H locs ls C hP hS hl => by
  obtain ⟨hd, rfl⟩ := hd
  exact lv_isub C.1 C.2.1 hd (k p e s m args below meth c H locs ls C hP hS hl)
theorem A_imul {x y : Int32} (hd : di cc pc (.imul) 1 n) (k : AT l g own cc nL ret R P n lv (.int (x * y) :: st) M) : AT l g own cc nL ret R P pc lv (.int y :: .int x :: st) M := fun p e s m args below meth c H locs ls C hP hS hl => by
  obtain ⟨hd, rfl⟩ := hd
  exact lv_imul C.1 C.2.1 hd (k p e s m args below meth c H locs ls C hP hS hl)
theorem A_iand {x y : Int32} (hd : di cc pc (.iand) 1 n) (k : AT l g own cc nL ret R P n lv (.int (x &&& y) :: st) M) : AT l g own cc nL ret R P pc lv (.int y :: .int x :: st) M := fun p e s m args below meth c H locs ls C hP hS hl => by
  obtain ⟨hd, rfl⟩ := hd
  exact lv_iand C.1 C.2.1 hd (k p e s m args below meth c H locs ls C hP hS hl)
theorem A_ior {x y : Int32} (hd : di cc pc (.ior) 1 n) (k : AT l g own cc nL ret R P n lv (.int (x ||| y) :: st) M) : AT l g own cc nL ret R P pc lv (.int y :: .int x :: st) M := fun p e s m args below meth c H locs ls C hP hS hl => by
  obtain ⟨hd, rfl⟩ := hd
  exact lv_ior C.1 C.2.1 hd (k p e s m args below meth c H locs ls C hP hS hl)
theorem A_ishl {x y : Int32} (hd : di cc pc (.ishl) 1 n) (k : AT l g own cc nL ret R P n lv (.int (x <<< (y &&& 31)) :: st) M) : AT l g own cc nL ret R P pc lv (.int y :: .int x :: st) M := fun p e s m args below meth c H locs ls C hP hS hl => by
  obtain ⟨hd, rfl⟩ := hd
  exact lv_ishl C.1 C.2.1 hd (k p e s m args below meth c H locs ls C hP hS hl)
theorem A_ishr {x y : Int32} (hd : di cc pc (.ishr) 1 n) (k : AT l g own cc nL ret R P n lv (.int (x >>> (y &&& 31)) :: st) M) : AT l g own cc nL ret R P pc lv (.int y :: .int x :: st) M := fun p e s m args below meth c H locs ls C hP hS hl => by
  obtain ⟨hd, rfl⟩ := hd
  exact lv_ishr C.1 C.2.1 hd (k p e s m args below meth c H locs ls C hP hS hl)
theorem A_idiv {x y : Int32} (hd : di cc pc (.idiv) 1 n) (hne : ¬ y = 0) (k : AT l g own cc nL ret R P n lv (.int (x / y) :: st) M) : AT l g own cc nL ret R P pc lv (.int y :: .int x :: st) M := fun p e s m args below meth c H locs ls C hP hS hl => by
  obtain ⟨hd, rfl⟩ := hd
  exact lv_idiv C.1 C.2.1 hd hne (k p e s m args below meth c H locs ls C hP hS hl)
theorem A_irem {x y : Int32} (hd : di cc pc (.irem) 1 n) (hne : ¬ y = 0) (k : AT l g own cc nL ret R P n lv (.int (x - x / y * y) :: st) M) : AT l g own cc nL ret R P pc lv (.int y :: .int x :: st) M := fun p e s m args below meth c H locs ls C hP hS hl => by
  obtain ⟨hd, rfl⟩ := hd
  exact lv_irem C.1 C.2.1 hd hne (k p e s m args below meth c H locs ls C hP hS hl)
theorem A_ineg {x : Int32} (hd : di cc pc (.ineg) 1 n) (k : AT l g own cc nL ret R P n lv (.int (-x) :: st) M) : AT l g own cc nL ret R P pc lv (.int x :: st) M := fun p e s m args below meth c H locs ls C hP hS hl => by
  obtain ⟨hd, rfl⟩ := hd
  exact lv_ineg C.1 C.2.1 hd (k p e s m args below meth c H locs ls C hP hS hl)
theorem A_ladd {x y : Int64} (hd : di cc pc (.ladd) 1 n) (k : AT l g own cc nL ret R P n lv (.long (x + y) :: st) M) : AT l g own cc nL ret R P pc lv (.long y :: .long x :: st) M := fun p e s m args below meth c H locs ls C hP hS hl => by
  obtain ⟨hd, rfl⟩ := hd
  exact lv_ladd C.1 C.2.1 hd (k p e s m args below meth c H locs ls C hP hS hl)
theorem A_lsub {x y : Int64} (hd : di cc pc (.lsub) 1 n) (k : AT l g own cc nL ret R P n lv (.long (x - y) :: st) M) : AT l g own cc nL ret R P pc lv (.long y :: .long x :: st) M := fun p e s m args below meth c H locs ls C hP hS hl => by
  obtain ⟨hd, rfl⟩ := hd
  exact lv_lsub C.1 C.2.1 hd (k p e s m args below meth c H locs ls C hP hS hl)
theorem A_lmul {x y : Int64} (hd : di cc pc (.lmul) 1 n) (k : AT l g own cc nL ret R P n lv (.long (x * y) :: st) M) : AT l g own cc nL ret R P pc lv (.long y :: .long x :: st) M := fun p e s m args below meth c H locs ls C hP hS hl => by
  obtain ⟨hd, rfl⟩ := hd
  exact lv_lmul C.1 C.2.1 hd (k p e s m args below meth c H locs ls C hP hS hl)
theorem A_ldiv {x y : Int64} (hd : di cc pc (.ldiv) 1 n) (hne : ¬ y = 0) (k : AT l g own cc nL ret R P n lv (.long (x / y) :: st) M) : AT l g own cc nL ret R P pc lv (.long y :: .long x :: st) M := fun p e s m args below meth c H locs ls C hP hS hl => by
  obtain ⟨hd, rfl⟩ := hd
  exact lv_ldiv C.1 C.2.1 hd hne (k p e s m args below meth c H locs ls C hP hS hl)
theorem A_i2l {x : Int32} (hd : di cc pc (.i2l) 1 n) (k : AT l g own cc nL ret R P n lv (.long x.toInt64 :: st) M) : AT l g own cc nL ret R P pc lv (.int x :: st) M := fun p e s m args below meth c H locs ls C hP hS hl => by
  obtain ⟨hd, rfl⟩ := hd
  exact lv_i2l C.1 C.2.1 hd rfl (k p e s m args below meth c H locs ls C hP hS hl)
theorem A_l2i {x : Int64} (hd : di cc pc (.l2i) 1 n) (k : AT l g own cc nL ret R P n lv (.int x.toInt32 :: st) M) : AT l g own cc nL ret R P pc lv (.long x :: st) M := fun p e s m args below meth c H locs ls C hP hS hl => by
  obtain ⟨hd, rfl⟩ := hd
  exact lv_l2i C.1 C.2.1 hd rfl (k p e s m args below meth c H locs ls C hP hS hl)
theorem A_i2c {x : Int32} (hd : di cc pc (.i2c) 1 n) (k : AT l g own cc nL ret R P n lv (.int (x.toUInt32 % 65536).toInt32 :: st) M) : AT l g own cc nL ret R P pc lv (.int x :: st) M := fun p e s m args below meth c H locs ls C hP hS hl => by
  obtain ⟨hd, rfl⟩ := hd
  exact lv_i2c C.1 C.2.1 hd rfl (k p e s m args below meth c H locs ls C hP hS hl)
theorem A_lcmp {x y : Int64} (hd : di cc pc (.lcmp) 1 n) (k : AT l g own cc nL ret R P n lv (.int (lg_cmp x y) :: st) M) : AT l g own cc nL ret R P pc lv (.long y :: .long x :: st) M := fun p e s m args below meth c H locs ls C hP hS hl => by
  obtain ⟨hd, rfl⟩ := hd
  exact W.lcmp C.1 C.2.1 hd (k p e s m args below meth c H locs ls C hP hS hl)
theorem A_dup {v : Value} (hd : di cc pc (.dup) 1 n) (hv : v.category = 1) (k : AT l g own cc nL ret R P n lv (v :: v :: st) M) : AT l g own cc nL ret R P pc lv (v :: st) M := fun p e s m args below meth c H locs ls C hP hS hl => by
  obtain ⟨hd, rfl⟩ := hd
  exact lv_dup C.1 C.2.1 hd hv (k p e s m args below meth c H locs ls C hP hS hl)
theorem A_pop {v : Value} (hd : di cc pc (.pop) 1 n) (hv : v.category = 1) (k : AT l g own cc nL ret R P n lv (st) M) : AT l g own cc nL ret R P pc lv (v :: st) M := fun p e s m args below meth c H locs ls C hP hS hl => by
  obtain ⟨hd, rfl⟩ := hd
  exact lv_pop C.1 C.2.1 hd hv (k p e s m args below meth c H locs ls C hP hS hl)
theorem A_dup2 {v w : Value} (hd : di cc pc (.dup2) 1 n) (hv : v.category = 1) (hw : w.category = 1) (k : AT l g own cc nL ret R P n lv (v :: w :: v :: w :: st) M) : AT l g own cc nL ret R P pc lv (v :: w :: st) M := fun p e s m args below meth c H locs ls C hP hS hl => by
  obtain ⟨hd, rfl⟩ := hd
  exact lv_dup2_11 C.1 C.2.1 hd hv hw (k p e s m args below meth c H locs ls C hP hS hl)
theorem A_ldc {idx : Nat} {v : Int32} (hd : di cc pc (.ldc idx) 2 n) (hw : Cond.constant own idx v ∈ gd) (k : AT l g own cc nL ret R P n lv (.int v :: st) M) : AT l g own cc nL ret R P pc lv (st) M := fun p e s m args below meth c H locs ls C hP hS hl => by
  obtain ⟨hd, rfl⟩ := hd
  exact lv_ldc C.1 C.2.1 C.2.2.2.2.1 (C.2.2.2.2.2.2.1 _ hw) hd (k p e s m args below meth c H locs ls C hP hS hl)
theorem A_ldcw {idx : Nat} {v : Int32} (hd : di cc pc (.ldc_w idx) 3 n) (hw : Cond.constant own idx v ∈ gd) (k : AT l g own cc nL ret R P n lv (.int v :: st) M) : AT l g own cc nL ret R P pc lv (st) M := fun p e s m args below meth c H locs ls C hP hS hl => by
  obtain ⟨hd, rfl⟩ := hd
  exact lv_ldcw C.1 C.2.1 C.2.2.2.2.1 (C.2.2.2.2.2.2.1 _ hw) hd (k p e s m args below meth c H locs ls C hP hS hl)
theorem A_ldc2 {idx : Nat} {v : Int64} (hd : di cc pc (.ldc2_w idx) 3 n) (hw : Cond.constantLong own idx v ∈ gd) (k : AT l g own cc nL ret R P n lv (.long v :: st) M) : AT l g own cc nL ret R P pc lv (st) M := fun p e s m args below meth c H locs ls C hP hS hl => by
  obtain ⟨hd, rfl⟩ := hd
  exact lv_ldc2 C.1 C.2.1 C.2.2.2.2.1 (C.2.2.2.2.2.2.1 _ hw) hd (k p e s m args below meth c H locs ls C hP hS hl)
theorem A_icmp_eq {x y : Int32} {tgt : Nat} (hd : dj cc pc (.if_icmp .eq) n tgt) (kt : x = y → AT l g own cc nL ret R P tgt lv st M) (kf : ¬ x = y → AT l g own cc nL ret R P n lv st M) : AT l g own cc nL ret R P pc lv (.int y :: .int x :: st) M := fun p e s m args below meth c H locs ls C hP hS hl => by
  obtain ⟨off, hd, rfl, ht⟩ := hd
  exact lv_icmp_eq C.1 C.2.1 hd ht (fun h => kt h p e s m args below meth c H locs ls C hP hS hl) (fun h => kf h p e s m args below meth c H locs ls C hP hS hl)
theorem A_icmp_ne {x y : Int32} {tgt : Nat} (hd : dj cc pc (.if_icmp .ne) n tgt) (kt : ¬ x = y → AT l g own cc nL ret R P tgt lv st M) (kf : x = y → AT l g own cc nL ret R P n lv st M) : AT l g own cc nL ret R P pc lv (.int y :: .int x :: st) M := fun p e s m args below meth c H locs ls C hP hS hl => by
  obtain ⟨off, hd, rfl, ht⟩ := hd
  exact lv_icmp_ne C.1 C.2.1 hd ht (fun h => kt h p e s m args below meth c H locs ls C hP hS hl) (fun h => kf h p e s m args below meth c H locs ls C hP hS hl)
theorem A_icmp_lt {x y : Int32} {tgt : Nat} (hd : dj cc pc (.if_icmp .lt) n tgt) (kt : x < y → AT l g own cc nL ret R P tgt lv st M) (kf : ¬ x < y → AT l g own cc nL ret R P n lv st M) : AT l g own cc nL ret R P pc lv (.int y :: .int x :: st) M := fun p e s m args below meth c H locs ls C hP hS hl => by
  obtain ⟨off, hd, rfl, ht⟩ := hd
  exact lv_icmp_lt C.1 C.2.1 hd ht (fun h => kt h p e s m args below meth c H locs ls C hP hS hl) (fun h => kf h p e s m args below meth c H locs ls C hP hS hl)
theorem A_icmp_ge {x y : Int32} {tgt : Nat} (hd : dj cc pc (.if_icmp .ge) n tgt) (kt : y ≤ x → AT l g own cc nL ret R P tgt lv st M) (kf : ¬ y ≤ x → AT l g own cc nL ret R P n lv st M) : AT l g own cc nL ret R P pc lv (.int y :: .int x :: st) M := fun p e s m args below meth c H locs ls C hP hS hl => by
  obtain ⟨off, hd, rfl, ht⟩ := hd
  exact lv_icmp_ge C.1 C.2.1 hd ht (fun h => kt h p e s m args below meth c H locs ls C hP hS hl) (fun h => kf h p e s m args below meth c H locs ls C hP hS hl)
theorem A_icmp_gt {x y : Int32} {tgt : Nat} (hd : dj cc pc (.if_icmp .gt) n tgt) (kt : y < x → AT l g own cc nL ret R P tgt lv st M) (kf : ¬ y < x → AT l g own cc nL ret R P n lv st M) : AT l g own cc nL ret R P pc lv (.int y :: .int x :: st) M := fun p e s m args below meth c H locs ls C hP hS hl => by
  obtain ⟨off, hd, rfl, ht⟩ := hd
  exact lv_icmp_gt C.1 C.2.1 hd ht (fun h => kt h p e s m args below meth c H locs ls C hP hS hl) (fun h => kf h p e s m args below meth c H locs ls C hP hS hl)
theorem A_icmp_le {x y : Int32} {tgt : Nat} (hd : dj cc pc (.if_icmp .le) n tgt) (kt : x ≤ y → AT l g own cc nL ret R P tgt lv st M) (kf : ¬ x ≤ y → AT l g own cc nL ret R P n lv st M) : AT l g own cc nL ret R P pc lv (.int y :: .int x :: st) M := fun p e s m args below meth c H locs ls C hP hS hl => by
  obtain ⟨off, hd, rfl, ht⟩ := hd
  exact lv_icmp_le C.1 C.2.1 hd ht (fun h => kt h p e s m args below meth c H locs ls C hP hS hl) (fun h => kf h p e s m args below meth c H locs ls C hP hS hl)
theorem A_if_eq {x : Int32} {tgt : Nat} (hd : dj cc pc (.ifCond .eq) n tgt) (kt : x = 0 → AT l g own cc nL ret R P tgt lv st M) (kf : ¬ x = 0 → AT l g own cc nL ret R P n lv st M) : AT l g own cc nL ret R P pc lv (.int x :: st) M := fun p e s m args below meth c H locs ls C hP hS hl => by
  obtain ⟨off, hd, rfl, ht⟩ := hd
  exact lv_if_eq C.1 C.2.1 hd ht (fun h => kt h p e s m args below meth c H locs ls C hP hS hl) (fun h => kf h p e s m args below meth c H locs ls C hP hS hl)
theorem A_if_ne {x : Int32} {tgt : Nat} (hd : dj cc pc (.ifCond .ne) n tgt) (kt : ¬ x = 0 → AT l g own cc nL ret R P tgt lv st M) (kf : x = 0 → AT l g own cc nL ret R P n lv st M) : AT l g own cc nL ret R P pc lv (.int x :: st) M := fun p e s m args below meth c H locs ls C hP hS hl => by
  obtain ⟨off, hd, rfl, ht⟩ := hd
  exact lv_if_ne C.1 C.2.1 hd ht (fun h => kt h p e s m args below meth c H locs ls C hP hS hl) (fun h => kf h p e s m args below meth c H locs ls C hP hS hl)
theorem A_if_lt {x : Int32} {tgt : Nat} (hd : dj cc pc (.ifCond .lt) n tgt) (kt : x < 0 → AT l g own cc nL ret R P tgt lv st M) (kf : ¬ x < 0 → AT l g own cc nL ret R P n lv st M) : AT l g own cc nL ret R P pc lv (.int x :: st) M := fun p e s m args below meth c H locs ls C hP hS hl => by
  obtain ⟨off, hd, rfl, ht⟩ := hd
  exact lv_if_lt C.1 C.2.1 hd ht (fun h => kt h p e s m args below meth c H locs ls C hP hS hl) (fun h => kf h p e s m args below meth c H locs ls C hP hS hl)
theorem A_if_ge {x : Int32} {tgt : Nat} (hd : dj cc pc (.ifCond .ge) n tgt) (kt : 0 ≤ x → AT l g own cc nL ret R P tgt lv st M) (kf : ¬ 0 ≤ x → AT l g own cc nL ret R P n lv st M) : AT l g own cc nL ret R P pc lv (.int x :: st) M := fun p e s m args below meth c H locs ls C hP hS hl => by
  obtain ⟨off, hd, rfl, ht⟩ := hd
  exact lv_if_ge C.1 C.2.1 hd ht (fun h => kt h p e s m args below meth c H locs ls C hP hS hl) (fun h => kf h p e s m args below meth c H locs ls C hP hS hl)
theorem A_if_gt {x : Int32} {tgt : Nat} (hd : dj cc pc (.ifCond .gt) n tgt) (kt : 0 < x → AT l g own cc nL ret R P tgt lv st M) (kf : ¬ 0 < x → AT l g own cc nL ret R P n lv st M) : AT l g own cc nL ret R P pc lv (.int x :: st) M := fun p e s m args below meth c H locs ls C hP hS hl => by
  obtain ⟨off, hd, rfl, ht⟩ := hd
  exact lv_if_gt C.1 C.2.1 hd ht (fun h => kt h p e s m args below meth c H locs ls C hP hS hl) (fun h => kf h p e s m args below meth c H locs ls C hP hS hl)
theorem A_if_le {x : Int32} {tgt : Nat} (hd : dj cc pc (.ifCond .le) n tgt) (kt : x ≤ 0 → AT l g own cc nL ret R P tgt lv st M) (kf : ¬ x ≤ 0 → AT l g own cc nL ret R P n lv st M) : AT l g own cc nL ret R P pc lv (.int x :: st) M := fun p e s m args below meth c H locs ls C hP hS hl => by
  obtain ⟨off, hd, rfl, ht⟩ := hd
  exact lv_if_le C.1 C.2.1 hd ht (fun h => kt h p e s m args below meth c H locs ls C hP hS hl) (fun h => kf h p e s m args below meth c H locs ls C hP hS hl)
theorem A_goto {tgt : Nat} (hd : dj cc pc .goto n tgt) (k : AT l g own cc nL ret R P tgt lv st M) : AT l g own cc nL ret R P pc lv st M := fun p e s m args below meth c H locs ls C hP hS hl => by
  obtain ⟨off, hd, rfl, ht⟩ := hd
  exact lv_goto C.1 C.2.1 hd ht (k p e s m args below meth c H locs ls C hP hS hl)
theorem A_le {lv' : List (Option Value)} (h : lvLe lv' lv) (k : AT l g own cc nL ret R P pc lv' st M) : AT l g own cc nL ret R P pc lv st M := fun p e s m args below meth c H locs ls C hP hS hl => k p e s m args below meth c H locs ls C hP hS (lv_more hl (lvA_le _ _ 0 h))
def dts (cc : ByteArray) (pc : Nat) (lo hi : Int) (dfl : Nat) (tg : List Nat) : Prop := ∃ (d : Int) (offs : Array Int) (len : Nat), decode cc pc = .ok (.tableswitch d lo hi offs, len) ∧ (pc : Int) + d = (dfl : Int) ∧ offs.toList.map (fun z => (pc : Int) + z) = tg.map (fun t : Nat => (t : Int))
theorem A_tsIn {x : Int32} {lo hi : Int} {dfl tgt k0 : Nat} {tg : List Nat} (hd : dts cc pc lo hi dfl tg) (hx : ¬ x.toInt < lo ∧ ¬ hi < x.toInt ∧ (x.toInt - lo).toNat = k0) (ht : tg[k0]? = some tgt) (k : AT l g own cc nL ret R P tgt lv st M) : AT l g own cc nL ret R P pc lv (.int x :: st) M := fun p e s m args below meth c H locs ls C hP hS hl => by
  obtain ⟨d, offs, len, hd, h0, h1⟩ := hd
  have h2 : (offs.toList.map (fun z => (pc : Int) + z))[k0]? = some (tgt : Int) := by rw [h1, List.getElem?_map, ht]; rfl
  rw [List.getElem?_map] at h2
  cases ho : offs.toList[k0]? with
  | none => rw [ho] at h2; cases h2
  | some off =>
    rw [ho] at h2
    exact lv_tableIn C.1 C.2.1 hd hx.1 hx.2.1 (by rw [hx.2.2, ← Array.getElem?_toList]; exact ho) (Option.some.inj h2) (k p e s m args below meth c H locs ls C hP hS hl)
theorem A_tsOut {x : Int32} {lo hi : Int} {dfl : Nat} {tg : List Nat} (hd : dts cc pc lo hi dfl tg) (hx : x.toInt < lo ∨ hi < x.toInt) (k : AT l g own cc nL ret R P dfl lv st M) : AT l g own cc nL ret R P pc lv (.int x :: st) M := fun p e s m args below meth c H locs ls C hP hS hl => by
  obtain ⟨d, offs, len, hd, h0, h1⟩ := hd
  exact lv_tableOut C.1 C.2.1 hd hx h0 (k p e s m args below meth c H locs ls C hP hS hl)
theorem tsw_out {x : Int32} {lo hi : Int} (h : ∀ k : Int, lo ≤ k → k ≤ hi → ¬ x = Int32.ofInt k) : x.toInt < lo ∨ hi < x.toInt := by
  rcases Int.lt_or_le x.toInt lo with h1 | h1
  · exact Or.inl h1
  · rcases Int.lt_or_le hi x.toInt with h2 | h2
    · exact Or.inr h2
    · exact absurd (Int32.ofInt_toInt x).symm (h x.toInt h1 h2)
theorem A_getf {idx ci j q : Nat} {fs : Cx → Mem → List Value} {v : Value} (hd : di cc pc (.getfield idx) 3 n) (hf : FW own idx ci j) (hq : OB q ci fs) (hv : (fs g M)[j]? = some v) (k : AT l g own cc nL ret R P n lv (v :: st) M) : AT l g own cc nL ret R P pc lv (.ref (g.1 q) :: st) M := fun p e s m args below meth c H locs ls C hP hS hl => by
  obtain ⟨hd, rfl⟩ := hd
  obtain ⟨CC, T, N, h1, h2, h3, h4⟩ := hf
  exact va_get (D := g.2.1) (cl := cls) C.1 C.2.1 C.2.2.2.2.2.2.1 h4 C.2.2.2.2.1 C.2.2.2.2.2.2.2.1 hP q (hq g M) h1 j h2 (C.2.2.2.2.2.2.1 _ h3) (fun _ h => h) hv hd (k p e s m args below meth c H locs ls C hP hS hl)
theorem A_putf {idx ci j q : Nat} {fs : Cx → Mem → List Value} {x : Int32} (hd : di cc pc (.putfield idx) 3 n) (hf : PW own idx ci j) (hq : OB q ci fs) (hs : PF q ci j fs) (hj : j < (fs g M).length) (k : AT l g own cc nL ret R P n lv st (up2 M q j x)) : AT l g own cc nL ret R P pc lv (.int x :: .ref (g.1 q) :: st) M := fun p e s m args below meth c H locs ls C hP hS hl => by
  obtain ⟨hd, rfl⟩ := hd
  obtain ⟨CC, T, N, ty0, h1, h2, h3, h4, h5, h6, h7, h8⟩ := hf
  refine va_put (D := g.2.1) (cl := cls) (ty := .int) C.1 C.2.1 C.2.2.2.2.2.2.1 h4 ty0 h5 h6 C.2.2.2.2.1 C.2.2.2.2.2.2.2.1 hP (wl_D C.2.2.2.2.2.2.2.2.1 M) hS q (hq g M) h1 j h2 (C.2.2.2.2.2.2.1 _ h3) (fun _ h => h) h7 h8 rfl rfl hj hd (fun H1 locs1 hP1 hD1 hS1 => ?_)
  rw [hs g M x] at hP1
  exact k p e s m args below meth c H1 locs1 ls C hP1 hS1 hl
theorem A_iald {q N : Nat} {i : Int32} (hd : di cc pc .iaload 1 n) (hq : IA q N) (hi : vp_in i N) (k : AT l g own cc nL ret R P n lv (.int (M.1 q i.toNatClampNeg) :: st) M) : AT l g own cc nL ret R P pc lv (.int i :: .ref (g.1 q) :: st) M := fun p e s m args below meth c H locs ls C hP hS hl => by
  obtain ⟨hd, rfl⟩ := hd
  exact va_iald C.1 C.2.1 C.2.2.2.2.2.2.2.1 hP q 0 (hq.1 g M) rfl hi hd (k p e s m args below meth c H locs ls C hP hS hl)
theorem A_zald {q N : Nat} {i : Int32} (hd : di cc pc .baload 1 n) (hq : ZA q N) (hi : vp_in i N) (k : AT l g own cc nL ret R P n lv (.int (M.1 q i.toNatClampNeg) :: st) M) : AT l g own cc nL ret R P pc lv (.int i :: .ref (g.1 q) :: st) M := fun p e s m args below meth c H locs ls C hP hS hl => by
  obtain ⟨hd, rfl⟩ := hd
  exact va_zald C.1 C.2.1 C.2.2.2.2.2.2.2.1 hP q 1 (hq.1 g M) rfl hi hd (k p e s m args below meth c H locs ls C hP hS hl)
theorem A_lald {q N : Nat} {i : Int32} (hd : di cc pc .laload 1 n) (hq : LA q N) (hi : vp_in i N) (k : AT l g own cc nL ret R P n lv (.long (M.2 i.toNatClampNeg) :: st) M) : AT l g own cc nL ret R P pc lv (.int i :: .ref (g.1 q) :: st) M := fun p e s m args below meth c H locs ls C hP hS hl => by
  obtain ⟨hd, rfl⟩ := hd
  exact va_lald C.1 C.2.1 C.2.2.2.2.2.2.2.1 hP q 2 (hq.1 g M) rfl hi hd (k p e s m args below meth c H locs ls C hP hS hl)
theorem A_iast {q N : Nat} {i x : Int32} (hd : di cc pc .iastore 1 n) (hq : IA q N) (hi : vp_in i N) (k : AT l g own cc nL ret R P n lv st (up2 M q i.toNatClampNeg x)) : AT l g own cc nL ret R P pc lv (.int x :: .int i :: .ref (g.1 q) :: st) M := fun p e s m args below meth c H locs ls C hP hS hl => by
  obtain ⟨hd, rfl⟩ := hd
  refine va_iast C.1 C.2.1 C.2.2.2.2.2.2.2.1 hP (wl_D C.2.2.2.2.2.2.2.2.1 M) hS q 0 (hq.1 g M) rfl hi hd (fun H1 locs1 hP1 hD1 hS1 => ?_)
  rw [hq.2 g M] at hP1
  exact k p e s m args below meth c H1 locs1 ls C hP1 hS1 hl
theorem A_zast {q N : Nat} {i x : Int32} (hd : di cc pc .bastore 1 n) (hq : ZA q N) (hi : vp_in i N) (k : AT l g own cc nL ret R P n lv st (up2 M q i.toNatClampNeg (x &&& 1))) : AT l g own cc nL ret R P pc lv (.int x :: .int i :: .ref (g.1 q) :: st) M := fun p e s m args below meth c H locs ls C hP hS hl => by
  obtain ⟨hd, rfl⟩ := hd
  refine va_zast C.1 C.2.1 C.2.2.2.2.2.2.2.1 hP (wl_D C.2.2.2.2.2.2.2.2.1 M) hS q 1 (hq.1 g M) rfl hi hd (fun H1 locs1 hP1 hD1 hS1 => ?_)
  rw [hq.2 g M] at hP1
  exact k p e s m args below meth c H1 locs1 ls C hP1 hS1 hl
theorem A_last {q N : Nat} {i : Int32} {x : Int64} (hd : di cc pc .lastore 1 n) (hq : LA q N) (hi : vp_in i N) (k : AT l g own cc nL ret R P n lv st (upL M i.toNatClampNeg x)) : AT l g own cc nL ret R P pc lv (.long x :: .int i :: .ref (g.1 q) :: st) M := fun p e s m args below meth c H locs ls C hP hS hl => by
  obtain ⟨hd, rfl⟩ := hd
  refine va_last C.1 C.2.1 C.2.2.2.2.2.2.2.1 hP (wl_D C.2.2.2.2.2.2.2.2.1 M) hS q 2 (hq.1 g M) rfl hi hd (fun H1 locs1 hP1 hD1 hS1 => ?_)
  rw [hq.2 g M] at hP1
  exact k p e s m args below meth c H1 locs1 ls C hP1 hS1 hl
theorem A_alen {q N : Nat} {v : Int32} (hd : di cc pc .arraylength 1 n) (hq : IA q N) (hv : Int32.ofNat N = v) (k : AT l g own cc nL ret R P n lv (.int v :: st) M) : AT l g own cc nL ret R P pc lv (.ref (g.1 q) :: st) M := fun p e s m args below meth c H locs ls C hP hS hl => by
  obtain ⟨hd, rfl⟩ := hd
  exact va_alen C.1 C.2.1 C.2.2.2.2.2.2.2.1 hP q 0 (hq.1 g M) (ty := .int) rfl hv hd (k p e s m args below meth c H locs ls C hP hS hl)
theorem A_alenL {q N : Nat} {v : Int32} (hd : di cc pc .arraylength 1 n) (hq : LA q N) (hv : Int32.ofNat N = v) (k : AT l g own cc nL ret R P n lv (.int v :: st) M) : AT l g own cc nL ret R P pc lv (.ref (g.1 q) :: st) M := fun p e s m args below meth c H locs ls C hP hS hl => by
  obtain ⟨hd, rfl⟩ := hd
  exact va_alen C.1 C.2.1 C.2.2.2.2.2.2.2.1 hP q 2 (hq.1 g M) (ty := .long) rfl hv hd (k p e s m args below meth c H locs ls C hP hS hl)
/-- a row of the table of ways -/
theorem A_aald {i : Int32} (hd : di cc pc .aaload 1 n) (hi : vp_in i 15) (k : AT l g own cc nL ret R P n lv (.ref (g.1 (51 + i.toNatClampNeg)) :: st) M) : AT l g own cc nL ret R P pc lv (.int i :: .ref (g.1 50) :: st) M := fun p e s m args below meth c H locs ls C hP hS hl => by
  obtain ⟨hd, rfl⟩ := hd
  have hlt : i.toNatClampNeg < 15 := Nat.not_le.mp fun q => hi (Or.inr q)
  have hK := C.2.2.2.2.2.2.2.1
  have hv : va_rf ((fun i => if i < 15 then some (g.1 (51 + i)) else none) i.toNatClampNeg) = .ref (g.1 (51 + i.toNatClampNeg)) := by
    show va_rf (if i.toNatClampNeg < 15 then some (g.1 (51 + i.toNatClampNeg)) else none) = _
    rw [if_pos hlt]; rfl
  have hk := k p e s m args below meth c H locs ls C hP hS hl
  rw [← hv] at hk
  exact W.aald (v := va_rf ((fun i => if i < 15 then some (g.1 (51 + i)) else none) i.toNatClampNeg)) (ty := .array .int) C.1 C.2.1 (hP 50 _ (waW g M)) ((hK.2 3 _ rfl).1 15 (fun j => va_rf ((fun i => if i < 15 then some (g.1 (51 + i)) else none) j))) rfl (fun q => by cases q) (by show ¬ (i < 0 ∨ (arrV _ _ _).slots.size ≤ _); rw [arrV_size]; exact hi) (by show (arrV _ _ _).slots[_]? = _; rw [arrV_read _ _ hlt]) rfl rfl hd hk
/-- a static that nobody writes -/
theorem A_gets {idx : Nat} {Cn nm d : String} {v : Value} (hd : di cc pc (.getstatic idx) 3 n) (hw : Cond.fieldLink own idx Cn nm d ∈ gd) (hz : ∀ (A : Nat → Prop) (U : State) (H : Heap), ST g A U H → va_Z Cn nm d v A U H) (k : AT l g own cc nL ret R P n lv (v :: st) M) : AT l g own cc nL ret R P pc lv st M := fun p e s m args below meth c H locs ls C hP hS hl => by
  obtain ⟨hd, rfl⟩ := hd
  exact va_gets C.1 C.2.1 (hz _ _ _ C.2.2.2.2.2.2.2.2.2) hS C.2.2.2.2.1 (C.2.2.2.2.2.2.1 _ hw) (fun _ h => h) hd (k p e s m args below meth c H locs ls C hP hS hl)
theorem A_tald {t N : Nat} {f : Nat → Int32} {i : Int32} (hd : di cc pc .iaload 1 n) (hz : ∀ (A : Nat → Prop) (U : State) (H : Heap), ST g A U H → va_T .int t N (fun j => .int (f j)) A U H) (hi : vp_in i N) (k : AT l g own cc nL ret R P n lv (.int (f i.toNatClampNeg) :: st) M) : AT l g own cc nL ret R P pc lv (.int i :: .ref t :: st) M := fun p e s m args below meth c H locs ls C hP hS hl => by
  obtain ⟨hd, rfl⟩ := hd
  exact va_ti C.1 C.2.1 (hz _ _ _ C.2.2.2.2.2.2.2.2.2) hS hi rfl hd (k p e s m args below meth c H locs ls C hP hS hl)
theorem A_tlen {t N : Nat} {f : Nat → Int32} {v : Int32} (hd : di cc pc .arraylength 1 n) (hz : ∀ (A : Nat → Prop) (U : State) (H : Heap), ST g A U H → va_T .int t N (fun j => .int (f j)) A U H) (hv : Int32.ofNat N = v) (k : AT l g own cc nL ret R P n lv (.int v :: st) M) : AT l g own cc nL ret R P pc lv (.ref t :: st) M := fun p e s m args below meth c H locs ls C hP hS hl => by
  obtain ⟨hd, rfl⟩ := hd
  exact va_tlen C.1 C.2.1 (hz _ _ _ C.2.2.2.2.2.2.2.2.2) hS hv hd (k p e s m args below meth c H locs ls C hP hS hl)
theorem A_iret {v : Int32} (hd : di cc pc .ireturn 1 n) (h : P (some (.int v)) M) : AT l g own cc nL (some .int) R P pc lv [.int v] M := fun p e s m args below meth c H locs ls C hP hS hl => by
  obtain ⟨hd, rfl⟩ := hd
  exact W.iret C.1 C.2.1 C.2.2.1 (fun t ht hW => ⟨⟨_, M, rfl, h, by rw [ht]; exact hP⟩, hS.F ht⟩) hS.2.2 hd (hlocks := C.2.2.2.2.2.1)
theorem A_zret {v : Int32} (hd : di cc pc .ireturn 1 n) (hv : v &&& 1 = v) (h : P (some (.int v)) M) : AT l g own cc nL (some .boolean) R P pc lv [.int v] M := fun p e s m args below meth c H locs ls C hP hS hl => by
  obtain ⟨hd, rfl⟩ := hd
  exact W.zret C.1 C.2.1 C.2.2.1 (by show Value.int (v &&& 1) = _; rw [hv]) (fun t ht hW => ⟨⟨_, M, rfl, h, by rw [ht]; exact hP⟩, hS.F ht⟩) hS.2.2 hd (hlocks := C.2.2.2.2.2.1)
theorem A_cret {v : Int32} {ty : FieldType} (hd : di cc pc .ireturn 1 n) (hv : narrow ty (.int v) = .int v) (h : P (some (.int v)) M) : AT l g own cc nL (some ty) R P pc lv [.int v] M := fun p e s m args below meth c H locs ls C hP hS hl => by
  obtain ⟨hd, rfl⟩ := hd
  exact W.zret C.1 C.2.1 C.2.2.1 hv (fun t ht hW => ⟨⟨_, M, rfl, h, by rw [ht]; exact hP⟩, hS.F ht⟩) hS.2.2 hd (hlocks := C.2.2.2.2.2.1)
theorem A_vret (hd : di cc pc .return_ 1 n) (h : P none M) : AT l g own cc nL (none) R P pc lv [] M := fun p e s m args below meth c H locs ls C hP hS hl => by
  obtain ⟨hd, rfl⟩ := hd
  exact W.vret C.1 C.2.1 C.2.2.1 (fun t ht hW => ⟨⟨_, M, rfl, h, by rw [ht]; exact hP⟩, hS.F ht⟩) hS.2.2 hd (hlocks := C.2.2.2.2.2.1)
theorem A_aret {x : Nat} {nm : String} (hd : di cc pc .areturn 1 n) (h : P (some (.ref x)) M) : AT l g own cc nL (some (.object nm)) R P pc lv [.ref x] M := fun p e s m args below meth c H locs ls C hP hS hl => by
  obtain ⟨hd, rfl⟩ := hd
  exact W.aret C.1 C.2.1 C.2.2.1 (Or.inl ⟨_, rfl⟩) (Or.inr ⟨_, rfl⟩) (fun t ht hW => ⟨⟨_, M, rfl, h, by rw [ht]; exact hP⟩, hS.F ht⟩) hS.2.2 hd (hlocks := C.2.2.2.2.2.1)
end ROWS
section STO
variable {l : Launch} {g : Cx} {own : String} {cc : ByteArray} {nL : Nat} {ret : Option FieldType} {R : Room} {P : Option Value → Mem → Prop} {pc n : Nat} {lv : List (Option Value)} {st : List Value} {M : Mem}
theorem A_istore0 {a0 : Option Value} {t : List (Option Value)} {x : Int32} (hd : di cc pc (.istore 0) 2 n) (hn : 0 < nL) (k : AT l g own cc nL ret R P n (some (.int x) :: t) st M) : AT l g own cc nL ret R P pc (a0 :: t) (.int x :: st) M := A_istore hd hn (fun x h0 _ => absurd rfl h0) k
theorem A_istoren0 {a0 : Option Value} {t : List (Option Value)} {x : Int32} (hd : di cc pc (.istore_n 0) 1 n) (hn : 0 < nL) (k : AT l g own cc nL ret R P n (some (.int x) :: t) st M) : AT l g own cc nL ret R P pc (a0 :: t) (.int x :: st) M := A_istore_n hd hn (fun x h0 _ => absurd rfl h0) k
theorem A_astoren0 {a0 : Option Value} {t : List (Option Value)} {x : Nat} (hd : di cc pc (.astore_n 0) 1 n) (hn : 0 < nL) (k : AT l g own cc nL ret R P n (some (.ref x) :: t) st M) : AT l g own cc nL ret R P pc (a0 :: t) (.ref x :: st) M := A_astore_n hd hn (fun x h0 _ => absurd rfl h0) k
theorem A_iinc0 {t : List (Option Value)} {z : Int} {x d : Int32} (hd : di cc pc (.iinc 0 z) 3 n) (hv : Int32.ofInt z = d) (hn : 0 < nL) (k : AT l g own cc nL ret R P n (some (.int (x + d)) :: t) st M) : AT l g own cc nL ret R P pc (some (.int x) :: t) st M := A_iinc hd rfl hv hn (fun x h0 _ => absurd rfl h0) k
theorem A_lstore0 {a0 b : Option Value} {t : List (Option Value)} {x : Int64} (hd : di cc pc (.lstore 0) 2 n) (hn : 0 + 1 < nL) (k : AT l g own cc nL ret R P n (some (.long x) :: none :: t) st M) : AT l g own cc nL ret R P pc (a0 :: b :: t) (.long x :: st) M := A_lstore hd hn (fun x h0 _ => absurd rfl h0) k
theorem A_lstoren0 {a0 b : Option Value} {t : List (Option Value)} {x : Int64} (hd : di cc pc (.lstore_n 0) 1 n) (hn : 0 + 1 < nL) (k : AT l g own cc nL ret R P n (some (.long x) :: none :: t) st M) : AT l g own cc nL ret R P pc (a0 :: b :: t) (.long x :: st) M := A_lstore_n hd hn (fun x h0 _ => absurd rfl h0) k
theorem A_istore1 {a0 a1 : Option Value} {t : List (Option Value)} {x : Int32} (hd : di cc pc (.istore 1) 2 n) (hn : 1 < nL) (hp : okp a0 = true) (k : AT l g own cc nL ret R P n (a0 :: some (.int x) :: t) st M) : AT l g own cc nL ret R P pc (a0 :: a1 :: t) (.int x :: st) M := A_istore hd hn (fun x _ h => (Option.some.inj h : a0 = x) ▸ hp) k
theorem A_istoren1 {a0 a1 : Option Value} {t : List (Option Value)} {x : Int32} (hd : di cc pc (.istore_n 1) 1 n) (hn : 1 < nL) (hp : okp a0 = true) (k : AT l g own cc nL ret R P n (a0 :: some (.int x) :: t) st M) : AT l g own cc nL ret R P pc (a0 :: a1 :: t) (.int x :: st) M := A_istore_n hd hn (fun x _ h => (Option.some.inj h : a0 = x) ▸ hp) k
theorem A_astoren1 {a0 a1 : Option Value} {t : List (Option Value)} {x : Nat} (hd : di cc pc (.astore_n 1) 1 n) (hn : 1 < nL) (hp : okp a0 = true) (k : AT l g own cc nL ret R P n (a0 :: some (.ref x) :: t) st M) : AT l g own cc nL ret R P pc (a0 :: a1 :: t) (.ref x :: st) M := A_astore_n hd hn (fun x _ h => (Option.some.inj h : a0 = x) ▸ hp) k
theorem A_iinc1 {a0 : Option Value} {t : List (Option Value)} {z : Int} {x d : Int32} (hd : di cc pc (.iinc 1 z) 3 n) (hv : Int32.ofInt z = d) (hn : 1 < nL) (hp : okp a0 = true) (k : AT l g own cc nL ret R P n (a0 :: some (.int (x + d)) :: t) st M) : AT l g own cc nL ret R P pc (a0 :: some (.int x) :: t) st M := A_iinc hd rfl hv hn (fun x _ h => (Option.some.inj h : a0 = x) ▸ hp) k
theorem A_lstore1 {a0 a1 b : Option Value} {t : List (Option Value)} {x : Int64} (hd : di cc pc (.lstore 1) 2 n) (hn : 1 + 1 < nL) (hp : okp a0 = true) (k : AT l g own cc nL ret R P n (a0 :: some (.long x) :: none :: t) st M) : AT l g own cc nL ret R P pc (a0 :: a1 :: b :: t) (.long x :: st) M := A_lstore hd hn (fun x _ h => (Option.some.inj h : a0 = x) ▸ hp) k
theorem A_lstoren1 {a0 a1 b : Option Value} {t : List (Option Value)} {x : Int64} (hd : di cc pc (.lstore_n 1) 1 n) (hn : 1 + 1 < nL) (hp : okp a0 = true) (k : AT l g own cc nL ret R P n (a0 :: some (.long x) :: none :: t) st M) : AT l g own cc nL ret R P pc (a0 :: a1 :: b :: t) (.long x :: st) M := A_lstore_n hd hn (fun x _ h => (Option.some.inj h : a0 = x) ▸ hp) k
theorem A_istore2 {a0 a1 a2 : Option Value} {t : List (Option Value)} {x : Int32} (hd : di cc pc (.istore 2) 2 n) (hn : 2 < nL) (hp : okp a1 = true) (k : AT l g own cc nL ret R P n (a0 :: a1 :: some (.int x) :: t) st M) : AT l g own cc nL ret R P pc (a0 :: a1 :: a2 :: t) (.int x :: st) M := A_istore hd hn (fun x _ h => (Option.some.inj h : a1 = x) ▸ hp) k
theorem A_istoren2 {a0 a1 a2 : Option Value} {t : List (Option Value)} {x : Int32} (hd : di cc pc (.istore_n 2) 1 n) (hn : 2 < nL) (hp : okp a1 = true) (k : AT l g own cc nL ret R P n (a0 :: a1 :: some (.int x) :: t) st M) : AT l g own cc nL ret R P pc (a0 :: a1 :: a2 :: t) (.int x :: st) M := A_istore_n hd hn (fun x _ h => (Option.some.inj h : a1 = x) ▸ hp) k
theorem A_astoren2 {a0 a1 a2 : Option Value} {t : List (Option Value)} {x : Nat} (hd : di cc pc (.astore_n 2) 1 n) (hn : 2 < nL) (hp : okp a1 = true) (k : AT l g own cc nL ret R P n (a0 :: a1 :: some (.ref x) :: t) st M) : AT l g own cc nL ret R P pc (a0 :: a1 :: a2 :: t) (.ref x :: st) M := A_astore_n hd hn (fun x _ h => (Option.some.inj h : a1 = x) ▸ hp) k
theorem A_iinc2 {a0 a1 : Option Value} {t : List (Option Value)} {z : Int} {x d : Int32} (hd : di cc pc (.iinc 2 z) 3 n) (hv : Int32.ofInt z = d) (hn : 2 < nL) (hp : okp a1 = true) (k : AT l g own cc nL ret R P n (a0 :: a1 :: some (.int (x + d)) :: t) st M) : AT l g own cc nL ret R P pc (a0 :: a1 :: some (.int x) :: t) st M := A_iinc hd rfl hv hn (fun x _ h => (Option.some.inj h : a1 = x) ▸ hp) k
theorem A_lstore2 {a0 a1 a2 b : Option Value} {t : List (Option Value)} {x : Int64} (hd : di cc pc (.lstore 2) 2 n) (hn : 2 + 1 < nL) (hp : okp a1 = true) (k : AT l g own cc nL ret R P n (a0 :: a1 :: some (.long x) :: none :: t) st M) : AT l g own cc nL ret R P pc (a0 :: a1 :: a2 :: b :: t) (.long x :: st) M := A_lstore hd hn (fun x _ h => (Option.some.inj h : a1 = x) ▸ hp) k
theorem A_lstoren2 {a0 a1 a2 b : Option Value} {t : List (Option Value)} {x : Int64} (hd : di cc pc (.lstore_n 2) 1 n) (hn : 2 + 1 < nL) (hp : okp a1 = true) (k : AT l g own cc nL ret R P n (a0 :: a1 :: some (.long x) :: none :: t) st M) : AT l g own cc nL ret R P pc (a0 :: a1 :: a2 :: b :: t) (.long x :: st) M := A_lstore_n hd hn (fun x _ h => (Option.some.inj h : a1 = x) ▸ hp) k
theorem A_istore3 {a0 a1 a2 a3 : Option Value} {t : List (Option Value)} {x : Int32} (hd : di cc pc (.istore 3) 2 n) (hn : 3 < nL) (hp : okp a2 = true) (k : AT l g own cc nL ret R P n (a0 :: a1 :: a2 :: some (.int x) :: t) st M) : AT l g own cc nL ret R P pc (a0 :: a1 :: a2 :: a3 :: t) (.int x :: st) M := A_istore hd hn (fun x _ h => (Option.some.inj h : a2 = x) ▸ hp) k
theorem A_istoren3 {a0 a1 a2 a3 : Option Value} {t : List (Option Value)} {x : Int32} (hd : di cc pc (.istore_n 3) 1 n) (hn : 3 < nL) (hp : okp a2 = true) (k : AT l g own cc nL ret R P n (a0 :: a1 :: a2 :: some (.int x) :: t) st M) : AT l g own cc nL ret R P pc (a0 :: a1 :: a2 :: a3 :: t) (.int x :: st) M := A_istore_n hd hn (fun x _ h => (Option.some.inj h : a2 = x) ▸ hp) k
theorem A_astoren3 {a0 a1 a2 a3 : Option Value} {t : List (Option Value)} {x : Nat} (hd : di cc pc (.astore_n 3) 1 n) (hn : 3 < nL) (hp : okp a2 = true) (k : AT l g own cc nL ret R P n (a0 :: a1 :: a2 :: some (.ref x) :: t) st M) : AT l g own cc nL ret R P pc (a0 :: a1 :: a2 :: a3 :: t) (.ref x :: st) M := A_astore_n hd hn (fun x _ h => (Option.some.inj h : a2 = x) ▸ hp) k
theorem A_iinc3 {a0 a1 a2 : Option Value} {t : List (Option Value)} {z : Int} {x d : Int32} (hd : di cc pc (.iinc 3 z) 3 n) (hv : Int32.ofInt z = d) (hn : 3 < nL) (hp : okp a2 = true) (k : AT l g own cc nL ret R P n (a0 :: a1 :: a2 :: some (.int (x + d)) :: t) st M) : AT l g own cc nL ret R P pc (a0 :: a1 :: a2 :: some (.int x) :: t) st M := A_iinc hd rfl hv hn (fun x _ h => (Option.some.inj h : a2 = x) ▸ hp) k
theorem A_lstore3 {a0 a1 a2 a3 b : Option Value} {t : List (Option Value)} {x : Int64} (hd : di cc pc (.lstore 3) 2 n) (hn : 3 + 1 < nL) (hp : okp a2 = true) (k : AT l g own cc nL ret R P n (a0 :: a1 :: a2 :: some (.long x) :: none :: t) st M) : AT l g own cc nL ret R P pc (a0 :: a1 :: a2 :: a3 :: b :: t) (.long x :: st) M := A_lstore hd hn (fun x _ h => (Option.some.inj h : a2 = x) ▸ hp) k
theorem A_lstoren3 {a0 a1 a2 a3 b : Option Value} {t : List (Option Value)} {x : Int64} (hd : di cc pc (.lstore_n 3) 1 n) (hn : 3 + 1 < nL) (hp : okp a2 = true) (k : AT l g own cc nL ret R P n (a0 :: a1 :: a2 :: some (.long x) :: none :: t) st M) : AT l g own cc nL ret R P pc (a0 :: a1 :: a2 :: a3 :: b :: t) (.long x :: st) M := A_lstore_n hd hn (fun x _ h => (Option.some.inj h : a2 = x) ▸ hp) k
theorem A_istore4 {a0 a1 a2 a3 a4 : Option Value} {t : List (Option Value)} {x : Int32} (hd : di cc pc (.istore 4) 2 n) (hn : 4 < nL) (hp : okp a3 = true) (k : AT l g own cc nL ret R P n (a0 :: a1 :: a2 :: a3 :: some (.int x) :: t) st M) : AT l g own cc nL ret R P pc (a0 :: a1 :: a2 :: a3 :: a4 :: t) (.int x :: st) M := A_istore hd hn (fun x _ h => (Option.some.inj h : a3 = x) ▸ hp) k
theorem A_iinc4 {a0 a1 a2 a3 : Option Value} {t : List (Option Value)} {z : Int} {x d : Int32} (hd : di cc pc (.iinc 4 z) 3 n) (hv : Int32.ofInt z = d) (hn : 4 < nL) (hp : okp a3 = true) (k : AT l g own cc nL ret R P n (a0 :: a1 :: a2 :: a3 :: some (.int (x + d)) :: t) st M) : AT l g own cc nL ret R P pc (a0 :: a1 :: a2 :: a3 :: some (.int x) :: t) st M := A_iinc hd rfl hv hn (fun x _ h => (Option.some.inj h : a3 = x) ▸ hp) k
theorem A_lstore4 {a0 a1 a2 a3 a4 b : Option Value} {t : List (Option Value)} {x : Int64} (hd : di cc pc (.lstore 4) 2 n) (hn : 4 + 1 < nL) (hp : okp a3 = true) (k : AT l g own cc nL ret R P n (a0 :: a1 :: a2 :: a3 :: some (.long x) :: none :: t) st M) : AT l g own cc nL ret R P pc (a0 :: a1 :: a2 :: a3 :: a4 :: b :: t) (.long x :: st) M := A_lstore hd hn (fun x _ h => (Option.some.inj h : a3 = x) ▸ hp) k
theorem A_istore5 {a0 a1 a2 a3 a4 a5 : Option Value} {t : List (Option Value)} {x : Int32} (hd : di cc pc (.istore 5) 2 n) (hn : 5 < nL) (hp : okp a4 = true) (k : AT l g own cc nL ret R P n (a0 :: a1 :: a2 :: a3 :: a4 :: some (.int x) :: t) st M) : AT l g own cc nL ret R P pc (a0 :: a1 :: a2 :: a3 :: a4 :: a5 :: t) (.int x :: st) M := A_istore hd hn (fun x _ h => (Option.some.inj h : a4 = x) ▸ hp) k
theorem A_iinc5 {a0 a1 a2 a3 a4 : Option Value} {t : List (Option Value)} {z : Int} {x d : Int32} (hd : di cc pc (.iinc 5 z) 3 n) (hv : Int32.ofInt z = d) (hn : 5 < nL) (hp : okp a4 = true) (k : AT l g own cc nL ret R P n (a0 :: a1 :: a2 :: a3 :: a4 :: some (.int (x + d)) :: t) st M) : AT l g own cc nL ret R P pc (a0 :: a1 :: a2 :: a3 :: a4 :: some (.int x) :: t) st M := A_iinc hd rfl hv hn (fun x _ h => (Option.some.inj h : a4 = x) ▸ hp) k
theorem A_lstore5 {a0 a1 a2 a3 a4 a5 b : Option Value} {t : List (Option Value)} {x : Int64} (hd : di cc pc (.lstore 5) 2 n) (hn : 5 + 1 < nL) (hp : okp a4 = true) (k : AT l g own cc nL ret R P n (a0 :: a1 :: a2 :: a3 :: a4 :: some (.long x) :: none :: t) st M) : AT l g own cc nL ret R P pc (a0 :: a1 :: a2 :: a3 :: a4 :: a5 :: b :: t) (.long x :: st) M := A_lstore hd hn (fun x _ h => (Option.some.inj h : a4 = x) ▸ hp) k
theorem A_istore6 {a0 a1 a2 a3 a4 a5 a6 : Option Value} {t : List (Option Value)} {x : Int32} (hd : di cc pc (.istore 6) 2 n) (hn : 6 < nL) (hp : okp a5 = true) (k : AT l g own cc nL ret R P n (a0 :: a1 :: a2 :: a3 :: a4 :: a5 :: some (.int x) :: t) st M) : AT l g own cc nL ret R P pc (a0 :: a1 :: a2 :: a3 :: a4 :: a5 :: a6 :: t) (.int x :: st) M := A_istore hd hn (fun x _ h => (Option.some.inj h : a5 = x) ▸ hp) k
theorem A_iinc6 {a0 a1 a2 a3 a4 a5 : Option Value} {t : List (Option Value)} {z : Int} {x d : Int32} (hd : di cc pc (.iinc 6 z) 3 n) (hv : Int32.ofInt z = d) (hn : 6 < nL) (hp : okp a5 = true) (k : AT l g own cc nL ret R P n (a0 :: a1 :: a2 :: a3 :: a4 :: a5 :: some (.int (x + d)) :: t) st M) : AT l g own cc nL ret R P pc (a0 :: a1 :: a2 :: a3 :: a4 :: a5 :: some (.int x) :: t) st M := A_iinc hd rfl hv hn (fun x _ h => (Option.some.inj h : a5 = x) ▸ hp) k
theorem A_lstore6 {a0 a1 a2 a3 a4 a5 a6 b : Option Value} {t : List (Option Value)} {x : Int64} (hd : di cc pc (.lstore 6) 2 n) (hn : 6 + 1 < nL) (hp : okp a5 = true) (k : AT l g own cc nL ret R P n (a0 :: a1 :: a2 :: a3 :: a4 :: a5 :: some (.long x) :: none :: t) st M) : AT l g own cc nL ret R P pc (a0 :: a1 :: a2 :: a3 :: a4 :: a5 :: a6 :: b :: t) (.long x :: st) M := A_lstore hd hn (fun x _ h => (Option.some.inj h : a5 = x) ▸ hp) k
theorem A_istore7 {a0 a1 a2 a3 a4 a5 a6 a7 : Option Value} {t : List (Option Value)} {x : Int32} (hd : di cc pc (.istore 7) 2 n) (hn : 7 < nL) (hp : okp a6 = true) (k : AT l g own cc nL ret R P n (a0 :: a1 :: a2 :: a3 :: a4 :: a5 :: a6 :: some (.int x) :: t) st M) : AT l g own cc nL ret R P pc (a0 :: a1 :: a2 :: a3 :: a4 :: a5 :: a6 :: a7 :: t) (.int x :: st) M := A_istore hd hn (fun x _ h => (Option.some.inj h : a6 = x) ▸ hp) k
theorem A_iinc7 {a0 a1 a2 a3 a4 a5 a6 : Option Value} {t : List (Option Value)} {z : Int} {x d : Int32} (hd : di cc pc (.iinc 7 z) 3 n) (hv : Int32.ofInt z = d) (hn : 7 < nL) (hp : okp a6 = true) (k : AT l g own cc nL ret R P n (a0 :: a1 :: a2 :: a3 :: a4 :: a5 :: a6 :: some (.int (x + d)) :: t) st M) : AT l g own cc nL ret R P pc (a0 :: a1 :: a2 :: a3 :: a4 :: a5 :: a6 :: some (.int x) :: t) st M := A_iinc hd rfl hv hn (fun x _ h => (Option.some.inj h : a6 = x) ▸ hp) k
theorem A_lstore7 {a0 a1 a2 a3 a4 a5 a6 a7 b : Option Value} {t : List (Option Value)} {x : Int64} (hd : di cc pc (.lstore 7) 2 n) (hn : 7 + 1 < nL) (hp : okp a6 = true) (k : AT l g own cc nL ret R P n (a0 :: a1 :: a2 :: a3 :: a4 :: a5 :: a6 :: some (.long x) :: none :: t) st M) : AT l g own cc nL ret R P pc (a0 :: a1 :: a2 :: a3 :: a4 :: a5 :: a6 :: a7 :: b :: t) (.long x :: st) M := A_lstore hd hn (fun x _ h => (Option.some.inj h : a6 = x) ▸ hp) k
theorem A_istore8 {a0 a1 a2 a3 a4 a5 a6 a7 a8 : Option Value} {t : List (Option Value)} {x : Int32} (hd : di cc pc (.istore 8) 2 n) (hn : 8 < nL) (hp : okp a7 = true) (k : AT l g own cc nL ret R P n (a0 :: a1 :: a2 :: a3 :: a4 :: a5 :: a6 :: a7 :: some (.int x) :: t) st M) : AT l g own cc nL ret R P pc (a0 :: a1 :: a2 :: a3 :: a4 :: a5 :: a6 :: a7 :: a8 :: t) (.int x :: st) M := A_istore hd hn (fun x _ h => (Option.some.inj h : a7 = x) ▸ hp) k
theorem A_iinc8 {a0 a1 a2 a3 a4 a5 a6 a7 : Option Value} {t : List (Option Value)} {z : Int} {x d : Int32} (hd : di cc pc (.iinc 8 z) 3 n) (hv : Int32.ofInt z = d) (hn : 8 < nL) (hp : okp a7 = true) (k : AT l g own cc nL ret R P n (a0 :: a1 :: a2 :: a3 :: a4 :: a5 :: a6 :: a7 :: some (.int (x + d)) :: t) st M) : AT l g own cc nL ret R P pc (a0 :: a1 :: a2 :: a3 :: a4 :: a5 :: a6 :: a7 :: some (.int x) :: t) st M := A_iinc hd rfl hv hn (fun x _ h => (Option.some.inj h : a7 = x) ▸ hp) k
theorem A_lstore8 {a0 a1 a2 a3 a4 a5 a6 a7 a8 b : Option Value} {t : List (Option Value)} {x : Int64} (hd : di cc pc (.lstore 8) 2 n) (hn : 8 + 1 < nL) (hp : okp a7 = true) (k : AT l g own cc nL ret R P n (a0 :: a1 :: a2 :: a3 :: a4 :: a5 :: a6 :: a7 :: some (.long x) :: none :: t) st M) : AT l g own cc nL ret R P pc (a0 :: a1 :: a2 :: a3 :: a4 :: a5 :: a6 :: a7 :: a8 :: b :: t) (.long x :: st) M := A_lstore hd hn (fun x _ h => (Option.some.inj h : a7 = x) ▸ hp) k
theorem A_istore9 {a0 a1 a2 a3 a4 a5 a6 a7 a8 a9 : Option Value} {t : List (Option Value)} {x : Int32} (hd : di cc pc (.istore 9) 2 n) (hn : 9 < nL) (hp : okp a8 = true) (k : AT l g own cc nL ret R P n (a0 :: a1 :: a2 :: a3 :: a4 :: a5 :: a6 :: a7 :: a8 :: some (.int x) :: t) st M) : AT l g own cc nL ret R P pc (a0 :: a1 :: a2 :: a3 :: a4 :: a5 :: a6 :: a7 :: a8 :: a9 :: t) (.int x :: st) M := A_istore hd hn (fun x _ h => (Option.some.inj h : a8 = x) ▸ hp) k
theorem A_iinc9 {a0 a1 a2 a3 a4 a5 a6 a7 a8 : Option Value} {t : List (Option Value)} {z : Int} {x d : Int32} (hd : di cc pc (.iinc 9 z) 3 n) (hv : Int32.ofInt z = d) (hn : 9 < nL) (hp : okp a8 = true) (k : AT l g own cc nL ret R P n (a0 :: a1 :: a2 :: a3 :: a4 :: a5 :: a6 :: a7 :: a8 :: some (.int (x + d)) :: t) st M) : AT l g own cc nL ret R P pc (a0 :: a1 :: a2 :: a3 :: a4 :: a5 :: a6 :: a7 :: a8 :: some (.int x) :: t) st M := A_iinc hd rfl hv hn (fun x _ h => (Option.some.inj h : a8 = x) ▸ hp) k
theorem A_lstore9 {a0 a1 a2 a3 a4 a5 a6 a7 a8 a9 b : Option Value} {t : List (Option Value)} {x : Int64} (hd : di cc pc (.lstore 9) 2 n) (hn : 9 + 1 < nL) (hp : okp a8 = true) (k : AT l g own cc nL ret R P n (a0 :: a1 :: a2 :: a3 :: a4 :: a5 :: a6 :: a7 :: a8 :: some (.long x) :: none :: t) st M) : AT l g own cc nL ret R P pc (a0 :: a1 :: a2 :: a3 :: a4 :: a5 :: a6 :: a7 :: a8 :: a9 :: b :: t) (.long x :: st) M := A_lstore hd hn (fun x _ h => (Option.some.inj h : a8 = x) ▸ hp) k
theorem A_istore10 {a0 a1 a2 a3 a4 a5 a6 a7 a8 a9 a10 : Option Value} {t : List (Option Value)} {x : Int32} (hd : di cc pc (.istore 10) 2 n) (hn : 10 < nL) (hp : okp a9 = true) (k : AT l g own cc nL ret R P n (a0 :: a1 :: a2 :: a3 :: a4 :: a5 :: a6 :: a7 :: a8 :: a9 :: some (.int x) :: t) st M) : AT l g own cc nL ret R P pc (a0 :: a1 :: a2 :: a3 :: a4 :: a5 :: a6 :: a7 :: a8 :: a9 :: a10 :: t) (.int x :: st) M := A_istore hd hn (fun x _ h => (Option.some.inj h : a9 = x) ▸ hp) k
theorem A_iinc10 {a0 a1 a2 a3 a4 a5 a6 a7 a8 a9 : Option Value} {t : List (Option Value)} {z : Int} {x d : Int32} (hd : di cc pc (.iinc 10 z) 3 n) (hv : Int32.ofInt z = d) (hn : 10 < nL) (hp : okp a9 = true) (k : AT l g own cc nL ret R P n (a0 :: a1 :: a2 :: a3 :: a4 :: a5 :: a6 :: a7 :: a8 :: a9 :: some (.int (x + d)) :: t) st M) : AT l g own cc nL ret R P pc (a0 :: a1 :: a2 :: a3 :: a4 :: a5 :: a6 :: a7 :: a8 :: a9 :: some (.int x) :: t) st M := A_iinc hd rfl hv hn (fun x _ h => (Option.some.inj h : a9 = x) ▸ hp) k
theorem A_lstore10 {a0 a1 a2 a3 a4 a5 a6 a7 a8 a9 a10 b : Option Value} {t : List (Option Value)} {x : Int64} (hd : di cc pc (.lstore 10) 2 n) (hn : 10 + 1 < nL) (hp : okp a9 = true) (k : AT l g own cc nL ret R P n (a0 :: a1 :: a2 :: a3 :: a4 :: a5 :: a6 :: a7 :: a8 :: a9 :: some (.long x) :: none :: t) st M) : AT l g own cc nL ret R P pc (a0 :: a1 :: a2 :: a3 :: a4 :: a5 :: a6 :: a7 :: a8 :: a9 :: a10 :: b :: t) (.long x :: st) M := A_lstore hd hn (fun x _ h => (Option.some.inj h : a9 = x) ▸ hp) k
theorem A_istore11 {a0 a1 a2 a3 a4 a5 a6 a7 a8 a9 a10 a11 : Option Value} {t : List (Option Value)} {x : Int32} (hd : di cc pc (.istore 11) 2 n) (hn : 11 < nL) (hp : okp a10 = true) (k : AT l g own cc nL ret R P n (a0 :: a1 :: a2 :: a3 :: a4 :: a5 :: a6 :: a7 :: a8 :: a9 :: a10 :: some (.int x) :: t) st M) : AT l g own cc nL ret R P pc (a0 :: a1 :: a2 :: a3 :: a4 :: a5 :: a6 :: a7 :: a8 :: a9 :: a10 :: a11 :: t) (.int x :: st) M := A_istore hd hn (fun x _ h => (Option.some.inj h : a10 = x) ▸ hp) k
theorem A_iinc11 {a0 a1 a2 a3 a4 a5 a6 a7 a8 a9 a10 : Option Value} {t : List (Option Value)} {z : Int} {x d : Int32} (hd : di cc pc (.iinc 11 z) 3 n) (hv : Int32.ofInt z = d) (hn : 11 < nL) (hp : okp a10 = true) (k : AT l g own cc nL ret R P n (a0 :: a1 :: a2 :: a3 :: a4 :: a5 :: a6 :: a7 :: a8 :: a9 :: a10 :: some (.int (x + d)) :: t) st M) : AT l g own cc nL ret R P pc (a0 :: a1 :: a2 :: a3 :: a4 :: a5 :: a6 :: a7 :: a8 :: a9 :: a10 :: some (.int x) :: t) st M := A_iinc hd rfl hv hn (fun x _ h => (Option.some.inj h : a10 = x) ▸ hp) k
theorem A_lstore11 {a0 a1 a2 a3 a4 a5 a6 a7 a8 a9 a10 a11 b : Option Value} {t : List (Option Value)} {x : Int64} (hd : di cc pc (.lstore 11) 2 n) (hn : 11 + 1 < nL) (hp : okp a10 = true) (k : AT l g own cc nL ret R P n (a0 :: a1 :: a2 :: a3 :: a4 :: a5 :: a6 :: a7 :: a8 :: a9 :: a10 :: some (.long x) :: none :: t) st M) : AT l g own cc nL ret R P pc (a0 :: a1 :: a2 :: a3 :: a4 :: a5 :: a6 :: a7 :: a8 :: a9 :: a10 :: a11 :: b :: t) (.long x :: st) M := A_lstore hd hn (fun x _ h => (Option.some.inj h : a10 = x) ▸ hp) k
theorem A_istore12 {a0 a1 a2 a3 a4 a5 a6 a7 a8 a9 a10 a11 a12 : Option Value} {t : List (Option Value)} {x : Int32} (hd : di cc pc (.istore 12) 2 n) (hn : 12 < nL) (hp : okp a11 = true) (k : AT l g own cc nL ret R P n (a0 :: a1 :: a2 :: a3 :: a4 :: a5 :: a6 :: a7 :: a8 :: a9 :: a10 :: a11 :: some (.int x) :: t) st M) : AT l g own cc nL ret R P pc (a0 :: a1 :: a2 :: a3 :: a4 :: a5 :: a6 :: a7 :: a8 :: a9 :: a10 :: a11 :: a12 :: t) (.int x :: st) M := A_istore hd hn (fun x _ h => (Option.some.inj h : a11 = x) ▸ hp) k
theorem A_iinc12 {a0 a1 a2 a3 a4 a5 a6 a7 a8 a9 a10 a11 : Option Value} {t : List (Option Value)} {z : Int} {x d : Int32} (hd : di cc pc (.iinc 12 z) 3 n) (hv : Int32.ofInt z = d) (hn : 12 < nL) (hp : okp a11 = true) (k : AT l g own cc nL ret R P n (a0 :: a1 :: a2 :: a3 :: a4 :: a5 :: a6 :: a7 :: a8 :: a9 :: a10 :: a11 :: some (.int (x + d)) :: t) st M) : AT l g own cc nL ret R P pc (a0 :: a1 :: a2 :: a3 :: a4 :: a5 :: a6 :: a7 :: a8 :: a9 :: a10 :: a11 :: some (.int x) :: t) st M := A_iinc hd rfl hv hn (fun x _ h => (Option.some.inj h : a11 = x) ▸ hp) k
theorem A_lstore12 {a0 a1 a2 a3 a4 a5 a6 a7 a8 a9 a10 a11 a12 b : Option Value} {t : List (Option Value)} {x : Int64} (hd : di cc pc (.lstore 12) 2 n) (hn : 12 + 1 < nL) (hp : okp a11 = true) (k : AT l g own cc nL ret R P n (a0 :: a1 :: a2 :: a3 :: a4 :: a5 :: a6 :: a7 :: a8 :: a9 :: a10 :: a11 :: some (.long x) :: none :: t) st M) : AT l g own cc nL ret R P pc (a0 :: a1 :: a2 :: a3 :: a4 :: a5 :: a6 :: a7 :: a8 :: a9 :: a10 :: a11 :: a12 :: b :: t) (.long x :: st) M := A_lstore hd hn (fun x _ h => (Option.some.inj h : a11 = x) ▸ hp) k
theorem A_istore13 {a0 a1 a2 a3 a4 a5 a6 a7 a8 a9 a10 a11 a12 a13 : Option Value} {t : List (Option Value)} {x : Int32} (hd : di cc pc (.istore 13) 2 n) (hn : 13 < nL) (hp : okp a12 = true) (k : AT l g own cc nL ret R P n (a0 :: a1 :: a2 :: a3 :: a4 :: a5 :: a6 :: a7 :: a8 :: a9 :: a10 :: a11 :: a12 :: some (.int x) :: t) st M) : AT l g own cc nL ret R P pc (a0 :: a1 :: a2 :: a3 :: a4 :: a5 :: a6 :: a7 :: a8 :: a9 :: a10 :: a11 :: a12 :: a13 :: t) (.int x :: st) M := A_istore hd hn (fun x _ h => (Option.some.inj h : a12 = x) ▸ hp) k
theorem A_iinc13 {a0 a1 a2 a3 a4 a5 a6 a7 a8 a9 a10 a11 a12 : Option Value} {t : List (Option Value)} {z : Int} {x d : Int32} (hd : di cc pc (.iinc 13 z) 3 n) (hv : Int32.ofInt z = d) (hn : 13 < nL) (hp : okp a12 = true) (k : AT l g own cc nL ret R P n (a0 :: a1 :: a2 :: a3 :: a4 :: a5 :: a6 :: a7 :: a8 :: a9 :: a10 :: a11 :: a12 :: some (.int (x + d)) :: t) st M) : AT l g own cc nL ret R P pc (a0 :: a1 :: a2 :: a3 :: a4 :: a5 :: a6 :: a7 :: a8 :: a9 :: a10 :: a11 :: a12 :: some (.int x) :: t) st M := A_iinc hd rfl hv hn (fun x _ h => (Option.some.inj h : a12 = x) ▸ hp) k
theorem A_lstore13 {a0 a1 a2 a3 a4 a5 a6 a7 a8 a9 a10 a11 a12 a13 b : Option Value} {t : List (Option Value)} {x : Int64} (hd : di cc pc (.lstore 13) 2 n) (hn : 13 + 1 < nL) (hp : okp a12 = true) (k : AT l g own cc nL ret R P n (a0 :: a1 :: a2 :: a3 :: a4 :: a5 :: a6 :: a7 :: a8 :: a9 :: a10 :: a11 :: a12 :: some (.long x) :: none :: t) st M) : AT l g own cc nL ret R P pc (a0 :: a1 :: a2 :: a3 :: a4 :: a5 :: a6 :: a7 :: a8 :: a9 :: a10 :: a11 :: a12 :: a13 :: b :: t) (.long x :: st) M := A_lstore hd hn (fun x _ h => (Option.some.inj h : a12 = x) ▸ hp) k
theorem A_istore14 {a0 a1 a2 a3 a4 a5 a6 a7 a8 a9 a10 a11 a12 a13 a14 : Option Value} {t : List (Option Value)} {x : Int32} (hd : di cc pc (.istore 14) 2 n) (hn : 14 < nL) (hp : okp a13 = true) (k : AT l g own cc nL ret R P n (a0 :: a1 :: a2 :: a3 :: a4 :: a5 :: a6 :: a7 :: a8 :: a9 :: a10 :: a11 :: a12 :: a13 :: some (.int x) :: t) st M) : AT l g own cc nL ret R P pc (a0 :: a1 :: a2 :: a3 :: a4 :: a5 :: a6 :: a7 :: a8 :: a9 :: a10 :: a11 :: a12 :: a13 :: a14 :: t) (.int x :: st) M := A_istore hd hn (fun x _ h => (Option.some.inj h : a13 = x) ▸ hp) k
theorem A_iinc14 {a0 a1 a2 a3 a4 a5 a6 a7 a8 a9 a10 a11 a12 a13 : Option Value} {t : List (Option Value)} {z : Int} {x d : Int32} (hd : di cc pc (.iinc 14 z) 3 n) (hv : Int32.ofInt z = d) (hn : 14 < nL) (hp : okp a13 = true) (k : AT l g own cc nL ret R P n (a0 :: a1 :: a2 :: a3 :: a4 :: a5 :: a6 :: a7 :: a8 :: a9 :: a10 :: a11 :: a12 :: a13 :: some (.int (x + d)) :: t) st M) : AT l g own cc nL ret R P pc (a0 :: a1 :: a2 :: a3 :: a4 :: a5 :: a6 :: a7 :: a8 :: a9 :: a10 :: a11 :: a12 :: a13 :: some (.int x) :: t) st M := A_iinc hd rfl hv hn (fun x _ h => (Option.some.inj h : a13 = x) ▸ hp) k
theorem A_lstore14 {a0 a1 a2 a3 a4 a5 a6 a7 a8 a9 a10 a11 a12 a13 a14 b : Option Value} {t : List (Option Value)} {x : Int64} (hd : di cc pc (.lstore 14) 2 n) (hn : 14 + 1 < nL) (hp : okp a13 = true) (k : AT l g own cc nL ret R P n (a0 :: a1 :: a2 :: a3 :: a4 :: a5 :: a6 :: a7 :: a8 :: a9 :: a10 :: a11 :: a12 :: a13 :: some (.long x) :: none :: t) st M) : AT l g own cc nL ret R P pc (a0 :: a1 :: a2 :: a3 :: a4 :: a5 :: a6 :: a7 :: a8 :: a9 :: a10 :: a11 :: a12 :: a13 :: a14 :: b :: t) (.long x :: st) M := A_lstore hd hn (fun x _ h => (Option.some.inj h : a13 = x) ▸ hp) k
theorem A_istore15 {a0 a1 a2 a3 a4 a5 a6 a7 a8 a9 a10 a11 a12 a13 a14 a15 : Option Value} {t : List (Option Value)} {x : Int32} (hd : di cc pc (.istore 15) 2 n) (hn : 15 < nL) (hp : okp a14 = true) (k : AT l g own cc nL ret R P n (a0 :: a1 :: a2 :: a3 :: a4 :: a5 :: a6 :: a7 :: a8 :: a9 :: a10 :: a11 :: a12 :: a13 :: a14 :: some (.int x) :: t) st M) : AT l g own cc nL ret R P pc (a0 :: a1 :: a2 :: a3 :: a4 :: a5 :: a6 :: a7 :: a8 :: a9 :: a10 :: a11 :: a12 :: a13 :: a14 :: a15 :: t) (.int x :: st) M := A_istore hd hn (fun x _ h => (Option.some.inj h : a14 = x) ▸ hp) k
theorem A_iinc15 {a0 a1 a2 a3 a4 a5 a6 a7 a8 a9 a10 a11 a12 a13 a14 : Option Value} {t : List (Option Value)} {z : Int} {x d : Int32} (hd : di cc pc (.iinc 15 z) 3 n) (hv : Int32.ofInt z = d) (hn : 15 < nL) (hp : okp a14 = true) (k : AT l g own cc nL ret R P n (a0 :: a1 :: a2 :: a3 :: a4 :: a5 :: a6 :: a7 :: a8 :: a9 :: a10 :: a11 :: a12 :: a13 :: a14 :: some (.int (x + d)) :: t) st M) : AT l g own cc nL ret R P pc (a0 :: a1 :: a2 :: a3 :: a4 :: a5 :: a6 :: a7 :: a8 :: a9 :: a10 :: a11 :: a12 :: a13 :: a14 :: some (.int x) :: t) st M := A_iinc hd rfl hv hn (fun x _ h => (Option.some.inj h : a14 = x) ▸ hp) k
theorem A_lstore15 {a0 a1 a2 a3 a4 a5 a6 a7 a8 a9 a10 a11 a12 a13 a14 a15 b : Option Value} {t : List (Option Value)} {x : Int64} (hd : di cc pc (.lstore 15) 2 n) (hn : 15 + 1 < nL) (hp : okp a14 = true) (k : AT l g own cc nL ret R P n (a0 :: a1 :: a2 :: a3 :: a4 :: a5 :: a6 :: a7 :: a8 :: a9 :: a10 :: a11 :: a12 :: a13 :: a14 :: some (.long x) :: none :: t) st M) : AT l g own cc nL ret R P pc (a0 :: a1 :: a2 :: a3 :: a4 :: a5 :: a6 :: a7 :: a8 :: a9 :: a10 :: a11 :: a12 :: a13 :: a14 :: a15 :: b :: t) (.long x :: st) M := A_lstore hd hn (fun x _ h => (Option.some.inj h : a14 = x) ▸ hp) k
end STO
end
section
/-! CALLS: a callee's contract at the caller's frame -/
theorem A_core {p : Program} {l : Launch} {e : Env} {R : Room} {s : State} {m : MethodId} {args : Array Value} {below : List Frame} {meth : Method} {c : Code} {H : Heap} {locs : List Loc} {Q : State → Prop} {g : Cx} {P' : Option Value → Mem → Prop} {pc : Nat} {ls : Array Slot} {rest st0 : List Value} {a : Array Value}
    (hr : va_Run p l e R s m args below meth c H locs 0 0 0 0 (F0 m pc ls st0) rest (QC g P' a) (inW g)) (hS : va_S (inW g) s.heap H locs)
    (kk : ∀ (v : Option Value) (M' : Mem) (H1 : Heap) (locs1 : List Loc), P' v M' → va_P g.2.1 cls (wl g M') H1 → va_S (inW g) s.heap H1 locs1 → W p l e R s m args below meth c H1 locs1 0 0 Q (F0 m (pc + 3) ls (v.toList ++ rest))) : W p l e R s m args below meth c H locs 0 0 Q (F0 m pc ls st0) := by
  intro T hT X
  obtain ⟨v, st₀, t, T', L, h0, X', hL, e1, e2, ⟨⟨r, M', hv, hp, hb⟩, hz, hk⟩, st⟩ := hr T hT X
  cases hv
  rw [h0] at hz hk
  obtain ⟨t2, a1, b1⟩ := kk v M' T'.heap (locs ++ L) hp (by rw [e1]; exact hb)
    ⟨Nat.le_trans hS.1 (by rw [e1]; exact hz), fun q h1 h2 => by rw [e1, hk q (Nat.lt_of_lt_of_le h1 hS.1) h2]; exact hS.2.1 q h1 h2, fun q hq => by
      rcases List.mem_append.mp hq with h | h
      · exact hS.2.2 q h
      · exact hL q h⟩ T' rfl X'
  exact ⟨t2, st t2 a1, b1⟩
theorem A_blind {g : Cx} {M : Mem} {as : List Value} : FrameBlind (va_Pc as (fun U => va_P g.2.1 cls (wl g M) U.heap ∧ va_K g.2.1 cls (tysG g) U ∧ DJ g ∧ ST g (inW g) U U.heap)) := fun a U gf mk q => by
  obtain ⟨q0, q1, q2, q3, q4⟩ := q
  exact ⟨q0, q1, va_K.moved (u := U) (U := U.calling gf mk a) (Vm.Alike.refl U.vm) q2, q3, ST.same (u := U) rfl q4⟩
theorem A_pre {g : Cx} {M : Mem} {as : List Value} {s : State} {H : Heap} {locs : List Loc} (hK : va_K g.2.1 cls (tysG g) s) (hJ : DJ g) (hT : ST g (inW g) s s.heap) (hP : va_P g.2.1 cls (wl g M) H) (hS : va_S (inW g) s.heap H locs) : ∀ U : State, U.heap = H → s.WarmedH U.vm → va_Pc as (fun U => va_P g.2.1 cls (wl g M) U.heap ∧ va_K g.2.1 cls (tysG g) U ∧ DJ g ∧ ST g (inW g) U U.heap) as.toArray U := fun U hU hW =>
  ⟨rfl, by rw [hU]; exact hP, va_K.moved hW.alike hK, hJ, by rw [hU]; exact hT.go hW hS.2.1⟩
def MB (y : MethodName) (cy : ByteArray) (ny : Nat) (ry : Option FieldType) (n : Nat) : Prop := Cond.initialized y.cls ∈ gd ∧ Cond.code y cy ny ry ∈ gd ∧ (y.cls ≠ "java/lang/invoke/MethodHandle" ∧ y.cls ≠ "java/lang/invoke/VarHandle" ∧ (parseMethodDescriptor y.desc).map (fun d => d.parameters.length) = some n)
def MI (y : MethodName) : Prop := Cond.instanceMethod y ∈ gd ∧ Cond.selects y.cls y y ∈ gd
section CALLS
variable {l : Launch} {g : Cx} {own : String} {cc : ByteArray} {nL : Nat} {ret : Option FieldType} {R : Room} {P : Option Value → Mem → Prop} {pc n : Nat} {lv : List (Option Value)} {st : List Value} {M : Mem}
variable {y : MethodName} {cy : ByteArray} {ny : Nat} {ry : Option FieldType} {fr lo : Nat} {as rest : List Value} {P' : Option Value → Mem → Prop}
theorem A_callV {idx : Nat} {b : Nat} (hd : di cc pc (.invokevirtual idx) 3 n) (hl0 : Cond.methodLink own idx y ∈ gd) (hb0 : MB y cy ny ry as.length) (hi : MI y)
    (hrc : ∀ (s : State) (H : Heap), va_K g.2.1 cls (tysG g) s → va_P g.2.1 cls (wl g M) H → ∃ cellB : Cell, H[b]? = some cellB ∧ cellB.vm.isStatics = false ∧ s.vm.findClass y.cls = some cellB.cls)
    (hR : fr + 1 ≤ R.frames ∧ 8 + (ny + 11) + lo ≤ R.locals) (hst : (rest.map fun v => v.category).sum ≤ 8) (hC : CT l g y cy ny ry fr lo (.ref b :: as) M P')
    (k : ∀ (v : Option Value) (M' : Mem), P' v M' → AT l g own cc nL ret R P n lv (v.toList ++ rest) M') : AT l g own cc nL ret R P pc lv (as.reverse ++ .ref b :: rest) M := fun p e s m args below meth c H locs ls C hP hS hl => by
  obtain ⟨hd, rfl⟩ := hd
  have hts := C.2.2.2.2.2.2.1
  have hG : GoodIn gd (wsV own idx y.cls y (Cond.code y cy ny ry :: gd)) := by
    intro w hw
    unfold wsV at hw
    simp only [List.mem_append, List.mem_cons, List.not_mem_nil, or_false] at hw
    rcases hw with (rfl | rfl | rfl | rfl) | (rfl | hw)
    · exact gd_good hl0
    · exact gd_good hi.1
    · exact gd_good hi.2
    · exact gd_good hb0.1
    · exact gd_good hb0.2.1
    · exact gd_good hw
  refine A_core (va_runV (As := as) (rest := rest) (Ts := gd) (C := y.cls) ⟨C.1, C.2.1, C.2.2.2.1, C.2.2.2.2.1, hts⟩ hC (cwV as.length hts hG rfl rfl rfl ⟨rfl, hb0.2.2⟩ hR) ⟨A_blind, hrc s H C.2.2.2.2.2.2.2.1 hP, A_pre (as := .ref b :: as) C.2.2.2.2.2.2.2.1 C.2.2.2.2.2.2.2.2.1 C.2.2.2.2.2.2.2.2.2 hP hS⟩ rfl rfl hl.1 rfl (lv_room hst) hd ⟨Nat.zero_le _, Nat.zero_le _⟩) hS (fun v M' H1 locs1 h1 h2 h3 => ?_)
  exact k v M' h1 p e s m args below meth c H1 locs1 ls C h2 h3 hl
theorem A_rc {q ci : Nat} {fs : Cx → Mem → List Value} {r : vw_C} (hq : OB q ci fs) (hc : cls[ci]? = some r) : ∀ (s : State) (H : Heap), va_K g.2.1 cls (tysG g) s → va_P g.2.1 cls (wl g M) H → ∃ cellB : Cell, H[g.1 q]? = some cellB ∧ cellB.vm.isStatics = false ∧ s.vm.findClass r.1 = some cellB.cls := fun s H hK hP => va_recv hK hP hc (hq g M)
theorem A_callS {idx : Nat} (hd : di cc pc (.invokestatic idx) 3 n) (hl0 : Cond.methodLink own idx y ∈ gd) (hb0 : MB y cy ny ry as.length) (hi : Cond.static y ∈ gd)
    (hR : fr + 1 ≤ R.frames ∧ 8 + (ny + 11) + lo ≤ R.locals) (hst : (rest.map fun v => v.category).sum ≤ 8) (hC : CT l g y cy ny ry fr lo as M P')
    (k : ∀ (v : Option Value) (M' : Mem), P' v M' → AT l g own cc nL ret R P n lv (v.toList ++ rest) M') : AT l g own cc nL ret R P pc lv (as.reverse ++ rest) M := fun p e s m args below meth c H locs ls C hP hS hl => by
  obtain ⟨hd, rfl⟩ := hd
  have hts := C.2.2.2.2.2.2.1
  have hG : GoodIn gd (va_wsS own idx y (Cond.code y cy ny ry :: gd)) := by
    intro w hw
    unfold va_wsS at hw
    simp only [List.mem_append, List.mem_cons, List.not_mem_nil, or_false] at hw
    rcases hw with (rfl | rfl | rfl) | (rfl | hw)
    · exact gd_good hl0
    · exact gd_good hi
    · exact gd_good hb0.1
    · exact gd_good hb0.2.1
    · exact gd_good hw
  refine A_core (va_runS (As := as) (rest := rest) (Ts := gd) ⟨C.1, C.2.1, C.2.2.2.1, C.2.2.2.2.1, hts⟩ hC (va_cwS as.length hts hG rfl rfl rfl hb0.2.2 hR) ⟨A_blind, A_pre C.2.2.2.2.2.2.2.1 C.2.2.2.2.2.2.2.2.1 C.2.2.2.2.2.2.2.2.2 hP hS⟩ rfl rfl hl.1 rfl (lv_room hst) hd ⟨Nat.zero_le _, Nat.zero_le _⟩) hS (fun v M' H1 locs1 h1 h2 h3 => ?_)
  exact k v M' h1 p e s m args below meth c H1 locs1 ls C h2 h3 hl
theorem A_callN {idx : Nat} {host : String} (hd : di cc pc (.invokestatic idx) 3 n) (hl0 : Cond.methodLinkNest own idx y host ∈ nestW) (hb0 : MB y cy ny ry as.length) (hi : Cond.static y ∈ gd)
    (hR : fr + 1 ≤ R.frames ∧ 8 + (ny + 11) + lo ≤ R.locals) (hst : (rest.map fun v => v.category).sum ≤ 8) (hC : CT l g y cy ny ry fr lo as M P')
    (k : ∀ (v : Option Value) (M' : Mem), P' v M' → AT l g own cc nL ret R P n lv (v.toList ++ rest) M') : AT l g own cc nL ret R P pc lv (as.reverse ++ rest) M := fun p e s m args below meth c H locs ls C hP hS hl => by
  obtain ⟨hd, rfl⟩ := hd
  have hts := C.2.2.2.2.2.2.1
  have hT := C.2.2.2.2.2.2.2.2.2
  have hG : GoodIn gd (Cond.code y cy ny ry :: gd) := by
    intro w hw
    rcases List.mem_cons.mp hw with rfl | hw
    · exact gd_good hb0.2.1
    · exact gd_good hw
  refine A_core (va_runSN (As := as) (rest := rest) (Ts := gd) ⟨C.1, C.2.1, C.2.2.2.1, C.2.2.2.2.1, hts⟩ hC ⟨va_cnB as.length hts hG rfl rfl rfl (hT.2.2.2.2.2.2.1 _ hl0) (hts _ hb0.1) hb0.2.2 hR, hts _ hi, trivial⟩ ⟨A_blind, A_pre C.2.2.2.2.2.2.2.1 C.2.2.2.2.2.2.2.2.1 C.2.2.2.2.2.2.2.2.2 hP hS⟩ rfl rfl hl.1 rfl (lv_room hst) hd ⟨Nat.zero_le _, Nat.zero_le _⟩) hS (fun v M' H1 locs1 h1 h2 h3 => ?_)
  exact k v M' h1 p e s m args below meth c H1 locs1 ls C h2 h3 hl
theorem A_callV0 {idx q ci : Nat} {fs : Cx → Mem → List Value} {r : vw_C} (hd : di cc pc (.invokevirtual idx) 3 n) (hl0 : Cond.methodLink own idx y ∈ gd) (hb0 : MB y cy ny ry 0) (hi : MI y) (hq : OB q ci fs) (hc : cls[ci]? = some r) (hr : r.1 = y.cls) (hR : fr + 1 ≤ R.frames ∧ 8 + (ny + 11) + lo ≤ R.locals) (hst : (rest.map fun v => v.category).sum ≤ 8) (hC : CT l g y cy ny ry fr lo (.ref (g.1 q) :: []) M P') (k : ∀ (v : Option Value) (M' : Mem), P' v M' → AT l g own cc nL ret R P n lv (v.toList ++ rest) M') : AT l g own cc nL ret R P pc lv (.ref (g.1 q) :: rest) M := A_callV (as := []) hd hl0 hb0 hi (hr ▸ A_rc hq hc) hR hst hC k
theorem A_callS0 {idx : Nat} (hd : di cc pc (.invokestatic idx) 3 n) (hl0 : Cond.methodLink own idx y ∈ gd) (hb0 : MB y cy ny ry 0) (hi : Cond.static y ∈ gd) (hR : fr + 1 ≤ R.frames ∧ 8 + (ny + 11) + lo ≤ R.locals) (hst : (rest.map fun v => v.category).sum ≤ 8) (hC : CT l g y cy ny ry fr lo [] M P') (k : ∀ (v : Option Value) (M' : Mem), P' v M' → AT l g own cc nL ret R P n lv (v.toList ++ rest) M') : AT l g own cc nL ret R P pc lv (rest) M := A_callS (as := []) hd hl0 hb0 hi hR hst hC k
theorem A_callN0 {idx : Nat} {host : String} (hd : di cc pc (.invokestatic idx) 3 n) (hl0 : Cond.methodLinkNest own idx y host ∈ nestW) (hb0 : MB y cy ny ry 0) (hi : Cond.static y ∈ gd) (hR : fr + 1 ≤ R.frames ∧ 8 + (ny + 11) + lo ≤ R.locals) (hst : (rest.map fun v => v.category).sum ≤ 8) (hC : CT l g y cy ny ry fr lo [] M P') (k : ∀ (v : Option Value) (M' : Mem), P' v M' → AT l g own cc nL ret R P n lv (v.toList ++ rest) M') : AT l g own cc nL ret R P pc lv (rest) M := A_callN (as := []) hd hl0 hb0 hi hR hst hC k
theorem A_callV1 {idx q ci : Nat} {fs : Cx → Mem → List Value} {r : vw_C} {x1 : Value} (hd : di cc pc (.invokevirtual idx) 3 n) (hl0 : Cond.methodLink own idx y ∈ gd) (hb0 : MB y cy ny ry 1) (hi : MI y) (hq : OB q ci fs) (hc : cls[ci]? = some r) (hr : r.1 = y.cls) (hR : fr + 1 ≤ R.frames ∧ 8 + (ny + 11) + lo ≤ R.locals) (hst : (rest.map fun v => v.category).sum ≤ 8) (hC : CT l g y cy ny ry fr lo (.ref (g.1 q) :: [x1]) M P') (k : ∀ (v : Option Value) (M' : Mem), P' v M' → AT l g own cc nL ret R P n lv (v.toList ++ rest) M') : AT l g own cc nL ret R P pc lv (x1 :: .ref (g.1 q) :: rest) M := A_callV (as := [x1]) hd hl0 hb0 hi (hr ▸ A_rc hq hc) hR hst hC k
theorem A_callS1 {idx : Nat} {x1 : Value} (hd : di cc pc (.invokestatic idx) 3 n) (hl0 : Cond.methodLink own idx y ∈ gd) (hb0 : MB y cy ny ry 1) (hi : Cond.static y ∈ gd) (hR : fr + 1 ≤ R.frames ∧ 8 + (ny + 11) + lo ≤ R.locals) (hst : (rest.map fun v => v.category).sum ≤ 8) (hC : CT l g y cy ny ry fr lo [x1] M P') (k : ∀ (v : Option Value) (M' : Mem), P' v M' → AT l g own cc nL ret R P n lv (v.toList ++ rest) M') : AT l g own cc nL ret R P pc lv (x1 :: rest) M := A_callS (as := [x1]) hd hl0 hb0 hi hR hst hC k
theorem A_callN1 {idx : Nat} {host : String} {x1 : Value} (hd : di cc pc (.invokestatic idx) 3 n) (hl0 : Cond.methodLinkNest own idx y host ∈ nestW) (hb0 : MB y cy ny ry 1) (hi : Cond.static y ∈ gd) (hR : fr + 1 ≤ R.frames ∧ 8 + (ny + 11) + lo ≤ R.locals) (hst : (rest.map fun v => v.category).sum ≤ 8) (hC : CT l g y cy ny ry fr lo [x1] M P') (k : ∀ (v : Option Value) (M' : Mem), P' v M' → AT l g own cc nL ret R P n lv (v.toList ++ rest) M') : AT l g own cc nL ret R P pc lv (x1 :: rest) M := A_callN (as := [x1]) hd hl0 hb0 hi hR hst hC k
theorem A_callV2 {idx q ci : Nat} {fs : Cx → Mem → List Value} {r : vw_C} {x1 x2 : Value} (hd : di cc pc (.invokevirtual idx) 3 n) (hl0 : Cond.methodLink own idx y ∈ gd) (hb0 : MB y cy ny ry 2) (hi : MI y) (hq : OB q ci fs) (hc : cls[ci]? = some r) (hr : r.1 = y.cls) (hR : fr + 1 ≤ R.frames ∧ 8 + (ny + 11) + lo ≤ R.locals) (hst : (rest.map fun v => v.category).sum ≤ 8) (hC : CT l g y cy ny ry fr lo (.ref (g.1 q) :: [x1, x2]) M P') (k : ∀ (v : Option Value) (M' : Mem), P' v M' → AT l g own cc nL ret R P n lv (v.toList ++ rest) M') : AT l g own cc nL ret R P pc lv (x2 :: x1 :: .ref (g.1 q) :: rest) M := A_callV (as := [x1, x2]) hd hl0 hb0 hi (hr ▸ A_rc hq hc) hR hst hC k
theorem A_callS2 {idx : Nat} {x1 x2 : Value} (hd : di cc pc (.invokestatic idx) 3 n) (hl0 : Cond.methodLink own idx y ∈ gd) (hb0 : MB y cy ny ry 2) (hi : Cond.static y ∈ gd) (hR : fr + 1 ≤ R.frames ∧ 8 + (ny + 11) + lo ≤ R.locals) (hst : (rest.map fun v => v.category).sum ≤ 8) (hC : CT l g y cy ny ry fr lo [x1, x2] M P') (k : ∀ (v : Option Value) (M' : Mem), P' v M' → AT l g own cc nL ret R P n lv (v.toList ++ rest) M') : AT l g own cc nL ret R P pc lv (x2 :: x1 :: rest) M := A_callS (as := [x1, x2]) hd hl0 hb0 hi hR hst hC k
theorem A_callN2 {idx : Nat} {host : String} {x1 x2 : Value} (hd : di cc pc (.invokestatic idx) 3 n) (hl0 : Cond.methodLinkNest own idx y host ∈ nestW) (hb0 : MB y cy ny ry 2) (hi : Cond.static y ∈ gd) (hR : fr + 1 ≤ R.frames ∧ 8 + (ny + 11) + lo ≤ R.locals) (hst : (rest.map fun v => v.category).sum ≤ 8) (hC : CT l g y cy ny ry fr lo [x1, x2] M P') (k : ∀ (v : Option Value) (M' : Mem), P' v M' → AT l g own cc nL ret R P n lv (v.toList ++ rest) M') : AT l g own cc nL ret R P pc lv (x2 :: x1 :: rest) M := A_callN (as := [x1, x2]) hd hl0 hb0 hi hR hst hC k
theorem A_callV3 {idx q ci : Nat} {fs : Cx → Mem → List Value} {r : vw_C} {x1 x2 x3 : Value} (hd : di cc pc (.invokevirtual idx) 3 n) (hl0 : Cond.methodLink own idx y ∈ gd) (hb0 : MB y cy ny ry 3) (hi : MI y) (hq : OB q ci fs) (hc : cls[ci]? = some r) (hr : r.1 = y.cls) (hR : fr + 1 ≤ R.frames ∧ 8 + (ny + 11) + lo ≤ R.locals) (hst : (rest.map fun v => v.category).sum ≤ 8) (hC : CT l g y cy ny ry fr lo (.ref (g.1 q) :: [x1, x2, x3]) M P') (k : ∀ (v : Option Value) (M' : Mem), P' v M' → AT l g own cc nL ret R P n lv (v.toList ++ rest) M') : AT l g own cc nL ret R P pc lv (x3 :: x2 :: x1 :: .ref (g.1 q) :: rest) M := A_callV (as := [x1, x2, x3]) hd hl0 hb0 hi (hr ▸ A_rc hq hc) hR hst hC k
theorem A_callS3 {idx : Nat} {x1 x2 x3 : Value} (hd : di cc pc (.invokestatic idx) 3 n) (hl0 : Cond.methodLink own idx y ∈ gd) (hb0 : MB y cy ny ry 3) (hi : Cond.static y ∈ gd) (hR : fr + 1 ≤ R.frames ∧ 8 + (ny + 11) + lo ≤ R.locals) (hst : (rest.map fun v => v.category).sum ≤ 8) (hC : CT l g y cy ny ry fr lo [x1, x2, x3] M P') (k : ∀ (v : Option Value) (M' : Mem), P' v M' → AT l g own cc nL ret R P n lv (v.toList ++ rest) M') : AT l g own cc nL ret R P pc lv (x3 :: x2 :: x1 :: rest) M := A_callS (as := [x1, x2, x3]) hd hl0 hb0 hi hR hst hC k
theorem A_callN3 {idx : Nat} {host : String} {x1 x2 x3 : Value} (hd : di cc pc (.invokestatic idx) 3 n) (hl0 : Cond.methodLinkNest own idx y host ∈ nestW) (hb0 : MB y cy ny ry 3) (hi : Cond.static y ∈ gd) (hR : fr + 1 ≤ R.frames ∧ 8 + (ny + 11) + lo ≤ R.locals) (hst : (rest.map fun v => v.category).sum ≤ 8) (hC : CT l g y cy ny ry fr lo [x1, x2, x3] M P') (k : ∀ (v : Option Value) (M' : Mem), P' v M' → AT l g own cc nL ret R P n lv (v.toList ++ rest) M') : AT l g own cc nL ret R P pc lv (x3 :: x2 :: x1 :: rest) M := A_callN (as := [x1, x2, x3]) hd hl0 hb0 hi hR hst hC k
theorem A_callV4 {idx q ci : Nat} {fs : Cx → Mem → List Value} {r : vw_C} {x1 x2 x3 x4 : Value} (hd : di cc pc (.invokevirtual idx) 3 n) (hl0 : Cond.methodLink own idx y ∈ gd) (hb0 : MB y cy ny ry 4) (hi : MI y) (hq : OB q ci fs) (hc : cls[ci]? = some r) (hr : r.1 = y.cls) (hR : fr + 1 ≤ R.frames ∧ 8 + (ny + 11) + lo ≤ R.locals) (hst : (rest.map fun v => v.category).sum ≤ 8) (hC : CT l g y cy ny ry fr lo (.ref (g.1 q) :: [x1, x2, x3, x4]) M P') (k : ∀ (v : Option Value) (M' : Mem), P' v M' → AT l g own cc nL ret R P n lv (v.toList ++ rest) M') : AT l g own cc nL ret R P pc lv (x4 :: x3 :: x2 :: x1 :: .ref (g.1 q) :: rest) M := A_callV (as := [x1, x2, x3, x4]) hd hl0 hb0 hi (hr ▸ A_rc hq hc) hR hst hC k
theorem A_callS4 {idx : Nat} {x1 x2 x3 x4 : Value} (hd : di cc pc (.invokestatic idx) 3 n) (hl0 : Cond.methodLink own idx y ∈ gd) (hb0 : MB y cy ny ry 4) (hi : Cond.static y ∈ gd) (hR : fr + 1 ≤ R.frames ∧ 8 + (ny + 11) + lo ≤ R.locals) (hst : (rest.map fun v => v.category).sum ≤ 8) (hC : CT l g y cy ny ry fr lo [x1, x2, x3, x4] M P') (k : ∀ (v : Option Value) (M' : Mem), P' v M' → AT l g own cc nL ret R P n lv (v.toList ++ rest) M') : AT l g own cc nL ret R P pc lv (x4 :: x3 :: x2 :: x1 :: rest) M := A_callS (as := [x1, x2, x3, x4]) hd hl0 hb0 hi hR hst hC k
theorem A_callN4 {idx : Nat} {host : String} {x1 x2 x3 x4 : Value} (hd : di cc pc (.invokestatic idx) 3 n) (hl0 : Cond.methodLinkNest own idx y host ∈ nestW) (hb0 : MB y cy ny ry 4) (hi : Cond.static y ∈ gd) (hR : fr + 1 ≤ R.frames ∧ 8 + (ny + 11) + lo ≤ R.locals) (hst : (rest.map fun v => v.category).sum ≤ 8) (hC : CT l g y cy ny ry fr lo [x1, x2, x3, x4] M P') (k : ∀ (v : Option Value) (M' : Mem), P' v M' → AT l g own cc nL ret R P n lv (v.toList ++ rest) M') : AT l g own cc nL ret R P pc lv (x4 :: x3 :: x2 :: x1 :: rest) M := A_callN (as := [x1, x2, x3, x4]) hd hl0 hb0 hi hR hst hC k
end CALLS
end
section
/-! THE FUNCTIONS' OWN WORDS: what a method answers and leaves; none where it would throw -/
abbrev Ret : Type := Int32 × Mem
def FU : Nat := 20000
def bI {α : Type} (e : α) (K : α → Option Ret) : Option Ret := K e
def bM (e : Mem) (K : Mem → Option Ret) : Option Ret := K e
def bE (f : Option Ret) (K : Int32 → Mem → Option Ret) : Option Ret := match f with
  | some (r, M) => K r M
  | none => none
def gV (i : Int32) (n : Nat) (k : Option Ret) : Option Ret := if i < 0 ∨ n ≤ i.toNatClampNeg then none else k
def gN (y : Int32) (k : Option Ret) : Option Ret := if y = 0 then none else k
def gNL (y : Int64) (k : Option Ret) : Option Ret := if y = 0 then none else k
def gZ (v : Int32) (k : Option Ret) : Option Ret := if v &&& 1 = v then k else none
def jn {α : Type} (K : α) (f : α → Option Ret) : Option Ret := f K
def PI (r : Int32) (Mr : Mem) : Option Value → Mem → Prop := fun v M => v = some (.int r) ∧ M = Mr
def PV (r : Int32) (Mr : Mem) : Option Value → Mem → Prop := fun v M => v = none ∧ M = Mr
theorem bI_go {α : Type} {e : α} {K : α → Option Ret} {q : Ret} {G : α → Prop} (h : bI e K = some q) (k : ∀ x : α, K x = some q → G x) : G e := k e h
theorem bM_go {e : Mem} {K : Mem → Option Ret} {q : Ret} {G : Mem → Prop} (h : bM e K = some q) (k : ∀ x : Mem, K x = some q → G x) : G e := k e h
theorem bE_go {f : Option Ret} {K : Int32 → Mem → Option Ret} {q : Ret} (h : bE f K = some q) : ∃ (r : Int32) (M : Mem), f = some (r, M) ∧ K r M = some q := by
  cases f with
  | none => cases h
  | some z => exact ⟨z.1, z.2, rfl, h⟩
theorem gV_go {i : Int32} {n : Nat} {k : Option Ret} {q : Ret} (h : gV i n k = some q) : vp_in i n ∧ k = some q := by
  unfold gV at h
  split at h
  · cases h
  · exact ⟨by assumption, h⟩
theorem gN_go {y : Int32} {k : Option Ret} {q : Ret} (h : gN y k = some q) : ¬ y = 0 ∧ k = some q := by
  unfold gN at h
  split at h
  · cases h
  · exact ⟨by assumption, h⟩
theorem gNL_go {y : Int64} {k : Option Ret} {q : Ret} (h : gNL y k = some q) : ¬ y = 0 ∧ k = some q := by
  unfold gNL at h
  split at h
  · cases h
  · exact ⟨by assumption, h⟩
theorem gZ_go {v : Int32} {k : Option Ret} {q : Ret} (h : gZ v k = some q) : v &&& 1 = v ∧ k = some q := by
  unfold gZ at h
  split at h
  · exact ⟨by assumption, h⟩
  · cases h
theorem gT_go {c : Prop} [Decidable c] {a b : Option Ret} {q : Option Ret} (hc : c) (h : (if c then a else b) = q) : a = q := by rw [if_pos hc] at h; exact h
theorem gF_go {c : Prop} [Decidable c] {a b : Option Ret} {q : Option Ret} (hc : ¬ c) (h : (if c then a else b) = q) : b = q := by rw [if_neg hc] at h; exact h
theorem jn_go {α : Type} {K : α} {f : α → Option Ret} {q : Ret} (h : jn K f = some q) : ∃ J : α, J = K ∧ f J = some q := ⟨K, rfl, h⟩
theorem pI_go {e r : Int32} {M Mr : Mem} (h : some (e, M) = some (r, Mr)) : PI r Mr (some (.int e)) M := by cases h; exact ⟨rfl, rfl⟩
theorem pV_go {e r : Int32} {M Mr : Mem} (h : some (e, M) = some (r, Mr)) : PV r Mr none M := by cases h; exact ⟨rfl, rfl⟩
theorem vp_lt {i : Int32} {n : Nat} (h : vp_in i n) : i.toNatClampNeg < n := Nat.not_le.mp fun q => h (Or.inr q)
section CI
variable {l : Launch} {g : Cx} {own : String} {cc : ByteArray} {nL : Nat} {ret : Option FieldType} {R : Room} {P : Option Value → Mem → Prop} {pc n : Nat} {lv : List (Option Value)} {M : Mem}
variable {y : MethodName} {cy : ByteArray} {ny : Nat} {ry : Option FieldType} {fr lo : Nat} {rest : List Value} {r1 : Int32} {M1 : Mem}
theorem A_cVi0 {idx q ci : Nat} {fs : Cx → Mem → List Value} {r : vw_C} (hd : di cc pc (.invokevirtual idx) 3 n) (hl0 : Cond.methodLink own idx y ∈ gd) (hb0 : MB y cy ny ry 0) (hi : MI y) (hq : OB q ci fs) (hc : cls[ci]? = some r) (hr : r.1 = y.cls) (hR : fr + 1 ≤ R.frames ∧ 8 + (ny + 11) + lo ≤ R.locals) (hst : (rest.map fun v => v.category).sum ≤ 8) (hC : CT l g y cy ny ry fr lo (.ref (g.1 q) :: []) M (PI r1 M1)) (k : AT l g own cc nL ret R P n lv (.int r1 :: rest) M1) : AT l g own cc nL ret R P pc lv (.ref (g.1 q) :: rest) M := A_callV0 hd hl0 hb0 hi hq hc hr hR hst hC (fun v M' e => by obtain ⟨rfl, rfl⟩ := e; exact k)
theorem A_cSi0 {idx : Nat} (hd : di cc pc (.invokestatic idx) 3 n) (hl0 : Cond.methodLink own idx y ∈ gd) (hb0 : MB y cy ny ry 0) (hi : Cond.static y ∈ gd) (hR : fr + 1 ≤ R.frames ∧ 8 + (ny + 11) + lo ≤ R.locals) (hst : (rest.map fun v => v.category).sum ≤ 8) (hC : CT l g y cy ny ry fr lo [] M (PI r1 M1)) (k : AT l g own cc nL ret R P n lv (.int r1 :: rest) M1) : AT l g own cc nL ret R P pc lv (rest) M := A_callS0 hd hl0 hb0 hi hR hst hC (fun v M' e => by obtain ⟨rfl, rfl⟩ := e; exact k)
theorem A_cNi0 {idx : Nat} {host : String} (hd : di cc pc (.invokestatic idx) 3 n) (hl0 : Cond.methodLinkNest own idx y host ∈ nestW) (hb0 : MB y cy ny ry 0) (hi : Cond.static y ∈ gd) (hR : fr + 1 ≤ R.frames ∧ 8 + (ny + 11) + lo ≤ R.locals) (hst : (rest.map fun v => v.category).sum ≤ 8) (hC : CT l g y cy ny ry fr lo [] M (PI r1 M1)) (k : AT l g own cc nL ret R P n lv (.int r1 :: rest) M1) : AT l g own cc nL ret R P pc lv (rest) M := A_callN0 hd hl0 hb0 hi hR hst hC (fun v M' e => by obtain ⟨rfl, rfl⟩ := e; exact k)
theorem A_cVv0 {idx q ci : Nat} {fs : Cx → Mem → List Value} {r : vw_C} (hd : di cc pc (.invokevirtual idx) 3 n) (hl0 : Cond.methodLink own idx y ∈ gd) (hb0 : MB y cy ny ry 0) (hi : MI y) (hq : OB q ci fs) (hc : cls[ci]? = some r) (hr : r.1 = y.cls) (hR : fr + 1 ≤ R.frames ∧ 8 + (ny + 11) + lo ≤ R.locals) (hst : (rest.map fun v => v.category).sum ≤ 8) (hC : CT l g y cy ny ry fr lo (.ref (g.1 q) :: []) M (PV r1 M1)) (k : AT l g own cc nL ret R P n lv (rest) M1) : AT l g own cc nL ret R P pc lv (.ref (g.1 q) :: rest) M := A_callV0 hd hl0 hb0 hi hq hc hr hR hst hC (fun v M' e => by obtain ⟨rfl, rfl⟩ := e; exact k)
theorem A_cSv0 {idx : Nat} (hd : di cc pc (.invokestatic idx) 3 n) (hl0 : Cond.methodLink own idx y ∈ gd) (hb0 : MB y cy ny ry 0) (hi : Cond.static y ∈ gd) (hR : fr + 1 ≤ R.frames ∧ 8 + (ny + 11) + lo ≤ R.locals) (hst : (rest.map fun v => v.category).sum ≤ 8) (hC : CT l g y cy ny ry fr lo [] M (PV r1 M1)) (k : AT l g own cc nL ret R P n lv (rest) M1) : AT l g own cc nL ret R P pc lv (rest) M := A_callS0 hd hl0 hb0 hi hR hst hC (fun v M' e => by obtain ⟨rfl, rfl⟩ := e; exact k)
theorem A_cNv0 {idx : Nat} {host : String} (hd : di cc pc (.invokestatic idx) 3 n) (hl0 : Cond.methodLinkNest own idx y host ∈ nestW) (hb0 : MB y cy ny ry 0) (hi : Cond.static y ∈ gd) (hR : fr + 1 ≤ R.frames ∧ 8 + (ny + 11) + lo ≤ R.locals) (hst : (rest.map fun v => v.category).sum ≤ 8) (hC : CT l g y cy ny ry fr lo [] M (PV r1 M1)) (k : AT l g own cc nL ret R P n lv (rest) M1) : AT l g own cc nL ret R P pc lv (rest) M := A_callN0 hd hl0 hb0 hi hR hst hC (fun v M' e => by obtain ⟨rfl, rfl⟩ := e; exact k)
theorem A_cVi1 {idx q ci : Nat} {fs : Cx → Mem → List Value} {r : vw_C} {x1 : Value} (hd : di cc pc (.invokevirtual idx) 3 n) (hl0 : Cond.methodLink own idx y ∈ gd) (hb0 : MB y cy ny ry 1) (hi : MI y) (hq : OB q ci fs) (hc : cls[ci]? = some r) (hr : r.1 = y.cls) (hR : fr + 1 ≤ R.frames ∧ 8 + (ny + 11) + lo ≤ R.locals) (hst : (rest.map fun v => v.category).sum ≤ 8) (hC : CT l g y cy ny ry fr lo (.ref (g.1 q) :: [x1]) M (PI r1 M1)) (k : AT l g own cc nL ret R P n lv (.int r1 :: rest) M1) : AT l g own cc nL ret R P pc lv (x1 :: .ref (g.1 q) :: rest) M := A_callV1 hd hl0 hb0 hi hq hc hr hR hst hC (fun v M' e => by obtain ⟨rfl, rfl⟩ := e; exact k)
theorem A_cSi1 {idx : Nat} {x1 : Value} (hd : di cc pc (.invokestatic idx) 3 n) (hl0 : Cond.methodLink own idx y ∈ gd) (hb0 : MB y cy ny ry 1) (hi : Cond.static y ∈ gd) (hR : fr + 1 ≤ R.frames ∧ 8 + (ny + 11) + lo ≤ R.locals) (hst : (rest.map fun v => v.category).sum ≤ 8) (hC : CT l g y cy ny ry fr lo [x1] M (PI r1 M1)) (k : AT l g own cc nL ret R P n lv (.int r1 :: rest) M1) : AT l g own cc nL ret R P pc lv (x1 :: rest) M := A_callS1 hd hl0 hb0 hi hR hst hC (fun v M' e => by obtain ⟨rfl, rfl⟩ := e; exact k)
theorem A_cNi1 {idx : Nat} {host : String} {x1 : Value} (hd : di cc pc (.invokestatic idx) 3 n) (hl0 : Cond.methodLinkNest own idx y host ∈ nestW) (hb0 : MB y cy ny ry 1) (hi : Cond.static y ∈ gd) (hR : fr + 1 ≤ R.frames ∧ 8 + (ny + 11) + lo ≤ R.locals) (hst : (rest.map fun v => v.category).sum ≤ 8) (hC : CT l g y cy ny ry fr lo [x1] M (PI r1 M1)) (k : AT l g own cc nL ret R P n lv (.int r1 :: rest) M1) : AT l g own cc nL ret R P pc lv (x1 :: rest) M := A_callN1 hd hl0 hb0 hi hR hst hC (fun v M' e => by obtain ⟨rfl, rfl⟩ := e; exact k)
theorem A_cVv1 {idx q ci : Nat} {fs : Cx → Mem → List Value} {r : vw_C} {x1 : Value} (hd : di cc pc (.invokevirtual idx) 3 n) (hl0 : Cond.methodLink own idx y ∈ gd) (hb0 : MB y cy ny ry 1) (hi : MI y) (hq : OB q ci fs) (hc : cls[ci]? = some r) (hr : r.1 = y.cls) (hR : fr + 1 ≤ R.frames ∧ 8 + (ny + 11) + lo ≤ R.locals) (hst : (rest.map fun v => v.category).sum ≤ 8) (hC : CT l g y cy ny ry fr lo (.ref (g.1 q) :: [x1]) M (PV r1 M1)) (k : AT l g own cc nL ret R P n lv (rest) M1) : AT l g own cc nL ret R P pc lv (x1 :: .ref (g.1 q) :: rest) M := A_callV1 hd hl0 hb0 hi hq hc hr hR hst hC (fun v M' e => by obtain ⟨rfl, rfl⟩ := e; exact k)
theorem A_cSv1 {idx : Nat} {x1 : Value} (hd : di cc pc (.invokestatic idx) 3 n) (hl0 : Cond.methodLink own idx y ∈ gd) (hb0 : MB y cy ny ry 1) (hi : Cond.static y ∈ gd) (hR : fr + 1 ≤ R.frames ∧ 8 + (ny + 11) + lo ≤ R.locals) (hst : (rest.map fun v => v.category).sum ≤ 8) (hC : CT l g y cy ny ry fr lo [x1] M (PV r1 M1)) (k : AT l g own cc nL ret R P n lv (rest) M1) : AT l g own cc nL ret R P pc lv (x1 :: rest) M := A_callS1 hd hl0 hb0 hi hR hst hC (fun v M' e => by obtain ⟨rfl, rfl⟩ := e; exact k)
theorem A_cNv1 {idx : Nat} {host : String} {x1 : Value} (hd : di cc pc (.invokestatic idx) 3 n) (hl0 : Cond.methodLinkNest own idx y host ∈ nestW) (hb0 : MB y cy ny ry 1) (hi : Cond.static y ∈ gd) (hR : fr + 1 ≤ R.frames ∧ 8 + (ny + 11) + lo ≤ R.locals) (hst : (rest.map fun v => v.category).sum ≤ 8) (hC : CT l g y cy ny ry fr lo [x1] M (PV r1 M1)) (k : AT l g own cc nL ret R P n lv (rest) M1) : AT l g own cc nL ret R P pc lv (x1 :: rest) M := A_callN1 hd hl0 hb0 hi hR hst hC (fun v M' e => by obtain ⟨rfl, rfl⟩ := e; exact k)
theorem A_cVi2 {idx q ci : Nat} {fs : Cx → Mem → List Value} {r : vw_C} {x1 x2 : Value} (hd : di cc pc (.invokevirtual idx) 3 n) (hl0 : Cond.methodLink own idx y ∈ gd) (hb0 : MB y cy ny ry 2) (hi : MI y) (hq : OB q ci fs) (hc : cls[ci]? = some r) (hr : r.1 = y.cls) (hR : fr + 1 ≤ R.frames ∧ 8 + (ny + 11) + lo ≤ R.locals) (hst : (rest.map fun v => v.category).sum ≤ 8) (hC : CT l g y cy ny ry fr lo (.ref (g.1 q) :: [x1, x2]) M (PI r1 M1)) (k : AT l g own cc nL ret R P n lv (.int r1 :: rest) M1) : AT l g own cc nL ret R P pc lv (x2 :: x1 :: .ref (g.1 q) :: rest) M := A_callV2 hd hl0 hb0 hi hq hc hr hR hst hC (fun v M' e => by obtain ⟨rfl, rfl⟩ := e; exact k)
theorem A_cSi2 {idx : Nat} {x1 x2 : Value} (hd : di cc pc (.invokestatic idx) 3 n) (hl0 : Cond.methodLink own idx y ∈ gd) (hb0 : MB y cy ny ry 2) (hi : Cond.static y ∈ gd) (hR : fr + 1 ≤ R.frames ∧ 8 + (ny + 11) + lo ≤ R.locals) (hst : (rest.map fun v => v.category).sum ≤ 8) (hC : CT l g y cy ny ry fr lo [x1, x2] M (PI r1 M1)) (k : AT l g own cc nL ret R P n lv (.int r1 :: rest) M1) : AT l g own cc nL ret R P pc lv (x2 :: x1 :: rest) M := A_callS2 hd hl0 hb0 hi hR hst hC (fun v M' e => by obtain ⟨rfl, rfl⟩ := e; exact k)
theorem A_cNi2 {idx : Nat} {host : String} {x1 x2 : Value} (hd : di cc pc (.invokestatic idx) 3 n) (hl0 : Cond.methodLinkNest own idx y host ∈ nestW) (hb0 : MB y cy ny ry 2) (hi : Cond.static y ∈ gd) (hR : fr + 1 ≤ R.frames ∧ 8 + (ny + 11) + lo ≤ R.locals) (hst : (rest.map fun v => v.category).sum ≤ 8) (hC : CT l g y cy ny ry fr lo [x1, x2] M (PI r1 M1)) (k : AT l g own cc nL ret R P n lv (.int r1 :: rest) M1) : AT l g own cc nL ret R P pc lv (x2 :: x1 :: rest) M := A_callN2 hd hl0 hb0 hi hR hst hC (fun v M' e => by obtain ⟨rfl, rfl⟩ := e; exact k)
theorem A_cVv2 {idx q ci : Nat} {fs : Cx → Mem → List Value} {r : vw_C} {x1 x2 : Value} (hd : di cc pc (.invokevirtual idx) 3 n) (hl0 : Cond.methodLink own idx y ∈ gd) (hb0 : MB y cy ny ry 2) (hi : MI y) (hq : OB q ci fs) (hc : cls[ci]? = some r) (hr : r.1 = y.cls) (hR : fr + 1 ≤ R.frames ∧ 8 + (ny + 11) + lo ≤ R.locals) (hst : (rest.map fun v => v.category).sum ≤ 8) (hC : CT l g y cy ny ry fr lo (.ref (g.1 q) :: [x1, x2]) M (PV r1 M1)) (k : AT l g own cc nL ret R P n lv (rest) M1) : AT l g own cc nL ret R P pc lv (x2 :: x1 :: .ref (g.1 q) :: rest) M := A_callV2 hd hl0 hb0 hi hq hc hr hR hst hC (fun v M' e => by obtain ⟨rfl, rfl⟩ := e; exact k)
theorem A_cSv2 {idx : Nat} {x1 x2 : Value} (hd : di cc pc (.invokestatic idx) 3 n) (hl0 : Cond.methodLink own idx y ∈ gd) (hb0 : MB y cy ny ry 2) (hi : Cond.static y ∈ gd) (hR : fr + 1 ≤ R.frames ∧ 8 + (ny + 11) + lo ≤ R.locals) (hst : (rest.map fun v => v.category).sum ≤ 8) (hC : CT l g y cy ny ry fr lo [x1, x2] M (PV r1 M1)) (k : AT l g own cc nL ret R P n lv (rest) M1) : AT l g own cc nL ret R P pc lv (x2 :: x1 :: rest) M := A_callS2 hd hl0 hb0 hi hR hst hC (fun v M' e => by obtain ⟨rfl, rfl⟩ := e; exact k)
theorem A_cNv2 {idx : Nat} {host : String} {x1 x2 : Value} (hd : di cc pc (.invokestatic idx) 3 n) (hl0 : Cond.methodLinkNest own idx y host ∈ nestW) (hb0 : MB y cy ny ry 2) (hi : Cond.static y ∈ gd) (hR : fr + 1 ≤ R.frames ∧ 8 + (ny + 11) + lo ≤ R.locals) (hst : (rest.map fun v => v.category).sum ≤ 8) (hC : CT l g y cy ny ry fr lo [x1, x2] M (PV r1 M1)) (k : AT l g own cc nL ret R P n lv (rest) M1) : AT l g own cc nL ret R P pc lv (x2 :: x1 :: rest) M := A_callN2 hd hl0 hb0 hi hR hst hC (fun v M' e => by obtain ⟨rfl, rfl⟩ := e; exact k)
theorem A_cVi3 {idx q ci : Nat} {fs : Cx → Mem → List Value} {r : vw_C} {x1 x2 x3 : Value} (hd : di cc pc (.invokevirtual idx) 3 n) (hl0 : Cond.methodLink own idx y ∈ gd) (hb0 : MB y cy ny ry 3) (hi : MI y) (hq : OB q ci fs) (hc : cls[ci]? = some r) (hr : r.1 = y.cls) (hR : fr + 1 ≤ R.frames ∧ 8 + (ny + 11) + lo ≤ R.locals) (hst : (rest.map fun v => v.category).sum ≤ 8) (hC : CT l g y cy ny ry fr lo (.ref (g.1 q) :: [x1, x2, x3]) M (PI r1 M1)) (k : AT l g own cc nL ret R P n lv (.int r1 :: rest) M1) : AT l g own cc nL ret R P pc lv (x3 :: x2 :: x1 :: .ref (g.1 q) :: rest) M := A_callV3 hd hl0 hb0 hi hq hc hr hR hst hC (fun v M' e => by obtain ⟨rfl, rfl⟩ := e; exact k)
theorem A_cSi3 {idx : Nat} {x1 x2 x3 : Value} (hd : di cc pc (.invokestatic idx) 3 n) (hl0 : Cond.methodLink own idx y ∈ gd) (hb0 : MB y cy ny ry 3) (hi : Cond.static y ∈ gd) (hR : fr + 1 ≤ R.frames ∧ 8 + (ny + 11) + lo ≤ R.locals) (hst : (rest.map fun v => v.category).sum ≤ 8) (hC : CT l g y cy ny ry fr lo [x1, x2, x3] M (PI r1 M1)) (k : AT l g own cc nL ret R P n lv (.int r1 :: rest) M1) : AT l g own cc nL ret R P pc lv (x3 :: x2 :: x1 :: rest) M := A_callS3 hd hl0 hb0 hi hR hst hC (fun v M' e => by obtain ⟨rfl, rfl⟩ := e; exact k)
theorem A_cNi3 {idx : Nat} {host : String} {x1 x2 x3 : Value} (hd : di cc pc (.invokestatic idx) 3 n) (hl0 : Cond.methodLinkNest own idx y host ∈ nestW) (hb0 : MB y cy ny ry 3) (hi : Cond.static y ∈ gd) (hR : fr + 1 ≤ R.frames ∧ 8 + (ny + 11) + lo ≤ R.locals) (hst : (rest.map fun v => v.category).sum ≤ 8) (hC : CT l g y cy ny ry fr lo [x1, x2, x3] M (PI r1 M1)) (k : AT l g own cc nL ret R P n lv (.int r1 :: rest) M1) : AT l g own cc nL ret R P pc lv (x3 :: x2 :: x1 :: rest) M := A_callN3 hd hl0 hb0 hi hR hst hC (fun v M' e => by obtain ⟨rfl, rfl⟩ := e; exact k)
theorem A_cVv3 {idx q ci : Nat} {fs : Cx → Mem → List Value} {r : vw_C} {x1 x2 x3 : Value} (hd : di cc pc (.invokevirtual idx) 3 n) (hl0 : Cond.methodLink own idx y ∈ gd) (hb0 : MB y cy ny ry 3) (hi : MI y) (hq : OB q ci fs) (hc : cls[ci]? = some r) (hr : r.1 = y.cls) (hR : fr + 1 ≤ R.frames ∧ 8 + (ny + 11) + lo ≤ R.locals) (hst : (rest.map fun v => v.category).sum ≤ 8) (hC : CT l g y cy ny ry fr lo (.ref (g.1 q) :: [x1, x2, x3]) M (PV r1 M1)) (k : AT l g own cc nL ret R P n lv (rest) M1) : AT l g own cc nL ret R P pc lv (x3 :: x2 :: x1 :: .ref (g.1 q) :: rest) M := A_callV3 hd hl0 hb0 hi hq hc hr hR hst hC (fun v M' e => by obtain ⟨rfl, rfl⟩ := e; exact k)
theorem A_cSv3 {idx : Nat} {x1 x2 x3 : Value} (hd : di cc pc (.invokestatic idx) 3 n) (hl0 : Cond.methodLink own idx y ∈ gd) (hb0 : MB y cy ny ry 3) (hi : Cond.static y ∈ gd) (hR : fr + 1 ≤ R.frames ∧ 8 + (ny + 11) + lo ≤ R.locals) (hst : (rest.map fun v => v.category).sum ≤ 8) (hC : CT l g y cy ny ry fr lo [x1, x2, x3] M (PV r1 M1)) (k : AT l g own cc nL ret R P n lv (rest) M1) : AT l g own cc nL ret R P pc lv (x3 :: x2 :: x1 :: rest) M := A_callS3 hd hl0 hb0 hi hR hst hC (fun v M' e => by obtain ⟨rfl, rfl⟩ := e; exact k)
theorem A_cNv3 {idx : Nat} {host : String} {x1 x2 x3 : Value} (hd : di cc pc (.invokestatic idx) 3 n) (hl0 : Cond.methodLinkNest own idx y host ∈ nestW) (hb0 : MB y cy ny ry 3) (hi : Cond.static y ∈ gd) (hR : fr + 1 ≤ R.frames ∧ 8 + (ny + 11) + lo ≤ R.locals) (hst : (rest.map fun v => v.category).sum ≤ 8) (hC : CT l g y cy ny ry fr lo [x1, x2, x3] M (PV r1 M1)) (k : AT l g own cc nL ret R P n lv (rest) M1) : AT l g own cc nL ret R P pc lv (x3 :: x2 :: x1 :: rest) M := A_callN3 hd hl0 hb0 hi hR hst hC (fun v M' e => by obtain ⟨rfl, rfl⟩ := e; exact k)
theorem A_cVi4 {idx q ci : Nat} {fs : Cx → Mem → List Value} {r : vw_C} {x1 x2 x3 x4 : Value} (hd : di cc pc (.invokevirtual idx) 3 n) (hl0 : Cond.methodLink own idx y ∈ gd) (hb0 : MB y cy ny ry 4) (hi : MI y) (hq : OB q ci fs) (hc : cls[ci]? = some r) (hr : r.1 = y.cls) (hR : fr + 1 ≤ R.frames ∧ 8 + (ny + 11) + lo ≤ R.locals) (hst : (rest.map fun v => v.category).sum ≤ 8) (hC : CT l g y cy ny ry fr lo (.ref (g.1 q) :: [x1, x2, x3, x4]) M (PI r1 M1)) (k : AT l g own cc nL ret R P n lv (.int r1 :: rest) M1) : AT l g own cc nL ret R P pc lv (x4 :: x3 :: x2 :: x1 :: .ref (g.1 q) :: rest) M := A_callV4 hd hl0 hb0 hi hq hc hr hR hst hC (fun v M' e => by obtain ⟨rfl, rfl⟩ := e; exact k)
theorem A_cSi4 {idx : Nat} {x1 x2 x3 x4 : Value} (hd : di cc pc (.invokestatic idx) 3 n) (hl0 : Cond.methodLink own idx y ∈ gd) (hb0 : MB y cy ny ry 4) (hi : Cond.static y ∈ gd) (hR : fr + 1 ≤ R.frames ∧ 8 + (ny + 11) + lo ≤ R.locals) (hst : (rest.map fun v => v.category).sum ≤ 8) (hC : CT l g y cy ny ry fr lo [x1, x2, x3, x4] M (PI r1 M1)) (k : AT l g own cc nL ret R P n lv (.int r1 :: rest) M1) : AT l g own cc nL ret R P pc lv (x4 :: x3 :: x2 :: x1 :: rest) M := A_callS4 hd hl0 hb0 hi hR hst hC (fun v M' e => by obtain ⟨rfl, rfl⟩ := e; exact k)
theorem A_cNi4 {idx : Nat} {host : String} {x1 x2 x3 x4 : Value} (hd : di cc pc (.invokestatic idx) 3 n) (hl0 : Cond.methodLinkNest own idx y host ∈ nestW) (hb0 : MB y cy ny ry 4) (hi : Cond.static y ∈ gd) (hR : fr + 1 ≤ R.frames ∧ 8 + (ny + 11) + lo ≤ R.locals) (hst : (rest.map fun v => v.category).sum ≤ 8) (hC : CT l g y cy ny ry fr lo [x1, x2, x3, x4] M (PI r1 M1)) (k : AT l g own cc nL ret R P n lv (.int r1 :: rest) M1) : AT l g own cc nL ret R P pc lv (x4 :: x3 :: x2 :: x1 :: rest) M := A_callN4 hd hl0 hb0 hi hR hst hC (fun v M' e => by obtain ⟨rfl, rfl⟩ := e; exact k)
theorem A_cVv4 {idx q ci : Nat} {fs : Cx → Mem → List Value} {r : vw_C} {x1 x2 x3 x4 : Value} (hd : di cc pc (.invokevirtual idx) 3 n) (hl0 : Cond.methodLink own idx y ∈ gd) (hb0 : MB y cy ny ry 4) (hi : MI y) (hq : OB q ci fs) (hc : cls[ci]? = some r) (hr : r.1 = y.cls) (hR : fr + 1 ≤ R.frames ∧ 8 + (ny + 11) + lo ≤ R.locals) (hst : (rest.map fun v => v.category).sum ≤ 8) (hC : CT l g y cy ny ry fr lo (.ref (g.1 q) :: [x1, x2, x3, x4]) M (PV r1 M1)) (k : AT l g own cc nL ret R P n lv (rest) M1) : AT l g own cc nL ret R P pc lv (x4 :: x3 :: x2 :: x1 :: .ref (g.1 q) :: rest) M := A_callV4 hd hl0 hb0 hi hq hc hr hR hst hC (fun v M' e => by obtain ⟨rfl, rfl⟩ := e; exact k)
theorem A_cSv4 {idx : Nat} {x1 x2 x3 x4 : Value} (hd : di cc pc (.invokestatic idx) 3 n) (hl0 : Cond.methodLink own idx y ∈ gd) (hb0 : MB y cy ny ry 4) (hi : Cond.static y ∈ gd) (hR : fr + 1 ≤ R.frames ∧ 8 + (ny + 11) + lo ≤ R.locals) (hst : (rest.map fun v => v.category).sum ≤ 8) (hC : CT l g y cy ny ry fr lo [x1, x2, x3, x4] M (PV r1 M1)) (k : AT l g own cc nL ret R P n lv (rest) M1) : AT l g own cc nL ret R P pc lv (x4 :: x3 :: x2 :: x1 :: rest) M := A_callS4 hd hl0 hb0 hi hR hst hC (fun v M' e => by obtain ⟨rfl, rfl⟩ := e; exact k)
theorem A_cNv4 {idx : Nat} {host : String} {x1 x2 x3 x4 : Value} (hd : di cc pc (.invokestatic idx) 3 n) (hl0 : Cond.methodLinkNest own idx y host ∈ nestW) (hb0 : MB y cy ny ry 4) (hi : Cond.static y ∈ gd) (hR : fr + 1 ≤ R.frames ∧ 8 + (ny + 11) + lo ≤ R.locals) (hst : (rest.map fun v => v.category).sum ≤ 8) (hC : CT l g y cy ny ry fr lo [x1, x2, x3, x4] M (PV r1 M1)) (k : AT l g own cc nL ret R P n lv (rest) M1) : AT l g own cc nL ret R P pc lv (x4 :: x3 :: x2 :: x1 :: rest) M := A_callN4 hd hl0 hb0 hi hR hst hC (fun v M' e => by obtain ⟨rfl, rfl⟩ := e; exact k)
end CI
end
section
/-! THE WORDS that the rows take, each by its place among the tables -/
set_option maxRecDepth 100000 in
theorem lay_X0 : ∀ w ∈ u_ws RX0 TX0 4, w ∈ gd := by
  show ∀ w ∈ [u_lay RX0 TX0 0, u_lay RX0 TX0 1, u_lay RX0 TX0 2, u_lay RX0 TX0 3], w ∈ gd
  exact List.forall_mem_cons.mpr ⟨gd_2 26 (by decide +kernel), List.forall_mem_cons.mpr ⟨gd_2 28 (by decide +kernel), List.forall_mem_cons.mpr ⟨gd_2 30 (by decide +kernel), List.forall_mem_cons.mpr ⟨gd_2 32 (by decide +kernel), fun _ h => absurd h List.not_mem_nil⟩⟩⟩⟩
set_option maxRecDepth 100000 in
theorem lay_X1 : ∀ w ∈ u_ws RX1 TX1 4, w ∈ gd := by
  show ∀ w ∈ [u_lay RX1 TX1 0, u_lay RX1 TX1 1, u_lay RX1 TX1 2, u_lay RX1 TX1 3], w ∈ gd
  exact List.forall_mem_cons.mpr ⟨gd_1 37 (by decide +kernel), List.forall_mem_cons.mpr ⟨gd_1 39 (by decide +kernel), List.forall_mem_cons.mpr ⟨gd_1 41 (by decide +kernel), List.forall_mem_cons.mpr ⟨gd_1 43 (by decide +kernel), fun _ h => absurd h List.not_mem_nil⟩⟩⟩⟩
set_option maxRecDepth 100000 in
theorem lay_X2 : ∀ w ∈ u_ws RX2 TX2 5, w ∈ gd := by
  show ∀ w ∈ [u_lay RX2 TX2 0, u_lay RX2 TX2 1, u_lay RX2 TX2 2, u_lay RX2 TX2 3, u_lay RX2 TX2 4], w ∈ gd
  exact List.forall_mem_cons.mpr ⟨gd_1 113 (by decide +kernel), List.forall_mem_cons.mpr ⟨gd_1 115 (by decide +kernel), List.forall_mem_cons.mpr ⟨gd_1 117 (by decide +kernel), List.forall_mem_cons.mpr ⟨gd_1 119 (by decide +kernel), List.forall_mem_cons.mpr ⟨gd_1 121 (by decide +kernel), fun _ h => absurd h List.not_mem_nil⟩⟩⟩⟩⟩
set_option maxRecDepth 100000 in
theorem lay_X3 : ∀ w ∈ u_ws RX3 TX3 3, w ∈ gd := by
  show ∀ w ∈ [u_lay RX3 TX3 0, u_lay RX3 TX3 1, u_lay RX3 TX3 2], w ∈ gd
  exact List.forall_mem_cons.mpr ⟨gd_2 9 (by decide +kernel), List.forall_mem_cons.mpr ⟨gd_2 11 (by decide +kernel), List.forall_mem_cons.mpr ⟨gd_2 13 (by decide +kernel), fun _ h => absurd h List.not_mem_nil⟩⟩⟩
set_option maxRecDepth 100000 in
theorem lay_X4 : ∀ w ∈ u_ws RX4 TX4 7, w ∈ gd := by
  show ∀ w ∈ [u_lay RX4 TX4 0, u_lay RX4 TX4 1, u_lay RX4 TX4 2, u_lay RX4 TX4 3, u_lay RX4 TX4 4, u_lay RX4 TX4 5, u_lay RX4 TX4 6], w ∈ gd
  exact List.forall_mem_cons.mpr ⟨gd_1 138 (by decide +kernel), List.forall_mem_cons.mpr ⟨gd_1 140 (by decide +kernel), List.forall_mem_cons.mpr ⟨gd_1 142 (by decide +kernel), List.forall_mem_cons.mpr ⟨gd_1 144 (by decide +kernel), List.forall_mem_cons.mpr ⟨gd_1 146 (by decide +kernel), List.forall_mem_cons.mpr ⟨gd_1 148 (by decide +kernel), List.forall_mem_cons.mpr ⟨gd_1 150 (by decide +kernel), fun _ h => absurd h List.not_mem_nil⟩⟩⟩⟩⟩⟩⟩
set_option maxRecDepth 100000 in
theorem lay_X5 : ∀ w ∈ u_ws RX5 TX5 5, w ∈ gd := by
  show ∀ w ∈ [u_lay RX5 TX5 0, u_lay RX5 TX5 1, u_lay RX5 TX5 2, u_lay RX5 TX5 3, u_lay RX5 TX5 4], w ∈ gd
  exact List.forall_mem_cons.mpr ⟨gd_1 164 (by decide +kernel), List.forall_mem_cons.mpr ⟨gd_1 166 (by decide +kernel), List.forall_mem_cons.mpr ⟨gd_1 168 (by decide +kernel), List.forall_mem_cons.mpr ⟨gd_1 170 (by decide +kernel), List.forall_mem_cons.mpr ⟨gd_1 172 (by decide +kernel), fun _ h => absurd h List.not_mem_nil⟩⟩⟩⟩⟩
set_option maxRecDepth 100000 in
theorem lay_X6 : ∀ w ∈ u_ws RX6 TX6 6, w ∈ gd := by
  show ∀ w ∈ [u_lay RX6 TX6 0, u_lay RX6 TX6 1, u_lay RX6 TX6 2, u_lay RX6 TX6 3, u_lay RX6 TX6 4, u_lay RX6 TX6 5], w ∈ gd
  exact List.forall_mem_cons.mpr ⟨gd_2 50 (by decide +kernel), List.forall_mem_cons.mpr ⟨gd_2 52 (by decide +kernel), List.forall_mem_cons.mpr ⟨gd_2 54 (by decide +kernel), List.forall_mem_cons.mpr ⟨gd_2 56 (by decide +kernel), List.forall_mem_cons.mpr ⟨gd_2 58 (by decide +kernel), List.forall_mem_cons.mpr ⟨gd_2 60 (by decide +kernel), fun _ h => absurd h List.not_mem_nil⟩⟩⟩⟩⟩⟩
set_option maxRecDepth 100000 in
theorem lay_X7 : ∀ w ∈ u_ws RX7 TX7 5, w ∈ gd := by
  show ∀ w ∈ [u_lay RX7 TX7 0, u_lay RX7 TX7 1, u_lay RX7 TX7 2, u_lay RX7 TX7 3, u_lay RX7 TX7 4], w ∈ gd
  exact List.forall_mem_cons.mpr ⟨gd_1 229 (by decide +kernel), List.forall_mem_cons.mpr ⟨gd_1 231 (by decide +kernel), List.forall_mem_cons.mpr ⟨gd_1 233 (by decide +kernel), List.forall_mem_cons.mpr ⟨gd_1 235 (by decide +kernel), List.forall_mem_cons.mpr ⟨gd_1 237 (by decide +kernel), fun _ h => absurd h List.not_mem_nil⟩⟩⟩⟩⟩
set_option maxRecDepth 100000 in
theorem lay_X8 : ∀ w ∈ u_ws RX8 TX8 16, w ∈ gd := by
  show ∀ w ∈ [u_lay RX8 TX8 0, u_lay RX8 TX8 1, u_lay RX8 TX8 2, u_lay RX8 TX8 3, u_lay RX8 TX8 4, u_lay RX8 TX8 5, u_lay RX8 TX8 6, u_lay RX8 TX8 7, u_lay RX8 TX8 8, u_lay RX8 TX8 9, u_lay RX8 TX8 10, u_lay RX8 TX8 11, u_lay RX8 TX8 12, u_lay RX8 TX8 13, u_lay RX8 TX8 14, u_lay RX8 TX8 15], w ∈ gd
  exact List.forall_mem_cons.mpr ⟨gd_1 69 (by decide +kernel), List.forall_mem_cons.mpr ⟨gd_1 71 (by decide +kernel), List.forall_mem_cons.mpr ⟨gd_1 73 (by decide +kernel), List.forall_mem_cons.mpr ⟨gd_1 75 (by decide +kernel), List.forall_mem_cons.mpr ⟨gd_1 77 (by decide +kernel), List.forall_mem_cons.mpr ⟨gd_1 79 (by decide +kernel), List.forall_mem_cons.mpr ⟨gd_1 81 (by decide +kernel), List.forall_mem_cons.mpr ⟨gd_1 83 (by decide +kernel), List.forall_mem_cons.mpr ⟨gd_1 85 (by decide +kernel), List.forall_mem_cons.mpr ⟨gd_1 87 (by decide +kernel), List.forall_mem_cons.mpr ⟨gd_1 89 (by decide +kernel), List.forall_mem_cons.mpr ⟨gd_1 91 (by decide +kernel), List.forall_mem_cons.mpr ⟨gd_1 93 (by decide +kernel), List.forall_mem_cons.mpr ⟨gd_1 95 (by decide +kernel), List.forall_mem_cons.mpr ⟨gd_1 97 (by decide +kernel), List.forall_mem_cons.mpr ⟨gd_1 99 (by decide +kernel), fun _ h => absurd h List.not_mem_nil⟩⟩⟩⟩⟩⟩⟩⟩⟩⟩⟩⟩⟩⟩⟩⟩
set_option maxRecDepth 100000 in
theorem lay_X9 : ∀ w ∈ u_ws RX9 TX9 11, w ∈ gd := by
  show ∀ w ∈ [u_lay RX9 TX9 0, u_lay RX9 TX9 1, u_lay RX9 TX9 2, u_lay RX9 TX9 3, u_lay RX9 TX9 4, u_lay RX9 TX9 5, u_lay RX9 TX9 6, u_lay RX9 TX9 7, u_lay RX9 TX9 8, u_lay RX9 TX9 9, u_lay RX9 TX9 10], w ∈ gd
  exact List.forall_mem_cons.mpr ⟨gd_1 195 (by decide +kernel), List.forall_mem_cons.mpr ⟨gd_1 197 (by decide +kernel), List.forall_mem_cons.mpr ⟨gd_1 199 (by decide +kernel), List.forall_mem_cons.mpr ⟨gd_1 201 (by decide +kernel), List.forall_mem_cons.mpr ⟨gd_1 203 (by decide +kernel), List.forall_mem_cons.mpr ⟨gd_1 205 (by decide +kernel), List.forall_mem_cons.mpr ⟨gd_1 207 (by decide +kernel), List.forall_mem_cons.mpr ⟨gd_1 209 (by decide +kernel), List.forall_mem_cons.mpr ⟨gd_1 211 (by decide +kernel), List.forall_mem_cons.mpr ⟨gd_1 213 (by decide +kernel), List.forall_mem_cons.mpr ⟨gd_1 215 (by decide +kernel), fun _ h => absurd h List.not_mem_nil⟩⟩⟩⟩⟩⟩⟩⟩⟩⟩⟩
set_option maxRecDepth 100000 in
theorem lay_X10 : ∀ w ∈ u_ws RX10 TX10 14, w ∈ gd := by
  show ∀ w ∈ [u_lay RX10 TX10 0, u_lay RX10 TX10 1, u_lay RX10 TX10 2, u_lay RX10 TX10 3, u_lay RX10 TX10 4, u_lay RX10 TX10 5, u_lay RX10 TX10 6, u_lay RX10 TX10 7, u_lay RX10 TX10 8, u_lay RX10 TX10 9, u_lay RX10 TX10 10, u_lay RX10 TX10 11, u_lay RX10 TX10 12, u_lay RX10 TX10 13], w ∈ gd
  exact List.forall_mem_cons.mpr ⟨gd_2 77 (by decide +kernel), List.forall_mem_cons.mpr ⟨gd_2 79 (by decide +kernel), List.forall_mem_cons.mpr ⟨gd_2 81 (by decide +kernel), List.forall_mem_cons.mpr ⟨gd_2 83 (by decide +kernel), List.forall_mem_cons.mpr ⟨gd_2 85 (by decide +kernel), List.forall_mem_cons.mpr ⟨gd_2 87 (by decide +kernel), List.forall_mem_cons.mpr ⟨gd_2 89 (by decide +kernel), List.forall_mem_cons.mpr ⟨gd_2 91 (by decide +kernel), List.forall_mem_cons.mpr ⟨gd_2 93 (by decide +kernel), List.forall_mem_cons.mpr ⟨gd_2 95 (by decide +kernel), List.forall_mem_cons.mpr ⟨gd_2 97 (by decide +kernel), List.forall_mem_cons.mpr ⟨gd_2 99 (by decide +kernel), List.forall_mem_cons.mpr ⟨gd_2 101 (by decide +kernel), List.forall_mem_cons.mpr ⟨gd_2 103 (by decide +kernel), fun _ h => absurd h List.not_mem_nil⟩⟩⟩⟩⟩⟩⟩⟩⟩⟩⟩⟩⟩⟩
set_option maxRecDepth 100000 in
theorem lay_X11 : ∀ w ∈ u_ws RX11 TX11 49, w ∈ gd := by
  show ∀ w ∈ [u_lay RX11 TX11 0, u_lay RX11 TX11 1, u_lay RX11 TX11 2, u_lay RX11 TX11 3, u_lay RX11 TX11 4, u_lay RX11 TX11 5, u_lay RX11 TX11 6, u_lay RX11 TX11 7, u_lay RX11 TX11 8, u_lay RX11 TX11 9, u_lay RX11 TX11 10, u_lay RX11 TX11 11, u_lay RX11 TX11 12, u_lay RX11 TX11 13, u_lay RX11 TX11 14, u_lay RX11 TX11 15, u_lay RX11 TX11 16, u_lay RX11 TX11 17, u_lay RX11 TX11 18, u_lay RX11 TX11 19, u_lay RX11 TX11 20, u_lay RX11 TX11 21, u_lay RX11 TX11 22, u_lay RX11 TX11 23, u_lay RX11 TX11 24, u_lay RX11 TX11 25, u_lay RX11 TX11 26, u_lay RX11 TX11 27, u_lay RX11 TX11 28, u_lay RX11 TX11 29, u_lay RX11 TX11 30, u_lay RX11 TX11 31, u_lay RX11 TX11 32, u_lay RX11 TX11 33, u_lay RX11 TX11 34, u_lay RX11 TX11 35, u_lay RX11 TX11 36, u_lay RX11 TX11 37, u_lay RX11 TX11 38, u_lay RX11 TX11 39, u_lay RX11 TX11 40, u_lay RX11 TX11 41, u_lay RX11 TX11 42, u_lay RX11 TX11 43, u_lay RX11 TX11 44, u_lay RX11 TX11 45, u_lay RX11 TX11 46, u_lay RX11 TX11 47, u_lay RX11 TX11 48], w ∈ gd
  exact List.forall_mem_cons.mpr ⟨gd_5 103 (by decide +kernel), List.forall_mem_cons.mpr ⟨gd_5 105 (by decide +kernel), List.forall_mem_cons.mpr ⟨gd_5 107 (by decide +kernel), List.forall_mem_cons.mpr ⟨gd_5 109 (by decide +kernel), List.forall_mem_cons.mpr ⟨gd_5 111 (by decide +kernel), List.forall_mem_cons.mpr ⟨gd_5 113 (by decide +kernel), List.forall_mem_cons.mpr ⟨gd_5 115 (by decide +kernel), List.forall_mem_cons.mpr ⟨gd_5 117 (by decide +kernel), List.forall_mem_cons.mpr ⟨gd_5 119 (by decide +kernel), List.forall_mem_cons.mpr ⟨gd_5 121 (by decide +kernel), List.forall_mem_cons.mpr ⟨gd_5 123 (by decide +kernel), List.forall_mem_cons.mpr ⟨gd_5 125 (by decide +kernel), List.forall_mem_cons.mpr ⟨gd_5 127 (by decide +kernel), List.forall_mem_cons.mpr ⟨gd_5 129 (by decide +kernel), List.forall_mem_cons.mpr ⟨gd_5 131 (by decide +kernel), List.forall_mem_cons.mpr ⟨gd_5 133 (by decide +kernel), List.forall_mem_cons.mpr ⟨gd_5 135 (by decide +kernel), List.forall_mem_cons.mpr ⟨gd_5 137 (by decide +kernel), List.forall_mem_cons.mpr ⟨gd_5 139 (by decide +kernel), List.forall_mem_cons.mpr ⟨gd_5 141 (by decide +kernel), List.forall_mem_cons.mpr ⟨gd_5 143 (by decide +kernel), List.forall_mem_cons.mpr ⟨gd_5 145 (by decide +kernel), List.forall_mem_cons.mpr ⟨gd_5 147 (by decide +kernel), List.forall_mem_cons.mpr ⟨gd_5 149 (by decide +kernel), List.forall_mem_cons.mpr ⟨gd_5 151 (by decide +kernel), List.forall_mem_cons.mpr ⟨gd_5 153 (by decide +kernel), List.forall_mem_cons.mpr ⟨gd_5 155 (by decide +kernel), List.forall_mem_cons.mpr ⟨gd_5 157 (by decide +kernel), List.forall_mem_cons.mpr ⟨gd_5 159 (by decide +kernel), List.forall_mem_cons.mpr ⟨gd_5 161 (by decide +kernel), List.forall_mem_cons.mpr ⟨gd_5 163 (by decide +kernel), List.forall_mem_cons.mpr ⟨gd_5 165 (by decide +kernel), List.forall_mem_cons.mpr ⟨gd_5 167 (by decide +kernel), List.forall_mem_cons.mpr ⟨gd_5 169 (by decide +kernel), List.forall_mem_cons.mpr ⟨gd_5 171 (by decide +kernel), List.forall_mem_cons.mpr ⟨gd_5 173 (by decide +kernel), List.forall_mem_cons.mpr ⟨gd_5 175 (by decide +kernel), List.forall_mem_cons.mpr ⟨gd_5 177 (by decide +kernel), List.forall_mem_cons.mpr ⟨gd_5 179 (by decide +kernel), List.forall_mem_cons.mpr ⟨gd_5 181 (by decide +kernel), List.forall_mem_cons.mpr ⟨gd_5 183 (by decide +kernel), List.forall_mem_cons.mpr ⟨gd_5 185 (by decide +kernel), List.forall_mem_cons.mpr ⟨gd_5 187 (by decide +kernel), List.forall_mem_cons.mpr ⟨gd_5 189 (by decide +kernel), List.forall_mem_cons.mpr ⟨gd_5 191 (by decide +kernel), List.forall_mem_cons.mpr ⟨gd_5 193 (by decide +kernel), List.forall_mem_cons.mpr ⟨gd_5 195 (by decide +kernel), List.forall_mem_cons.mpr ⟨gd_5 197 (by decide +kernel), List.forall_mem_cons.mpr ⟨gd_5 199 (by decide +kernel), fun _ h => absurd h List.not_mem_nil⟩⟩⟩⟩⟩⟩⟩⟩⟩⟩⟩⟩⟩⟩⟩⟩⟩⟩⟩⟩⟩⟩⟩⟩⟩⟩⟩⟩⟩⟩⟩⟩⟩⟩⟩⟩⟩⟩⟩⟩⟩⟩⟩⟩⟩⟩⟩⟩⟩
set_option maxRecDepth 100000 in
theorem fw_X1_11 : FW RX1 11 1 0 := ⟨RX1, TX1, 4, rfl, by decide, gd_1 33 ⟨rfl, rfl⟩, lay_X1⟩
set_option maxRecDepth 100000 in
theorem fw_X1_26 : FW RX1 26 1 1 := ⟨RX1, TX1, 4, rfl, by decide, gd_1 34 ⟨rfl, rfl⟩, lay_X1⟩
set_option maxRecDepth 100000 in
theorem pw_X1_26 : PW RX1 26 1 1 := ⟨RX1, TX1, 4, tyX1, rfl, by decide, gd_1 34 ⟨rfl, rfl⟩, lay_X1, tyX1_ok, nmX1, rfl, by decide +kernel⟩
set_option maxRecDepth 100000 in
theorem fw_X1_15 : FW RX1 15 1 2 := ⟨RX1, TX1, 4, rfl, by decide, gd_1 35 ⟨rfl, rfl⟩, lay_X1⟩
set_option maxRecDepth 100000 in
theorem pw_X1_15 : PW RX1 15 1 2 := ⟨RX1, TX1, 4, tyX1, rfl, by decide, gd_1 35 ⟨rfl, rfl⟩, lay_X1, tyX1_ok, nmX1, rfl, by decide +kernel⟩
set_option maxRecDepth 100000 in
theorem fw_X1_19 : FW RX1 19 1 3 := ⟨RX1, TX1, 4, rfl, by decide, gd_1 36 ⟨rfl, rfl⟩, lay_X1⟩
set_option maxRecDepth 100000 in
theorem pw_X1_19 : PW RX1 19 1 3 := ⟨RX1, TX1, 4, tyX1, rfl, by decide, gd_1 36 ⟨rfl, rfl⟩, lay_X1, tyX1_ok, nmX1, rfl, by decide +kernel⟩
set_option maxRecDepth 100000 in
theorem fw_X8_33 : FW RX8 33 8 0 := ⟨RX8, TX8, 16, rfl, by decide, gd_1 53 ⟨rfl, rfl⟩, lay_X8⟩
set_option maxRecDepth 100000 in
theorem fw_X8_9 : FW RX8 9 8 1 := ⟨RX8, TX8, 16, rfl, by decide, gd_1 54 ⟨rfl, rfl⟩, lay_X8⟩
set_option maxRecDepth 100000 in
theorem fw_X8_15 : FW RX8 15 8 2 := ⟨RX8, TX8, 16, rfl, by decide, gd_1 55 ⟨rfl, rfl⟩, lay_X8⟩
set_option maxRecDepth 100000 in
theorem fw_X8_37 : FW RX8 37 8 3 := ⟨RX8, TX8, 16, rfl, by decide, gd_1 56 ⟨rfl, rfl⟩, lay_X8⟩
set_option maxRecDepth 100000 in
theorem pw_X8_37 : PW RX8 37 8 3 := ⟨RX8, TX8, 16, tyX8, rfl, by decide, gd_1 56 ⟨rfl, rfl⟩, lay_X8, tyX8_ok, nmX8, rfl, by decide +kernel⟩
set_option maxRecDepth 100000 in
theorem fw_X8_18 : FW RX8 18 8 4 := ⟨RX8, TX8, 16, rfl, by decide, gd_1 57 ⟨rfl, rfl⟩, lay_X8⟩
set_option maxRecDepth 100000 in
theorem fw_X8_21 : FW RX8 21 8 5 := ⟨RX8, TX8, 16, rfl, by decide, gd_1 58 ⟨rfl, rfl⟩, lay_X8⟩
set_option maxRecDepth 100000 in
theorem fw_X8_24 : FW RX8 24 8 6 := ⟨RX8, TX8, 16, rfl, by decide, gd_1 59 ⟨rfl, rfl⟩, lay_X8⟩
set_option maxRecDepth 100000 in
theorem fw_X8_27 : FW RX8 27 8 7 := ⟨RX8, TX8, 16, rfl, by decide, gd_1 60 ⟨rfl, rfl⟩, lay_X8⟩
set_option maxRecDepth 100000 in
theorem fw_X8_41 : FW RX8 41 8 8 := ⟨RX8, TX8, 16, rfl, by decide, gd_1 61 ⟨rfl, rfl⟩, lay_X8⟩
set_option maxRecDepth 100000 in
theorem pw_X8_41 : PW RX8 41 8 8 := ⟨RX8, TX8, 16, tyX8, rfl, by decide, gd_1 61 ⟨rfl, rfl⟩, lay_X8, tyX8_ok, nmX8, rfl, by decide +kernel⟩
set_option maxRecDepth 100000 in
theorem fw_X8_30 : FW RX8 30 8 9 := ⟨RX8, TX8, 16, rfl, by decide, gd_1 62 ⟨rfl, rfl⟩, lay_X8⟩
set_option maxRecDepth 100000 in
theorem fw_X8_72 : FW RX8 72 8 10 := ⟨RX8, TX8, 16, rfl, by decide, gd_1 63 ⟨rfl, rfl⟩, lay_X8⟩
set_option maxRecDepth 100000 in
theorem pw_X8_72 : PW RX8 72 8 10 := ⟨RX8, TX8, 16, tyX8, rfl, by decide, gd_1 63 ⟨rfl, rfl⟩, lay_X8, tyX8_ok, nmX8, rfl, by decide +kernel⟩
set_option maxRecDepth 100000 in
theorem fw_X8_75 : FW RX8 75 8 11 := ⟨RX8, TX8, 16, rfl, by decide, gd_1 64 ⟨rfl, rfl⟩, lay_X8⟩
set_option maxRecDepth 100000 in
theorem pw_X8_75 : PW RX8 75 8 11 := ⟨RX8, TX8, 16, tyX8, rfl, by decide, gd_1 64 ⟨rfl, rfl⟩, lay_X8, tyX8_ok, nmX8, rfl, by decide +kernel⟩
set_option maxRecDepth 100000 in
theorem fw_X8_61 : FW RX8 61 8 12 := ⟨RX8, TX8, 16, rfl, by decide, gd_1 65 ⟨rfl, rfl⟩, lay_X8⟩
set_option maxRecDepth 100000 in
theorem pw_X8_61 : PW RX8 61 8 12 := ⟨RX8, TX8, 16, tyX8, rfl, by decide, gd_1 65 ⟨rfl, rfl⟩, lay_X8, tyX8_ok, nmX8, rfl, by decide +kernel⟩
set_option maxRecDepth 100000 in
theorem fw_X8_69 : FW RX8 69 8 13 := ⟨RX8, TX8, 16, rfl, by decide, gd_1 66 ⟨rfl, rfl⟩, lay_X8⟩
set_option maxRecDepth 100000 in
theorem pw_X8_69 : PW RX8 69 8 13 := ⟨RX8, TX8, 16, tyX8, rfl, by decide, gd_1 66 ⟨rfl, rfl⟩, lay_X8, tyX8_ok, nmX8, rfl, by decide +kernel⟩
set_option maxRecDepth 100000 in
theorem fw_X8_78 : FW RX8 78 8 14 := ⟨RX8, TX8, 16, rfl, by decide, gd_1 67 ⟨rfl, rfl⟩, lay_X8⟩
set_option maxRecDepth 100000 in
theorem pw_X8_78 : PW RX8 78 8 14 := ⟨RX8, TX8, 16, tyX8, rfl, by decide, gd_1 67 ⟨rfl, rfl⟩, lay_X8, tyX8_ok, nmX8, rfl, by decide +kernel⟩
set_option maxRecDepth 100000 in
theorem fw_X8_81 : FW RX8 81 8 15 := ⟨RX8, TX8, 16, rfl, by decide, gd_1 68 ⟨rfl, rfl⟩, lay_X8⟩
set_option maxRecDepth 100000 in
theorem pw_X8_81 : PW RX8 81 8 15 := ⟨RX8, TX8, 16, tyX8, rfl, by decide, gd_1 68 ⟨rfl, rfl⟩, lay_X8, tyX8_ok, nmX8, rfl, by decide +kernel⟩
set_option maxRecDepth 100000 in
theorem fw_X2_9 : FW RX2 9 2 0 := ⟨RX2, TX2, 5, rfl, by decide, gd_1 108 ⟨rfl, rfl⟩, lay_X2⟩
set_option maxRecDepth 100000 in
theorem fw_X2_15 : FW RX2 15 2 1 := ⟨RX2, TX2, 5, rfl, by decide, gd_1 109 ⟨rfl, rfl⟩, lay_X2⟩
set_option maxRecDepth 100000 in
theorem fw_X2_18 : FW RX2 18 2 2 := ⟨RX2, TX2, 5, rfl, by decide, gd_1 110 ⟨rfl, rfl⟩, lay_X2⟩
set_option maxRecDepth 100000 in
theorem fw_X2_21 : FW RX2 21 2 3 := ⟨RX2, TX2, 5, rfl, by decide, gd_1 111 ⟨rfl, rfl⟩, lay_X2⟩
set_option maxRecDepth 100000 in
theorem fw_X2_25 : FW RX2 25 2 4 := ⟨RX2, TX2, 5, rfl, by decide, gd_1 112 ⟨rfl, rfl⟩, lay_X2⟩
set_option maxRecDepth 100000 in
theorem pw_X2_25 : PW RX2 25 2 4 := ⟨RX2, TX2, 5, tyX2, rfl, by decide, gd_1 112 ⟨rfl, rfl⟩, lay_X2, tyX2_ok, nmX2, rfl, by decide +kernel⟩
set_option maxRecDepth 100000 in
theorem fw_X4_26 : FW RX4 26 4 0 := ⟨RX4, TX4, 7, rfl, by decide, gd_1 131 ⟨rfl, rfl⟩, lay_X4⟩
set_option maxRecDepth 100000 in
theorem fw_X4_30 : FW RX4 30 4 1 := ⟨RX4, TX4, 7, rfl, by decide, gd_1 132 ⟨rfl, rfl⟩, lay_X4⟩
set_option maxRecDepth 100000 in
theorem fw_X4_11 : FW RX4 11 4 2 := ⟨RX4, TX4, 7, rfl, by decide, gd_1 133 ⟨rfl, rfl⟩, lay_X4⟩
set_option maxRecDepth 100000 in
theorem fw_X4_15 : FW RX4 15 4 3 := ⟨RX4, TX4, 7, rfl, by decide, gd_1 134 ⟨rfl, rfl⟩, lay_X4⟩
set_option maxRecDepth 100000 in
theorem fw_X4_18 : FW RX4 18 4 4 := ⟨RX4, TX4, 7, rfl, by decide, gd_1 135 ⟨rfl, rfl⟩, lay_X4⟩
set_option maxRecDepth 100000 in
theorem fw_X4_23 : FW RX4 23 4 5 := ⟨RX4, TX4, 7, rfl, by decide, gd_1 136 ⟨rfl, rfl⟩, lay_X4⟩
set_option maxRecDepth 100000 in
theorem fw_X4_34 : FW RX4 34 4 6 := ⟨RX4, TX4, 7, rfl, by decide, gd_1 137 ⟨rfl, rfl⟩, lay_X4⟩
set_option maxRecDepth 100000 in
theorem pw_X4_34 : PW RX4 34 4 6 := ⟨RX4, TX4, 7, tyX4, rfl, by decide, gd_1 137 ⟨rfl, rfl⟩, lay_X4, tyX4_ok, nmX4, rfl, by decide +kernel⟩
set_option maxRecDepth 100000 in
theorem fw_X5_9 : FW RX5 9 5 0 := ⟨RX5, TX5, 5, rfl, by decide, gd_1 159 ⟨rfl, rfl⟩, lay_X5⟩
set_option maxRecDepth 100000 in
theorem fw_X5_15 : FW RX5 15 5 1 := ⟨RX5, TX5, 5, rfl, by decide, gd_1 160 ⟨rfl, rfl⟩, lay_X5⟩
set_option maxRecDepth 100000 in
theorem fw_X5_18 : FW RX5 18 5 2 := ⟨RX5, TX5, 5, rfl, by decide, gd_1 161 ⟨rfl, rfl⟩, lay_X5⟩
set_option maxRecDepth 100000 in
theorem fw_X5_21 : FW RX5 21 5 3 := ⟨RX5, TX5, 5, rfl, by decide, gd_1 162 ⟨rfl, rfl⟩, lay_X5⟩
set_option maxRecDepth 100000 in
theorem pw_X5_21 : PW RX5 21 5 3 := ⟨RX5, TX5, 5, tyX5, rfl, by decide, gd_1 162 ⟨rfl, rfl⟩, lay_X5, tyX5_ok, nmX5, rfl, by decide +kernel⟩
set_option maxRecDepth 100000 in
theorem fw_X5_33 : FW RX5 33 5 4 := ⟨RX5, TX5, 5, rfl, by decide, gd_1 163 ⟨rfl, rfl⟩, lay_X5⟩
set_option maxRecDepth 100000 in
theorem pw_X5_33 : PW RX5 33 5 4 := ⟨RX5, TX5, 5, tyX5, rfl, by decide, gd_1 163 ⟨rfl, rfl⟩, lay_X5, tyX5_ok, nmX5, rfl, by decide +kernel⟩
set_option maxRecDepth 100000 in
theorem fw_X9_37 : FW RX9 37 9 0 := ⟨RX9, TX9, 11, rfl, by decide, gd_1 184 ⟨rfl, rfl⟩, lay_X9⟩
set_option maxRecDepth 100000 in
theorem fw_X9_41 : FW RX9 41 9 1 := ⟨RX9, TX9, 11, rfl, by decide, gd_1 185 ⟨rfl, rfl⟩, lay_X9⟩
set_option maxRecDepth 100000 in
theorem fw_X9_11 : FW RX9 11 9 2 := ⟨RX9, TX9, 11, rfl, by decide, gd_1 186 ⟨rfl, rfl⟩, lay_X9⟩
set_option maxRecDepth 100000 in
theorem fw_X9_15 : FW RX9 15 9 3 := ⟨RX9, TX9, 11, rfl, by decide, gd_1 187 ⟨rfl, rfl⟩, lay_X9⟩
set_option maxRecDepth 100000 in
theorem fw_X9_18 : FW RX9 18 9 4 := ⟨RX9, TX9, 11, rfl, by decide, gd_1 188 ⟨rfl, rfl⟩, lay_X9⟩
set_option maxRecDepth 100000 in
theorem fw_X9_21 : FW RX9 21 9 5 := ⟨RX9, TX9, 11, rfl, by decide, gd_1 189 ⟨rfl, rfl⟩, lay_X9⟩
set_option maxRecDepth 100000 in
theorem fw_X9_24 : FW RX9 24 9 6 := ⟨RX9, TX9, 11, rfl, by decide, gd_1 190 ⟨rfl, rfl⟩, lay_X9⟩
set_option maxRecDepth 100000 in
theorem fw_X9_27 : FW RX9 27 9 7 := ⟨RX9, TX9, 11, rfl, by decide, gd_1 191 ⟨rfl, rfl⟩, lay_X9⟩
set_option maxRecDepth 100000 in
theorem fw_X9_30 : FW RX9 30 9 8 := ⟨RX9, TX9, 11, rfl, by decide, gd_1 192 ⟨rfl, rfl⟩, lay_X9⟩
set_option maxRecDepth 100000 in
theorem fw_X9_34 : FW RX9 34 9 9 := ⟨RX9, TX9, 11, rfl, by decide, gd_1 193 ⟨rfl, rfl⟩, lay_X9⟩
set_option maxRecDepth 100000 in
theorem fw_X9_51 : FW RX9 51 9 10 := ⟨RX9, TX9, 11, rfl, by decide, gd_1 194 ⟨rfl, rfl⟩, lay_X9⟩
set_option maxRecDepth 100000 in
theorem pw_X9_51 : PW RX9 51 9 10 := ⟨RX9, TX9, 11, tyX9, rfl, by decide, gd_1 194 ⟨rfl, rfl⟩, lay_X9, tyX9_ok, nmX9, rfl, by decide +kernel⟩
set_option maxRecDepth 100000 in
theorem fw_X7_11 : FW RX7 11 7 0 := ⟨RX7, TX7, 5, rfl, by decide, gd_1 224 ⟨rfl, rfl⟩, lay_X7⟩
set_option maxRecDepth 100000 in
theorem fw_X7_15 : FW RX7 15 7 1 := ⟨RX7, TX7, 5, rfl, by decide, gd_1 225 ⟨rfl, rfl⟩, lay_X7⟩
set_option maxRecDepth 100000 in
theorem fw_X7_18 : FW RX7 18 7 2 := ⟨RX7, TX7, 5, rfl, by decide, gd_1 226 ⟨rfl, rfl⟩, lay_X7⟩
set_option maxRecDepth 100000 in
theorem fw_X7_21 : FW RX7 21 7 3 := ⟨RX7, TX7, 5, rfl, by decide, gd_1 227 ⟨rfl, rfl⟩, lay_X7⟩
set_option maxRecDepth 100000 in
theorem fw_X7_24 : FW RX7 24 7 4 := ⟨RX7, TX7, 5, rfl, by decide, gd_1 228 ⟨rfl, rfl⟩, lay_X7⟩
set_option maxRecDepth 100000 in
theorem pw_X7_24 : PW RX7 24 7 4 := ⟨RX7, TX7, 5, tyX7, rfl, by decide, gd_1 228 ⟨rfl, rfl⟩, lay_X7, tyX7_ok, nmX7, rfl, by decide +kernel⟩
set_option maxRecDepth 100000 in
theorem fw_X3_9 : FW RX3 9 3 0 := ⟨RX3, TX3, 3, rfl, by decide, gd_2 6 ⟨rfl, rfl⟩, lay_X3⟩
set_option maxRecDepth 100000 in
theorem fw_X3_15 : FW RX3 15 3 1 := ⟨RX3, TX3, 3, rfl, by decide, gd_2 7 ⟨rfl, rfl⟩, lay_X3⟩
set_option maxRecDepth 100000 in
theorem fw_X3_19 : FW RX3 19 3 2 := ⟨RX3, TX3, 3, rfl, by decide, gd_2 8 ⟨rfl, rfl⟩, lay_X3⟩
set_option maxRecDepth 100000 in
theorem fw_X0_22 : FW RX0 22 0 0 := ⟨RX0, TX0, 4, rfl, by decide, gd_2 22 ⟨rfl, rfl⟩, lay_X0⟩
set_option maxRecDepth 100000 in
theorem fw_X0_9 : FW RX0 9 0 1 := ⟨RX0, TX0, 4, rfl, by decide, gd_2 23 ⟨rfl, rfl⟩, lay_X0⟩
set_option maxRecDepth 100000 in
theorem fw_X0_15 : FW RX0 15 0 2 := ⟨RX0, TX0, 4, rfl, by decide, gd_2 24 ⟨rfl, rfl⟩, lay_X0⟩
set_option maxRecDepth 100000 in
theorem fw_X0_19 : FW RX0 19 0 3 := ⟨RX0, TX0, 4, rfl, by decide, gd_2 25 ⟨rfl, rfl⟩, lay_X0⟩
set_option maxRecDepth 100000 in
theorem fw_X6_22 : FW RX6 22 6 0 := ⟨RX6, TX6, 6, rfl, by decide, gd_2 44 ⟨rfl, rfl⟩, lay_X6⟩
set_option maxRecDepth 100000 in
theorem fw_X6_9 : FW RX6 9 6 1 := ⟨RX6, TX6, 6, rfl, by decide, gd_2 45 ⟨rfl, rfl⟩, lay_X6⟩
set_option maxRecDepth 100000 in
theorem fw_X6_13 : FW RX6 13 6 2 := ⟨RX6, TX6, 6, rfl, by decide, gd_2 46 ⟨rfl, rfl⟩, lay_X6⟩
set_option maxRecDepth 100000 in
theorem fw_X6_19 : FW RX6 19 6 3 := ⟨RX6, TX6, 6, rfl, by decide, gd_2 47 ⟨rfl, rfl⟩, lay_X6⟩
set_option maxRecDepth 100000 in
theorem fw_X6_26 : FW RX6 26 6 4 := ⟨RX6, TX6, 6, rfl, by decide, gd_2 48 ⟨rfl, rfl⟩, lay_X6⟩
set_option maxRecDepth 100000 in
theorem pw_X6_26 : PW RX6 26 6 4 := ⟨RX6, TX6, 6, tyX6, rfl, by decide, gd_2 48 ⟨rfl, rfl⟩, lay_X6, tyX6_ok, nmX6, rfl, by decide +kernel⟩
set_option maxRecDepth 100000 in
theorem fw_X6_30 : FW RX6 30 6 5 := ⟨RX6, TX6, 6, rfl, by decide, gd_2 49 ⟨rfl, rfl⟩, lay_X6⟩
set_option maxRecDepth 100000 in
theorem pw_X6_30 : PW RX6 30 6 5 := ⟨RX6, TX6, 6, tyX6, rfl, by decide, gd_2 49 ⟨rfl, rfl⟩, lay_X6, tyX6_ok, nmX6, rfl, by decide +kernel⟩
set_option maxRecDepth 100000 in
theorem fw_X10_9 : FW RX10 9 10 0 := ⟨RX10, TX10, 14, rfl, by decide, gd_2 63 ⟨rfl, rfl⟩, lay_X10⟩
set_option maxRecDepth 100000 in
theorem fw_X10_16 : FW RX10 16 10 1 := ⟨RX10, TX10, 14, rfl, by decide, gd_2 64 ⟨rfl, rfl⟩, lay_X10⟩
set_option maxRecDepth 100000 in
theorem fw_X10_25 : FW RX10 25 10 2 := ⟨RX10, TX10, 14, rfl, by decide, gd_2 65 ⟨rfl, rfl⟩, lay_X10⟩
set_option maxRecDepth 100000 in
theorem fw_X10_32 : FW RX10 32 10 3 := ⟨RX10, TX10, 14, rfl, by decide, gd_2 66 ⟨rfl, rfl⟩, lay_X10⟩
set_option maxRecDepth 100000 in
theorem fw_X10_41 : FW RX10 41 10 4 := ⟨RX10, TX10, 14, rfl, by decide, gd_2 67 ⟨rfl, rfl⟩, lay_X10⟩
set_option maxRecDepth 100000 in
theorem fw_X10_48 : FW RX10 48 10 5 := ⟨RX10, TX10, 14, rfl, by decide, gd_2 68 ⟨rfl, rfl⟩, lay_X10⟩
set_option maxRecDepth 100000 in
theorem fw_X10_57 : FW RX10 57 10 6 := ⟨RX10, TX10, 14, rfl, by decide, gd_2 69 ⟨rfl, rfl⟩, lay_X10⟩
set_option maxRecDepth 100000 in
theorem fw_X10_64 : FW RX10 64 10 7 := ⟨RX10, TX10, 14, rfl, by decide, gd_2 70 ⟨rfl, rfl⟩, lay_X10⟩
set_option maxRecDepth 100000 in
theorem fw_X10_73 : FW RX10 73 10 8 := ⟨RX10, TX10, 14, rfl, by decide, gd_2 71 ⟨rfl, rfl⟩, lay_X10⟩
set_option maxRecDepth 100000 in
theorem fw_X10_82 : FW RX10 82 10 9 := ⟨RX10, TX10, 14, rfl, by decide, gd_2 72 ⟨rfl, rfl⟩, lay_X10⟩
set_option maxRecDepth 100000 in
theorem fw_X10_89 : FW RX10 89 10 10 := ⟨RX10, TX10, 14, rfl, by decide, gd_2 73 ⟨rfl, rfl⟩, lay_X10⟩
set_option maxRecDepth 100000 in
theorem fw_X10_93 : FW RX10 93 10 11 := ⟨RX10, TX10, 14, rfl, by decide, gd_2 74 ⟨rfl, rfl⟩, lay_X10⟩
set_option maxRecDepth 100000 in
theorem fw_X10_295 : FW RX10 295 10 12 := ⟨RX10, TX10, 14, rfl, by decide, gd_2 75 ⟨rfl, rfl⟩, lay_X10⟩
set_option maxRecDepth 100000 in
theorem pw_X10_295 : PW RX10 295 10 12 := ⟨RX10, TX10, 14, tyX10, rfl, by decide, gd_2 75 ⟨rfl, rfl⟩, lay_X10, tyX10_ok, nmX10, rfl, by decide +kernel⟩
set_option maxRecDepth 100000 in
theorem fw_X10_189 : FW RX10 189 10 13 := ⟨RX10, TX10, 14, rfl, by decide, gd_2 76 ⟨rfl, rfl⟩, lay_X10⟩
set_option maxRecDepth 100000 in
theorem pw_X10_189 : PW RX10 189 10 13 := ⟨RX10, TX10, 14, tyX10, rfl, by decide, gd_2 76 ⟨rfl, rfl⟩, lay_X10, tyX10_ok, nmX10, rfl, by decide +kernel⟩
set_option maxRecDepth 100000 in
theorem sl_X1_29 : Cond.fieldLink RX1 29 "BenchTimes$Elements" "ABOVE" "[I" ∈ gd := gd_2 141 ⟨rfl, rfl⟩
set_option maxRecDepth 100000 in
theorem sl_J0_38 : Cond.fieldLink RJ0 38 "java/lang/String" "COMPACT_STRINGS" "Z" ∈ gd := gd_3 198 ⟨rfl, rfl⟩
set_option maxRecDepth 100000 in
theorem sl_J0_1053 : Cond.fieldLink RJ0 1053 "jdk/internal/util/Preconditions" "SIOOBE_FORMATTER" "Ljava/util/function/BiFunction;" ∈ gd := gd_3 214 ⟨rfl, rfl⟩
set_option maxRecDepth 100000 in
theorem sl_J2_44 : Cond.fieldLink RJ2 44 "java/lang/StringUTF16" "$assertionsDisabled" "Z" ∈ gd := gd_3 232 ⟨rfl, rfl⟩
set_option maxRecDepth 100000 in
theorem sl_J2_59 : Cond.fieldLink RJ2 59 "java/lang/StringUTF16" "HI_BYTE_SHIFT" "I" ∈ gd := gd_3 234 ⟨rfl, rfl⟩
set_option maxRecDepth 100000 in
theorem sl_J2_63 : Cond.fieldLink RJ2 63 "java/lang/StringUTF16" "LO_BYTE_SHIFT" "I" ∈ gd := gd_3 236 ⟨rfl, rfl⟩
set_option maxRecDepth 100000 in
theorem sl_X5_55 : Cond.fieldLink RX5 55 "BenchTimes$Rules" "GREATEST" "[I" ∈ gd := gd_4 8 ⟨rfl, rfl⟩
set_option maxRecDepth 100000 in
theorem fw_X11_127 : FW RX11 127 11 0 := ⟨RX11, TX11, 49, rfl, by decide, gd_5 54 ⟨rfl, rfl⟩, lay_X11⟩
set_option maxRecDepth 100000 in
theorem pw_X11_127 : PW RX11 127 11 0 := ⟨RX11, TX11, 49, tyX11, rfl, by decide, gd_5 54 ⟨rfl, rfl⟩, lay_X11, tyX11_ok, nmX11, rfl, by decide +kernel⟩
set_option maxRecDepth 100000 in
theorem fw_X11_7 : FW RX11 7 11 1 := ⟨RX11, TX11, 49, rfl, by decide, gd_5 55 ⟨rfl, rfl⟩, lay_X11⟩
set_option maxRecDepth 100000 in
theorem fw_X11_13 : FW RX11 13 11 2 := ⟨RX11, TX11, 49, rfl, by decide, gd_5 56 ⟨rfl, rfl⟩, lay_X11⟩
set_option maxRecDepth 100000 in
theorem pw_X11_13 : PW RX11 13 11 2 := ⟨RX11, TX11, 49, tyX11, rfl, by decide, gd_5 56 ⟨rfl, rfl⟩, lay_X11, tyX11_ok, nmX11, rfl, by decide +kernel⟩
set_option maxRecDepth 100000 in
theorem fw_X11_17 : FW RX11 17 11 3 := ⟨RX11, TX11, 49, rfl, by decide, gd_5 57 ⟨rfl, rfl⟩, lay_X11⟩
set_option maxRecDepth 100000 in
theorem pw_X11_17 : PW RX11 17 11 3 := ⟨RX11, TX11, 49, tyX11, rfl, by decide, gd_5 57 ⟨rfl, rfl⟩, lay_X11, tyX11_ok, nmX11, rfl, by decide +kernel⟩
set_option maxRecDepth 100000 in
theorem fw_X11_151 : FW RX11 151 11 4 := ⟨RX11, TX11, 49, rfl, by decide, gd_5 58 ⟨rfl, rfl⟩, lay_X11⟩
set_option maxRecDepth 100000 in
theorem pw_X11_151 : PW RX11 151 11 4 := ⟨RX11, TX11, 49, tyX11, rfl, by decide, gd_5 58 ⟨rfl, rfl⟩, lay_X11, tyX11_ok, nmX11, rfl, by decide +kernel⟩
set_option maxRecDepth 100000 in
theorem fw_X11_20 : FW RX11 20 11 5 := ⟨RX11, TX11, 49, rfl, by decide, gd_5 59 ⟨rfl, rfl⟩, lay_X11⟩
set_option maxRecDepth 100000 in
theorem fw_X11_23 : FW RX11 23 11 6 := ⟨RX11, TX11, 49, rfl, by decide, gd_5 60 ⟨rfl, rfl⟩, lay_X11⟩
set_option maxRecDepth 100000 in
theorem fw_X11_157 : FW RX11 157 11 7 := ⟨RX11, TX11, 49, rfl, by decide, gd_5 61 ⟨rfl, rfl⟩, lay_X11⟩
set_option maxRecDepth 100000 in
theorem pw_X11_157 : PW RX11 157 11 7 := ⟨RX11, TX11, 49, tyX11, rfl, by decide, gd_5 61 ⟨rfl, rfl⟩, lay_X11, tyX11_ok, nmX11, rfl, by decide +kernel⟩
set_option maxRecDepth 100000 in
theorem fw_X11_26 : FW RX11 26 11 8 := ⟨RX11, TX11, 49, rfl, by decide, gd_5 62 ⟨rfl, rfl⟩, lay_X11⟩
set_option maxRecDepth 100000 in
theorem fw_X11_29 : FW RX11 29 11 9 := ⟨RX11, TX11, 49, rfl, by decide, gd_5 63 ⟨rfl, rfl⟩, lay_X11⟩
set_option maxRecDepth 100000 in
theorem fw_X11_32 : FW RX11 32 11 10 := ⟨RX11, TX11, 49, rfl, by decide, gd_5 64 ⟨rfl, rfl⟩, lay_X11⟩
set_option maxRecDepth 100000 in
theorem fw_X11_35 : FW RX11 35 11 11 := ⟨RX11, TX11, 49, rfl, by decide, gd_5 65 ⟨rfl, rfl⟩, lay_X11⟩
set_option maxRecDepth 100000 in
theorem fw_X11_130 : FW RX11 130 11 12 := ⟨RX11, TX11, 49, rfl, by decide, gd_5 66 ⟨rfl, rfl⟩, lay_X11⟩
set_option maxRecDepth 100000 in
theorem pw_X11_130 : PW RX11 130 11 12 := ⟨RX11, TX11, 49, tyX11, rfl, by decide, gd_5 66 ⟨rfl, rfl⟩, lay_X11, tyX11_ok, nmX11, rfl, by decide +kernel⟩
set_option maxRecDepth 100000 in
theorem fw_X11_38 : FW RX11 38 11 13 := ⟨RX11, TX11, 49, rfl, by decide, gd_5 67 ⟨rfl, rfl⟩, lay_X11⟩
set_option maxRecDepth 100000 in
theorem fw_X11_41 : FW RX11 41 11 14 := ⟨RX11, TX11, 49, rfl, by decide, gd_5 68 ⟨rfl, rfl⟩, lay_X11⟩
set_option maxRecDepth 100000 in
theorem fw_X11_44 : FW RX11 44 11 15 := ⟨RX11, TX11, 49, rfl, by decide, gd_5 69 ⟨rfl, rfl⟩, lay_X11⟩
set_option maxRecDepth 100000 in
theorem fw_X11_47 : FW RX11 47 11 16 := ⟨RX11, TX11, 49, rfl, by decide, gd_5 70 ⟨rfl, rfl⟩, lay_X11⟩
set_option maxRecDepth 100000 in
theorem fw_X11_173 : FW RX11 173 11 17 := ⟨RX11, TX11, 49, rfl, by decide, gd_5 71 ⟨rfl, rfl⟩, lay_X11⟩
set_option maxRecDepth 100000 in
theorem pw_X11_173 : PW RX11 173 11 17 := ⟨RX11, TX11, 49, tyX11, rfl, by decide, gd_5 71 ⟨rfl, rfl⟩, lay_X11, tyX11_ok, nmX11, rfl, by decide +kernel⟩
set_option maxRecDepth 100000 in
theorem fw_X11_51 : FW RX11 51 11 18 := ⟨RX11, TX11, 49, rfl, by decide, gd_5 72 ⟨rfl, rfl⟩, lay_X11⟩
set_option maxRecDepth 100000 in
theorem fw_X11_54 : FW RX11 54 11 19 := ⟨RX11, TX11, 49, rfl, by decide, gd_5 73 ⟨rfl, rfl⟩, lay_X11⟩
set_option maxRecDepth 100000 in
theorem fw_X11_57 : FW RX11 57 11 20 := ⟨RX11, TX11, 49, rfl, by decide, gd_5 74 ⟨rfl, rfl⟩, lay_X11⟩
set_option maxRecDepth 100000 in
theorem fw_X11_185 : FW RX11 185 11 21 := ⟨RX11, TX11, 49, rfl, by decide, gd_5 75 ⟨rfl, rfl⟩, lay_X11⟩
set_option maxRecDepth 100000 in
theorem pw_X11_185 : PW RX11 185 11 21 := ⟨RX11, TX11, 49, tyX11, rfl, by decide, gd_5 75 ⟨rfl, rfl⟩, lay_X11, tyX11_ok, nmX11, rfl, by decide +kernel⟩
set_option maxRecDepth 100000 in
theorem fw_X11_60 : FW RX11 60 11 22 := ⟨RX11, TX11, 49, rfl, by decide, gd_5 76 ⟨rfl, rfl⟩, lay_X11⟩
set_option maxRecDepth 100000 in
theorem fw_X11_63 : FW RX11 63 11 23 := ⟨RX11, TX11, 49, rfl, by decide, gd_5 77 ⟨rfl, rfl⟩, lay_X11⟩
set_option maxRecDepth 100000 in
theorem fw_X11_198 : FW RX11 198 11 24 := ⟨RX11, TX11, 49, rfl, by decide, gd_5 78 ⟨rfl, rfl⟩, lay_X11⟩
set_option maxRecDepth 100000 in
theorem pw_X11_198 : PW RX11 198 11 24 := ⟨RX11, TX11, 49, tyX11, rfl, by decide, gd_5 78 ⟨rfl, rfl⟩, lay_X11, tyX11_ok, nmX11, rfl, by decide +kernel⟩
set_option maxRecDepth 100000 in
theorem fw_X11_221 : FW RX11 221 11 25 := ⟨RX11, TX11, 49, rfl, by decide, gd_5 79 ⟨rfl, rfl⟩, lay_X11⟩
set_option maxRecDepth 100000 in
theorem pw_X11_221 : PW RX11 221 11 25 := ⟨RX11, TX11, 49, tyX11, rfl, by decide, gd_5 79 ⟨rfl, rfl⟩, lay_X11, tyX11_ok, nmX11, rfl, by decide +kernel⟩
set_option maxRecDepth 100000 in
theorem fw_X11_66 : FW RX11 66 11 26 := ⟨RX11, TX11, 49, rfl, by decide, gd_5 80 ⟨rfl, rfl⟩, lay_X11⟩
set_option maxRecDepth 100000 in
theorem fw_X11_69 : FW RX11 69 11 27 := ⟨RX11, TX11, 49, rfl, by decide, gd_5 81 ⟨rfl, rfl⟩, lay_X11⟩
set_option maxRecDepth 100000 in
theorem fw_X11_72 : FW RX11 72 11 28 := ⟨RX11, TX11, 49, rfl, by decide, gd_5 82 ⟨rfl, rfl⟩, lay_X11⟩
set_option maxRecDepth 100000 in
theorem fw_X11_75 : FW RX11 75 11 29 := ⟨RX11, TX11, 49, rfl, by decide, gd_5 83 ⟨rfl, rfl⟩, lay_X11⟩
set_option maxRecDepth 100000 in
theorem fw_X11_78 : FW RX11 78 11 30 := ⟨RX11, TX11, 49, rfl, by decide, gd_5 84 ⟨rfl, rfl⟩, lay_X11⟩
set_option maxRecDepth 100000 in
theorem fw_X11_81 : FW RX11 81 11 31 := ⟨RX11, TX11, 49, rfl, by decide, gd_5 85 ⟨rfl, rfl⟩, lay_X11⟩
set_option maxRecDepth 100000 in
theorem fw_X11_84 : FW RX11 84 11 32 := ⟨RX11, TX11, 49, rfl, by decide, gd_5 86 ⟨rfl, rfl⟩, lay_X11⟩
set_option maxRecDepth 100000 in
theorem fw_X11_224 : FW RX11 224 11 33 := ⟨RX11, TX11, 49, rfl, by decide, gd_5 87 ⟨rfl, rfl⟩, lay_X11⟩
set_option maxRecDepth 100000 in
theorem pw_X11_224 : PW RX11 224 11 33 := ⟨RX11, TX11, 49, tyX11, rfl, by decide, gd_5 87 ⟨rfl, rfl⟩, lay_X11, tyX11_ok, nmX11, rfl, by decide +kernel⟩
set_option maxRecDepth 100000 in
theorem fw_X11_87 : FW RX11 87 11 34 := ⟨RX11, TX11, 49, rfl, by decide, gd_5 88 ⟨rfl, rfl⟩, lay_X11⟩
set_option maxRecDepth 100000 in
theorem fw_X11_90 : FW RX11 90 11 35 := ⟨RX11, TX11, 49, rfl, by decide, gd_5 89 ⟨rfl, rfl⟩, lay_X11⟩
set_option maxRecDepth 100000 in
theorem fw_X11_93 : FW RX11 93 11 36 := ⟨RX11, TX11, 49, rfl, by decide, gd_5 90 ⟨rfl, rfl⟩, lay_X11⟩
set_option maxRecDepth 100000 in
theorem fw_X11_96 : FW RX11 96 11 37 := ⟨RX11, TX11, 49, rfl, by decide, gd_5 91 ⟨rfl, rfl⟩, lay_X11⟩
set_option maxRecDepth 100000 in
theorem fw_X11_99 : FW RX11 99 11 38 := ⟨RX11, TX11, 49, rfl, by decide, gd_5 92 ⟨rfl, rfl⟩, lay_X11⟩
set_option maxRecDepth 100000 in
theorem fw_X11_245 : FW RX11 245 11 39 := ⟨RX11, TX11, 49, rfl, by decide, gd_5 93 ⟨rfl, rfl⟩, lay_X11⟩
set_option maxRecDepth 100000 in
theorem pw_X11_245 : PW RX11 245 11 39 := ⟨RX11, TX11, 49, tyX11, rfl, by decide, gd_5 93 ⟨rfl, rfl⟩, lay_X11, tyX11_ok, nmX11, rfl, by decide +kernel⟩
set_option maxRecDepth 100000 in
theorem fw_X11_102 : FW RX11 102 11 40 := ⟨RX11, TX11, 49, rfl, by decide, gd_5 94 ⟨rfl, rfl⟩, lay_X11⟩
set_option maxRecDepth 100000 in
theorem fw_X11_105 : FW RX11 105 11 41 := ⟨RX11, TX11, 49, rfl, by decide, gd_5 95 ⟨rfl, rfl⟩, lay_X11⟩
set_option maxRecDepth 100000 in
theorem fw_X11_108 : FW RX11 108 11 42 := ⟨RX11, TX11, 49, rfl, by decide, gd_5 96 ⟨rfl, rfl⟩, lay_X11⟩
set_option maxRecDepth 100000 in
theorem fw_X11_111 : FW RX11 111 11 43 := ⟨RX11, TX11, 49, rfl, by decide, gd_5 97 ⟨rfl, rfl⟩, lay_X11⟩
set_option maxRecDepth 100000 in
theorem fw_X11_201 : FW RX11 201 11 44 := ⟨RX11, TX11, 49, rfl, by decide, gd_5 98 ⟨rfl, rfl⟩, lay_X11⟩
set_option maxRecDepth 100000 in
theorem pw_X11_201 : PW RX11 201 11 44 := ⟨RX11, TX11, 49, tyX11, rfl, by decide, gd_5 98 ⟨rfl, rfl⟩, lay_X11, tyX11_ok, nmX11, rfl, by decide +kernel⟩
set_option maxRecDepth 100000 in
theorem fw_X11_114 : FW RX11 114 11 45 := ⟨RX11, TX11, 49, rfl, by decide, gd_5 99 ⟨rfl, rfl⟩, lay_X11⟩
set_option maxRecDepth 100000 in
theorem fw_X11_117 : FW RX11 117 11 46 := ⟨RX11, TX11, 49, rfl, by decide, gd_5 100 ⟨rfl, rfl⟩, lay_X11⟩
set_option maxRecDepth 100000 in
theorem fw_X11_120 : FW RX11 120 11 47 := ⟨RX11, TX11, 49, rfl, by decide, gd_5 101 ⟨rfl, rfl⟩, lay_X11⟩
set_option maxRecDepth 100000 in
theorem fw_X11_123 : FW RX11 123 11 48 := ⟨RX11, TX11, 49, rfl, by decide, gd_5 102 ⟨rfl, rfl⟩, lay_X11⟩
set_option maxRecDepth 100000 in
theorem sl_X11_204 : Cond.fieldLink RX11 204 "BenchTimesModel" "WORDS" "[I" ∈ gd := gd_6 104 ⟨rfl, rfl⟩
set_option maxRecDepth 100000 in
theorem sl_J0_9 : Cond.fieldLink RJ0 9 "java/lang/String" "value" "[B" ∈ gd := gd_6 198 ⟨rfl, rfl⟩
set_option maxRecDepth 100000 in
theorem sl_J0_15 : Cond.fieldLink RJ0 15 "java/lang/String" "coder" "B" ∈ gd := gd_6 199 ⟨rfl, rfl⟩
set_option maxRecDepth 100000 in
theorem kc_X10_310 : Cond.constant RX10 310 (-1000000000) ∈ gd := gd_2 120 ⟨rfl, rfl⟩
set_option maxRecDepth 100000 in
theorem kc_X10_240 : Cond.constant RX10 240 (999999) ∈ gd := gd_4 30 ⟨rfl, rfl⟩
set_option maxRecDepth 100000 in
theorem kc_X0_54 : Cond.constantLong RX0 54 (100) ∈ gd := gd_4 171 ⟨rfl, rfl⟩
set_option maxRecDepth 100000 in
theorem kc_X11_126 : Cond.constant RX11 126 (-1000000000) ∈ gd := gd_5 213 ⟨rfl, rfl⟩
set_option maxRecDepth 100000 in
theorem kc_X11_220 : Cond.constant RX11 220 (999999) ∈ gd := gd_6 121 ⟨rfl, rfl⟩
set_option maxRecDepth 100000 in
theorem kc_X11_233 : Cond.constantLong RX11 233 (100) ∈ gd := gd_6 162 ⟨rfl, rfl⟩
set_option maxRecDepth 100000 in
theorem ml_X10_22 : Cond.methodLink RX10 22 yX8_init ∈ gd := gd_1 49 ⟨rfl, rfl⟩
set_option maxRecDepth 100000 in
theorem ml_X10_38 : Cond.methodLink RX10 38 yX4_init ∈ gd := gd_1 127 ⟨rfl, rfl⟩
set_option maxRecDepth 100000 in
theorem ml_X10_54 : Cond.methodLink RX10 54 yX9_init ∈ gd := gd_1 177 ⟨rfl, rfl⟩
set_option maxRecDepth 100000 in
theorem ml_X9_45 : Cond.methodLink RX9 45 yJ7_fill_53178 ∈ gd := gd_1 181 ⟨rfl, rfl⟩
set_option maxRecDepth 100000 in
theorem ml_X10_70 : Cond.methodLink RX10 70 yX3_init ∈ gd := gd_2 2 ⟨rfl, rfl⟩
set_option maxRecDepth 100000 in
theorem ml_X10_79 : Cond.methodLink RX10 79 yX0_init ∈ gd := gd_2 18 ⟨rfl, rfl⟩
set_option maxRecDepth 100000 in
theorem ml_X10_88 : Cond.methodLink RX10 88 yX6_init ∈ gd := gd_2 38 ⟨rfl, rfl⟩
set_option maxRecDepth 100000 in
theorem ml_X10_96 : Cond.methodLink RX10 96 yX1_isKind ∈ gd := gd_2 110 ⟨rfl, rfl⟩
set_option maxRecDepth 100000 in
theorem ml_X10_100 : Cond.methodLink RX10 100 yX10_finding ∈ gd := gd_2 116 ⟨rfl, rfl⟩
set_option maxRecDepth 100000 in
theorem ml_X10_104 : Cond.methodLink RX10 104 yX1_isFull ∈ gd := gd_2 121 ⟨rfl, rfl⟩
set_option maxRecDepth 100000 in
theorem ml_X10_108 : Cond.methodLink RX10 108 yX1_add ∈ gd := gd_2 125 ⟨rfl, rfl⟩
set_option maxRecDepth 100000 in
theorem ml_X10_111 : Cond.methodLink RX10 111 yX1_has ∈ gd := gd_2 133 ⟨rfl, rfl⟩
set_option maxRecDepth 100000 in
theorem ml_X10_114 : Cond.methodLink RX10 114 yX1_isUnder ∈ gd := gd_2 137 ⟨rfl, rfl⟩
set_option maxRecDepth 100000 in
theorem ml_X10_118 : Cond.methodLink RX10 118 yX1_allowanceOf ∈ gd := gd_2 143 ⟨rfl, rfl⟩
set_option maxRecDepth 100000 in
theorem ml_X10_121 : Cond.methodLink RX10 121 yX10_isWithin ∈ gd := gd_2 151 ⟨rfl, rfl⟩
set_option maxRecDepth 100000 in
theorem ml_X10_125 : Cond.methodLink RX10 125 yX1_setAllowances ∈ gd := gd_2 152 ⟨rfl, rfl⟩
set_option maxRecDepth 100000 in
theorem ml_X10_129 : Cond.methodLink RX10 129 yX10_isRater ∈ gd := gd_2 160 ⟨rfl, rfl⟩
set_option maxRecDepth 100000 in
theorem ml_X10_132 : Cond.methodLink RX10 132 yX10_isPace ∈ gd := gd_2 163 ⟨rfl, rfl⟩
set_option maxRecDepth 100000 in
theorem ml_X10_135 : Cond.methodLink RX10 135 yX8_isFullOfFilms ∈ gd := gd_2 166 ⟨rfl, rfl⟩
set_option maxRecDepth 100000 in
theorem ml_X10_138 : Cond.methodLink RX10 138 yX8_addFilm ∈ gd := gd_2 170 ⟨rfl, rfl⟩
set_option maxRecDepth 100000 in
theorem ml_X10_142 : Cond.methodLink RX10 142 yX8_habitOf ∈ gd := gd_2 178 ⟨rfl, rfl⟩
set_option maxRecDepth 100000 in
theorem ml_X10_145 : Cond.methodLink RX10 145 yX8_isFullOfCycles ∈ gd := gd_2 186 ⟨rfl, rfl⟩
set_option maxRecDepth 100000 in
theorem ml_X10_148 : Cond.methodLink RX10 148 yX8_addCycle ∈ gd := gd_2 190 ⟨rfl, rfl⟩
set_option maxRecDepth 100000 in
theorem ml_X10_152 : Cond.methodLink RX10 152 yX8_cycleMany ∈ gd := gd_2 198 ⟨rfl, rfl⟩
set_option maxRecDepth 100000 in
theorem ml_X10_156 : Cond.methodLink RX10 156 yX8_normalOf ∈ gd := gd_2 202 ⟨rfl, rfl⟩
set_option maxRecDepth 100000 in
theorem ml_X8_44 : Cond.methodLink RX8 44 yX8_habitOf ∈ gd := gd_2 206 ⟨rfl, rfl⟩
set_option maxRecDepth 100000 in
theorem ml_X8_48 : Cond.methodLink RX8 48 yJ9_max_7cf53 ∈ gd := gd_2 207 ⟨rfl, rfl⟩
set_option maxRecDepth 100000 in
theorem ml_X10_159 : Cond.methodLink RX10 159 yX1_kindOf ∈ gd := gd_2 214 ⟨rfl, rfl⟩
set_option maxRecDepth 100000 in
theorem ml_X10_162 : Cond.methodLink RX10 162 yX8_study ∈ gd := gd_2 218 ⟨rfl, rfl⟩
set_option maxRecDepth 100000 in
theorem ml_X8_54 : Cond.methodLink RX8 54 yX8_gatherNormals ∈ gd := gd_2 222 ⟨rfl, rfl⟩
set_option maxRecDepth 100000 in
theorem ml_X8_84 : Cond.methodLink RX8 84 yX8_normalOf ∈ gd := gd_2 226 ⟨rfl, rfl⟩
set_option maxRecDepth 100000 in
theorem ml_X8_87 : Cond.methodLink RX8 87 yX8_putInOrder ∈ gd := gd_2 227 ⟨rfl, rfl⟩
set_option maxRecDepth 100000 in
theorem ml_X8_58 : Cond.methodLink RX8 58 yX8_keepNormals ∈ gd := gd_2 231 ⟨rfl, rfl⟩
set_option maxRecDepth 100000 in
theorem ml_X8_90 : Cond.methodLink RX8 90 yJ9_abs_0f7a4 ∈ gd := gd_2 235 ⟨rfl, rfl⟩
set_option maxRecDepth 100000 in
theorem ml_X8_64 : Cond.methodLink RX8 64 yX1_allowanceOf ∈ gd := gd_2 238 ⟨rfl, rfl⟩
set_option maxRecDepth 100000 in
theorem ml_X10_166 : Cond.methodLink RX10 166 yX8_studied ∈ gd := gd_2 239 ⟨rfl, rfl⟩
set_option maxRecDepth 100000 in
theorem ml_X10_169 : Cond.methodLink RX10 169 yX2_isFull ∈ gd := gd_3 7 ⟨rfl, rfl⟩
set_option maxRecDepth 100000 in
theorem ml_X10_170 : Cond.methodLink RX10 170 yX2_add ∈ gd := gd_3 11 ⟨rfl, rfl⟩
set_option maxRecDepth 100000 in
theorem ml_X10_172 : Cond.methodLink RX10 172 yX2_has ∈ gd := gd_3 19 ⟨rfl, rfl⟩
set_option maxRecDepth 100000 in
theorem ml_X10_173 : Cond.methodLink RX10 173 yX2_placeOf ∈ gd := gd_3 24 ⟨rfl, rfl⟩
set_option maxRecDepth 100000 in
theorem ml_X10_176 : Cond.methodLink RX10 176 yX4_latestOf ∈ gd := gd_3 28 ⟨rfl, rfl⟩
set_option maxRecDepth 100000 in
theorem ml_X10_179 : Cond.methodLink RX10 179 yX2_isFullOfParts ∈ gd := gd_3 32 ⟨rfl, rfl⟩
set_option maxRecDepth 100000 in
theorem ml_X10_182 : Cond.methodLink RX10 182 yX2_addPart ∈ gd := gd_3 36 ⟨rfl, rfl⟩
set_option maxRecDepth 100000 in
theorem ml_X10_186 : Cond.methodLink RX10 186 yX2_partMany ∈ gd := gd_3 44 ⟨rfl, rfl⟩
set_option maxRecDepth 100000 in
theorem ml_X10_193 : Cond.methodLink RX10 193 yX10_newRate ∈ gd := gd_3 48 ⟨rfl, rfl⟩
set_option maxRecDepth 100000 in
theorem ml_X10_311 : Cond.methodLink RX10 311 yX4_canMake ∈ gd := gd_3 52 ⟨rfl, rfl⟩
set_option maxRecDepth 100000 in
theorem ml_X4_38 : Cond.methodLink RX4 38 yX2_partMany ∈ gd := gd_3 56 ⟨rfl, rfl⟩
set_option maxRecDepth 100000 in
theorem ml_X4_42 : Cond.methodLink RX4 42 yX2_isMarked ∈ gd := gd_3 57 ⟨rfl, rfl⟩
set_option maxRecDepth 100000 in
theorem ml_X4_53 : Cond.methodLink RX4 53 yX2_elementAt ∈ gd := gd_3 61 ⟨rfl, rfl⟩
set_option maxRecDepth 100000 in
theorem ml_X4_56 : Cond.methodLink RX4 56 yX8_isTimed ∈ gd := gd_3 65 ⟨rfl, rfl⟩
set_option maxRecDepth 100000 in
theorem ml_X10_314 : Cond.methodLink RX10 314 yX4_isFull ∈ gd := gd_3 69 ⟨rfl, rfl⟩
set_option maxRecDepth 100000 in
theorem ml_X10_315 : Cond.methodLink RX10 315 yX4_make ∈ gd := gd_3 73 ⟨rfl, rfl⟩
set_option maxRecDepth 100000 in
theorem ml_X4_62 : Cond.methodLink RX4 62 yX4_latestOf ∈ gd := gd_3 77 ⟨rfl, rfl⟩
set_option maxRecDepth 100000 in
theorem ml_X4_65 : Cond.methodLink RX4 65 yX8_study ∈ gd := gd_3 78 ⟨rfl, rfl⟩
set_option maxRecDepth 100000 in
theorem ml_X4_69 : Cond.methodLink RX4 69 yX8_studied ∈ gd := gd_3 79 ⟨rfl, rfl⟩
set_option maxRecDepth 100000 in
theorem ml_X4_46 : Cond.methodLink RX4 46 yX4_worthOf ∈ gd := gd_3 80 ⟨rfl, rfl⟩
set_option maxRecDepth 100000 in
theorem ml_X4_50 : Cond.methodLink RX4 50 yX2_oftenAt ∈ gd := gd_3 84 ⟨rfl, rfl⟩
set_option maxRecDepth 100000 in
theorem ml_X4_72 : Cond.methodLink RX4 72 yX2_clearMarks ∈ gd := gd_3 88 ⟨rfl, rfl⟩
set_option maxRecDepth 100000 in
theorem ml_X10_196 : Cond.methodLink RX10 196 yX2_many ∈ gd := gd_3 96 ⟨rfl, rfl⟩
set_option maxRecDepth 100000 in
theorem ml_X10_199 : Cond.methodLink RX10 199 yX2_mark ∈ gd := gd_3 100 ⟨rfl, rfl⟩
set_option maxRecDepth 100000 in
theorem ml_X10_202 : Cond.methodLink RX10 202 yX5_valueOf ∈ gd := gd_3 108 ⟨rfl, rfl⟩
set_option maxRecDepth 100000 in
theorem ml_X10_205 : Cond.methodLink RX10 205 yX4_mayMove ∈ gd := gd_3 112 ⟨rfl, rfl⟩
set_option maxRecDepth 100000 in
theorem ml_X10_208 : Cond.methodLink RX10 208 yX4_beginOf ∈ gd := gd_3 116 ⟨rfl, rfl⟩
set_option maxRecDepth 100000 in
theorem ml_X10_211 : Cond.methodLink RX10 211 yJ9_max_7cf53 ∈ gd := gd_3 120 ⟨rfl, rfl⟩
set_option maxRecDepth 100000 in
theorem ml_X10_216 : Cond.methodLink RX10 216 yX10_isWeek ∈ gd := gd_3 125 ⟨rfl, rfl⟩
set_option maxRecDepth 100000 in
theorem ml_X10_219 : Cond.methodLink RX10 219 yX4_inForce ∈ gd := gd_3 128 ⟨rfl, rfl⟩
set_option maxRecDepth 100000 in
theorem ml_X10_222 : Cond.methodLink RX10 222 yX4_sumOf ∈ gd := gd_3 132 ⟨rfl, rfl⟩
set_option maxRecDepth 100000 in
theorem ml_X10_225 : Cond.methodLink RX10 225 yX4_worthOf ∈ gd := gd_3 140 ⟨rfl, rfl⟩
set_option maxRecDepth 100000 in
theorem ml_X10_228 : Cond.methodLink RX10 228 yX5_isFullOfBytes ∈ gd := gd_3 149 ⟨rfl, rfl⟩
set_option maxRecDepth 100000 in
theorem ml_X10_231 : Cond.methodLink RX10 231 yX5_addByte ∈ gd := gd_3 153 ⟨rfl, rfl⟩
set_option maxRecDepth 100000 in
theorem ml_X10_234 : Cond.methodLink RX10 234 yX5_takeTape ∈ gd := gd_3 161 ⟨rfl, rfl⟩
set_option maxRecDepth 100000 in
theorem ml_X5_25 : Cond.methodLink RX5 25 yX5_readClauses ∈ gd := gd_3 165 ⟨rfl, rfl⟩
set_option maxRecDepth 100000 in
theorem ml_X5_36 : Cond.methodLink RX5 36 yJ7_fill_53178 ∈ gd := gd_3 169 ⟨rfl, rfl⟩
set_option maxRecDepth 100000 in
theorem ml_X5_42 : Cond.methodLink RX5 42 yX5_readClause ∈ gd := gd_3 170 ⟨rfl, rfl⟩
set_option maxRecDepth 100000 in
theorem ml_X5_45 : Cond.methodLink RX5 45 yX5_readWord ∈ gd := gd_3 174 ⟨rfl, rfl⟩
set_option maxRecDepth 100000 in
theorem ml_X5_58 : Cond.methodLink RX5 58 yX5_wordOf ∈ gd := gd_3 178 ⟨rfl, rfl⟩
set_option maxRecDepth 100000 in
theorem ml_X5_62 : Cond.methodLink RX5 62 yX5_alikeWith ∈ gd := gd_3 186 ⟨rfl, rfl⟩
set_option maxRecDepth 100000 in
theorem ml_X5_66 : Cond.methodLink RX5 66 yJ0_length_8abf5 ∈ gd := gd_3 190 ⟨rfl, rfl⟩
set_option maxRecDepth 100000 in
theorem ml_J0_335 : Cond.methodLink RJ0 335 yJ0_coder_7d493 ∈ gd := gd_3 194 ⟨rfl, rfl⟩
set_option maxRecDepth 100000 in
theorem ml_X5_76 : Cond.methodLink RX5 76 yJ0_charAt_5068e ∈ gd := gd_3 200 ⟨rfl, rfl⟩
set_option maxRecDepth 100000 in
theorem ml_J0_492 : Cond.methodLink RJ0 492 yJ0_isLatin1_aae02 ∈ gd := gd_3 204 ⟨rfl, rfl⟩
set_option maxRecDepth 100000 in
theorem ml_J0_495 : Cond.methodLink RJ0 495 yJ1_charAt_3b067 ∈ gd := gd_3 208 ⟨rfl, rfl⟩
set_option maxRecDepth 100000 in
theorem ml_J1_9 : Cond.methodLink RJ1 9 yJ0_checkIndex_df160 ∈ gd := gd_3 211 ⟨rfl, rfl⟩
set_option maxRecDepth 100000 in
theorem ml_J0_1059 : Cond.methodLink RJ0 1059 yJ3_checkIndex_8e157 ∈ gd := gd_3 216 ⟨rfl, rfl⟩
set_option maxRecDepth 100000 in
theorem ml_J0_498 : Cond.methodLink RJ0 498 yJ2_charAt_3b067 ∈ gd := gd_3 219 ⟨rfl, rfl⟩
set_option maxRecDepth 100000 in
theorem ml_J2_67 : Cond.methodLink RJ2 67 yJ2_checkIndex_2214a ∈ gd := gd_3 222 ⟨rfl, rfl⟩
set_option maxRecDepth 100000 in
theorem ml_J2_48 : Cond.methodLink RJ2 48 yJ2_length_9d52b ∈ gd := gd_3 225 ⟨rfl, rfl⟩
set_option maxRecDepth 100000 in
theorem ml_J2_414 : Cond.methodLink RJ2 414 yJ0_checkIndex_df160 ∈ gd := gd_3 228 ⟨rfl, rfl⟩
set_option maxRecDepth 100000 in
theorem ml_J2_71 : Cond.methodLink RJ2 71 yJ2_getChar_3b067 ∈ gd := gd_3 229 ⟨rfl, rfl⟩
set_option maxRecDepth 100000 in
theorem ml_X5_70 : Cond.methodLink RX5 70 yJ9_max_7cf53 ∈ gd := gd_3 238 ⟨rfl, rfl⟩
set_option maxRecDepth 100000 in
theorem ml_X5_48 : Cond.methodLink RX5 48 yX5_readSign ∈ gd := gd_3 239 ⟨rfl, rfl⟩
set_option maxRecDepth 100000 in
theorem ml_X5_52 : Cond.methodLink RX5 52 yX5_readNumber ∈ gd := gd_4 3 ⟨rfl, rfl⟩
set_option maxRecDepth 100000 in
theorem ml_X5_29 : Cond.methodLink RX5 29 yX5_takeNewValues ∈ gd := gd_4 10 ⟨rfl, rfl⟩
set_option maxRecDepth 100000 in
theorem ml_X10_237 : Cond.methodLink RX10 237 yX10_isOn ∈ gd := gd_4 23 ⟨rfl, rfl⟩
set_option maxRecDepth 100000 in
theorem ml_X10_244 : Cond.methodLink RX10 244 yX10_isWorker ∈ gd := gd_4 27 ⟨rfl, rfl⟩
set_option maxRecDepth 100000 in
theorem ml_X10_241 : Cond.methodLink RX10 241 yX9_isFull ∈ gd := gd_4 31 ⟨rfl, rfl⟩
set_option maxRecDepth 100000 in
theorem ml_X10_242 : Cond.methodLink RX10 242 yX9_add ∈ gd := gd_4 35 ⟨rfl, rfl⟩
set_option maxRecDepth 100000 in
theorem ml_X9_55 : Cond.methodLink RX9 55 yJ9_abs_0f7a4 ∈ gd := gd_4 39 ⟨rfl, rfl⟩
set_option maxRecDepth 100000 in
theorem ml_X10_247 : Cond.methodLink RX10 247 yX10_isCause ∈ gd := gd_4 44 ⟨rfl, rfl⟩
set_option maxRecDepth 100000 in
theorem ml_X10_250 : Cond.methodLink RX10 250 yX7_isFull ∈ gd := gd_4 47 ⟨rfl, rfl⟩
set_option maxRecDepth 100000 in
theorem ml_X10_251 : Cond.methodLink RX10 251 yX7_add ∈ gd := gd_4 51 ⟨rfl, rfl⟩
set_option maxRecDepth 100000 in
theorem ml_X10_252 : Cond.methodLink RX10 252 yX9_swapBegin ∈ gd := gd_4 59 ⟨rfl, rfl⟩
set_option maxRecDepth 100000 in
theorem ml_X10_255 : Cond.methodLink RX10 255 yX9_many ∈ gd := gd_4 67 ⟨rfl, rfl⟩
set_option maxRecDepth 100000 in
theorem ml_X10_256 : Cond.methodLink RX10 256 yX9_earnedBy ∈ gd := gd_4 71 ⟨rfl, rfl⟩
set_option maxRecDepth 100000 in
theorem ml_X9_61 : Cond.methodLink RX9 61 yX4_inForce ∈ gd := gd_4 75 ⟨rfl, rfl⟩
set_option maxRecDepth 100000 in
theorem ml_X9_69 : Cond.methodLink RX9 69 yX5_valueOf ∈ gd := gd_4 76 ⟨rfl, rfl⟩
set_option maxRecDepth 100000 in
theorem ml_X9_72 : Cond.methodLink RX9 72 yJ9_min_7cf53 ∈ gd := gd_4 77 ⟨rfl, rfl⟩
set_option maxRecDepth 100000 in
theorem ml_X9_75 : Cond.methodLink RX9 75 yX4_sumOf ∈ gd := gd_4 80 ⟨rfl, rfl⟩
set_option maxRecDepth 100000 in
theorem ml_X9_78 : Cond.methodLink RX9 78 yX9_learnersMore ∈ gd := gd_4 81 ⟨rfl, rfl⟩
set_option maxRecDepth 100000 in
theorem ml_X10_259 : Cond.methodLink RX10 259 yX3_tellOf ∈ gd := gd_4 90 ⟨rfl, rfl⟩
set_option maxRecDepth 100000 in
theorem ml_X3_23 : Cond.methodLink RX3 23 yX9_earnedIn ∈ gd := gd_4 94 ⟨rfl, rfl⟩
set_option maxRecDepth 100000 in
theorem ml_X9_81 : Cond.methodLink RX9 81 yX9_earnedBy ∈ gd := gd_4 98 ⟨rfl, rfl⟩
set_option maxRecDepth 100000 in
theorem ml_X3_29 : Cond.methodLink RX3 29 yX3_forWaiting ∈ gd := gd_4 99 ⟨rfl, rfl⟩
set_option maxRecDepth 100000 in
theorem ml_X3_35 : Cond.methodLink RX3 35 yX7_minutesIn ∈ gd := gd_4 103 ⟨rfl, rfl⟩
set_option maxRecDepth 100000 in
theorem ml_X3_43 : Cond.methodLink RX3 43 yX5_valueOf ∈ gd := gd_4 107 ⟨rfl, rfl⟩
set_option maxRecDepth 100000 in
theorem ml_X3_32 : Cond.methodLink RX3 32 yX9_minutesIn ∈ gd := gd_4 108 ⟨rfl, rfl⟩
set_option maxRecDepth 100000 in
theorem ml_X3_38 : Cond.methodLink RX3 38 yX3_allOf ∈ gd := gd_4 112 ⟨rfl, rfl⟩
set_option maxRecDepth 100000 in
theorem ml_X3_47 : Cond.methodLink RX3 47 yJ9_max_7cf53 ∈ gd := gd_4 116 ⟨rfl, rfl⟩
set_option maxRecDepth 100000 in
theorem ml_X10_262 : Cond.methodLink RX10 262 yX7_minutesFor ∈ gd := gd_4 121 ⟨rfl, rfl⟩
set_option maxRecDepth 100000 in
theorem ml_X10_265 : Cond.methodLink RX10 265 yX10_isIn ∈ gd := gd_4 129 ⟨rfl, rfl⟩
set_option maxRecDepth 100000 in
theorem ml_X10_268 : Cond.methodLink RX10 268 yX3_shareOf ∈ gd := gd_4 132 ⟨rfl, rfl⟩
set_option maxRecDepth 100000 in
theorem ml_X10_271 : Cond.methodLink RX10 271 yX10_orNone ∈ gd := gd_4 137 ⟨rfl, rfl⟩
set_option maxRecDepth 100000 in
theorem ml_X10_274 : Cond.methodLink RX10 274 yX0_survey ∈ gd := gd_4 145 ⟨rfl, rfl⟩
set_option maxRecDepth 100000 in
theorem ml_X0_26 : Cond.methodLink RX0 26 yJ7_fill_d0a16 ∈ gd := gd_4 149 ⟨rfl, rfl⟩
set_option maxRecDepth 100000 in
theorem ml_X0_32 : Cond.methodLink RX0 32 yJ7_fill_53178 ∈ gd := gd_4 152 ⟨rfl, rfl⟩
set_option maxRecDepth 100000 in
theorem ml_X0_35 : Cond.methodLink RX0 35 yX9_many ∈ gd := gd_4 153 ⟨rfl, rfl⟩
set_option maxRecDepth 100000 in
theorem ml_X0_41 : Cond.methodLink RX0 41 yX9_workerAt ∈ gd := gd_4 154 ⟨rfl, rfl⟩
set_option maxRecDepth 100000 in
theorem ml_X0_45 : Cond.methodLink RX0 45 yX9_jobAt ∈ gd := gd_4 158 ⟨rfl, rfl⟩
set_option maxRecDepth 100000 in
theorem ml_X0_48 : Cond.methodLink RX0 48 yX9_earnedBy ∈ gd := gd_4 162 ⟨rfl, rfl⟩
set_option maxRecDepth 100000 in
theorem ml_X0_51 : Cond.methodLink RX0 51 yX9_minutesAt ∈ gd := gd_4 163 ⟨rfl, rfl⟩
set_option maxRecDepth 100000 in
theorem ml_X10_277 : Cond.methodLink RX10 277 yX0_efficiencyOf ∈ gd := gd_4 167 ⟨rfl, rfl⟩
set_option maxRecDepth 100000 in
theorem ml_X10_280 : Cond.methodLink RX10 280 yX0_isLooser ∈ gd := gd_4 176 ⟨rfl, rfl⟩
set_option maxRecDepth 100000 in
theorem ml_X0_56 : Cond.methodLink RX0 56 yX0_efficiencyOf ∈ gd := gd_4 180 ⟨rfl, rfl⟩
set_option maxRecDepth 100000 in
theorem ml_X0_60 : Cond.methodLink RX0 60 yX0_waysToChoose ∈ gd := gd_4 181 ⟨rfl, rfl⟩
set_option maxRecDepth 100000 in
theorem ml_X10_283 : Cond.methodLink RX10 283 yX0_jobAt ∈ gd := gd_4 188 ⟨rfl, rfl⟩
set_option maxRecDepth 100000 in
theorem ml_X0_63 : Cond.methodLink RX0 63 yX0_reckonScores ∈ gd := gd_4 192 ⟨rfl, rfl⟩
set_option maxRecDepth 100000 in
theorem ml_X0_73 : Cond.methodLink RX0 73 yX0_isLooser ∈ gd := gd_4 196 ⟨rfl, rfl⟩
set_option maxRecDepth 100000 in
theorem ml_X0_66 : Cond.methodLink RX0 66 yX0_hasRows ∈ gd := gd_4 197 ⟨rfl, rfl⟩
set_option maxRecDepth 100000 in
theorem ml_X0_70 : Cond.methodLink RX0 70 yX0_manyAhead ∈ gd := gd_4 201 ⟨rfl, rfl⟩
set_option maxRecDepth 100000 in
theorem ml_X10_286 : Cond.methodLink RX10 286 yX6_gather ∈ gd := gd_4 209 ⟨rfl, rfl⟩
set_option maxRecDepth 100000 in
theorem ml_X6_33 : Cond.methodLink RX6 33 yX9_many ∈ gd := gd_4 213 ⟨rfl, rfl⟩
set_option maxRecDepth 100000 in
theorem ml_X6_38 : Cond.methodLink RX6 38 yX9_workerAt ∈ gd := gd_4 214 ⟨rfl, rfl⟩
set_option maxRecDepth 100000 in
theorem ml_X6_42 : Cond.methodLink RX6 42 yX9_jobAt ∈ gd := gd_4 215 ⟨rfl, rfl⟩
set_option maxRecDepth 100000 in
theorem ml_X6_45 : Cond.methodLink RX6 45 yX9_goodAt ∈ gd := gd_4 216 ⟨rfl, rfl⟩
set_option maxRecDepth 100000 in
theorem ml_X6_48 : Cond.methodLink RX6 48 yX9_minutesAt ∈ gd := gd_4 220 ⟨rfl, rfl⟩
set_option maxRecDepth 100000 in
theorem ml_X6_51 : Cond.methodLink RX6 51 yX9_isWatched ∈ gd := gd_4 221 ⟨rfl, rfl⟩
set_option maxRecDepth 100000 in
theorem ml_X10_289 : Cond.methodLink RX10 289 yX6_canTell ∈ gd := gd_4 225 ⟨rfl, rfl⟩
set_option maxRecDepth 100000 in
theorem ml_X10_292 : Cond.methodLink RX10 292 yX6_isBeyondDoubt ∈ gd := gd_4 229 ⟨rfl, rfl⟩
set_option maxRecDepth 100000 in
theorem ml_X6_55 : Cond.methodLink RX6 55 yX6_countWays ∈ gd := gd_4 233 ⟨rfl, rfl⟩
set_option maxRecDepth 100000 in
theorem ml_X6_64 : Cond.methodLink RX6 64 yJ7_fill_53178 ∈ gd := gd_4 237 ⟨rfl, rfl⟩
set_option maxRecDepth 100000 in
theorem ml_X6_61 : Cond.methodLink RX6 61 yX6_rankOf ∈ gd := gd_4 238 ⟨rfl, rfl⟩
set_option maxRecDepth 100000 in
theorem ml_X6_70 : Cond.methodLink RX6 70 yJ9_min_7cf53 ∈ gd := gd_5 2 ⟨rfl, rfl⟩
set_option maxRecDepth 100000 in
theorem ml_X6_76 : Cond.methodLink RX6 76 yX6_addRow ∈ gd := gd_5 3 ⟨rfl, rfl⟩
set_option maxRecDepth 100000 in
theorem ml_X6_58 : Cond.methodLink RX6 58 yX6_watchedRanks ∈ gd := gd_5 7 ⟨rfl, rfl⟩
set_option maxRecDepth 100000 in
theorem ml_X10_298 : Cond.methodLink RX10 298 yX3_allOf ∈ gd := gd_5 19 ⟨rfl, rfl⟩
set_option maxRecDepth 100000 in
theorem ml_X10_301 : Cond.methodLink RX10 301 yX1_many ∈ gd := gd_5 24 ⟨rfl, rfl⟩
set_option maxRecDepth 100000 in
theorem ml_X10_302 : Cond.methodLink RX10 302 yX8_filmMany ∈ gd := gd_5 28 ⟨rfl, rfl⟩
set_option maxRecDepth 100000 in
theorem ml_X10_305 : Cond.methodLink RX10 305 yX4_many ∈ gd := gd_5 32 ⟨rfl, rfl⟩
set_option maxRecDepth 100000 in
theorem ml_X10_306 : Cond.methodLink RX10 306 yX7_many ∈ gd := gd_5 36 ⟨rfl, rfl⟩
set_option maxRecDepth 100000 in
theorem ml_X10_307 : Cond.methodLink RX10 307 yX5_byteMany ∈ gd := gd_5 40 ⟨rfl, rfl⟩
set_option maxRecDepth 100000 in
theorem ml_X11_133 : Cond.methodLink RX11 133 yX11_isIn ∈ gd := gd_5 206 ⟨rfl, rfl⟩
set_option maxRecDepth 100000 in
theorem ml_X11_137 : Cond.methodLink RX11 137 yX11_finding ∈ gd := gd_5 209 ⟨rfl, rfl⟩
set_option maxRecDepth 100000 in
theorem ml_X11_141 : Cond.methodLink RX11 141 yX11_isElement ∈ gd := gd_5 218 ⟨rfl, rfl⟩
set_option maxRecDepth 100000 in
theorem ml_X11_145 : Cond.methodLink RX11 145 yX11_allowanceOf ∈ gd := gd_5 222 ⟨rfl, rfl⟩
set_option maxRecDepth 100000 in
theorem ml_X11_148 : Cond.methodLink RX11 148 yX11_isPace ∈ gd := gd_5 234 ⟨rfl, rfl⟩
set_option maxRecDepth 100000 in
theorem ml_X11_154 : Cond.methodLink RX11 154 yX11_habitOf ∈ gd := gd_6 1 ⟨rfl, rfl⟩
set_option maxRecDepth 100000 in
theorem ml_X11_160 : Cond.methodLink RX11 160 yX11_normalOf ∈ gd := gd_6 13 ⟨rfl, rfl⟩
set_option maxRecDepth 100000 in
theorem ml_X11_167 : Cond.methodLink RX11 167 yX11_cyclesOf ∈ gd := gd_6 21 ⟨rfl, rfl⟩
set_option maxRecDepth 100000 in
theorem ml_X11_170 : Cond.methodLink RX11 170 yX11_standardOf ∈ gd := gd_6 25 ⟨rfl, rfl⟩
set_option maxRecDepth 100000 in
theorem ml_X11_163 : Cond.methodLink RX11 163 yX11_keptOf ∈ gd := gd_6 29 ⟨rfl, rfl⟩
set_option maxRecDepth 100000 in
theorem ml_X11_176 : Cond.methodLink RX11 176 yX11_isJob ∈ gd := gd_6 41 ⟨rfl, rfl⟩
set_option maxRecDepth 100000 in
theorem ml_X11_179 : Cond.methodLink RX11 179 yX11_latestOf ∈ gd := gd_6 45 ⟨rfl, rfl⟩
set_option maxRecDepth 100000 in
theorem ml_X11_188 : Cond.methodLink RX11 188 yX11_make ∈ gd := gd_6 53 ⟨rfl, rfl⟩
set_option maxRecDepth 100000 in
theorem ml_X11_182 : Cond.methodLink RX11 182 yX11_sumOf ∈ gd := gd_6 57 ⟨rfl, rfl⟩
set_option maxRecDepth 100000 in
theorem ml_X11_192 : Cond.methodLink RX11 192 yX11_isWeek ∈ gd := gd_6 73 ⟨rfl, rfl⟩
set_option maxRecDepth 100000 in
theorem ml_X11_195 : Cond.methodLink RX11 195 yX11_forceOf ∈ gd := gd_6 76 ⟨rfl, rfl⟩
set_option maxRecDepth 100000 in
theorem ml_X11_214 : Cond.methodLink RX11 214 yX11_readAll ∈ gd := gd_6 96 ⟨rfl, rfl⟩
set_option maxRecDepth 100000 in
theorem ml_X11_211 : Cond.methodLink RX11 211 yX11_wordHere ∈ gd := gd_6 100 ⟨rfl, rfl⟩
set_option maxRecDepth 100000 in
theorem ml_X11_207 : Cond.methodLink RX11 207 yX11_here ∈ gd := gd_6 106 ⟨rfl, rfl⟩
set_option maxRecDepth 100000 in
theorem ml_X11_217 : Cond.methodLink RX11 217 yX11_isWorker ∈ gd := gd_6 118 ⟨rfl, rfl⟩
set_option maxRecDepth 100000 in
theorem ml_X11_227 : Cond.methodLink RX11 227 yX11_earnedBy ∈ gd := gd_6 134 ⟨rfl, rfl⟩
set_option maxRecDepth 100000 in
theorem ml_X11_230 : Cond.methodLink RX11 230 yX11_payOf ∈ gd := gd_6 142 ⟨rfl, rfl⟩
set_option maxRecDepth 100000 in
theorem ml_X11_235 : Cond.methodLink RX11 235 yX11_efficiencyOf ∈ gd := gd_6 158 ⟨rfl, rfl⟩
set_option maxRecDepth 100000 in
theorem ml_X11_241 : Cond.methodLink RX11 241 yX11_isLooser ∈ gd := gd_6 167 ⟨rfl, rfl⟩
set_option maxRecDepth 100000 in
theorem ml_X11_238 : Cond.methodLink RX11 238 yX11_ones ∈ gd := gd_6 171 ⟨rfl, rfl⟩
set_option maxRecDepth 100000 in
theorem nl_X1_22 : Cond.methodLinkNest RX1 22 yX10_isWithin "BenchTimes" ∈ nestW := List.mem_of_getElem? (i := 0) rfl
set_option maxRecDepth 100000 in
theorem nl_X2_29 : Cond.methodLinkNest RX2 29 yX10_isWithin "BenchTimes" ∈ nestW := List.mem_of_getElem? (i := 1) rfl
set_option maxRecDepth 100000 in
theorem nl_X5_80 : Cond.methodLinkNest RX5 80 yX10_isWithin "BenchTimes" ∈ nestW := List.mem_of_getElem? (i := 2) rfl
set_option maxRecDepth 100000 in
theorem nl_X9_84 : Cond.methodLinkNest RX9 84 yX10_isWithin "BenchTimes" ∈ nestW := List.mem_of_getElem? (i := 3) rfl
set_option maxRecDepth 100000 in
theorem nl_X3_52 : Cond.methodLinkNest RX3 52 yX10_isIn "BenchTimes" ∈ nestW := List.mem_of_getElem? (i := 4) rfl
set_option maxRecDepth 100000 in
theorem mb_J0_charAt_5068e : MB yJ0_charAt_5068e cJ0_charAt_5068e 2 (some .char) 1 := ⟨gd_1 15 ⟨rfl, rfl⟩, gd_3 203 ⟨rfl, rfl⟩, by decide +kernel, by decide +kernel, by decide +kernel⟩
set_option maxRecDepth 100000 in
theorem mi_J0_charAt_5068e : MI yJ0_charAt_5068e := ⟨gd_3 201 ⟨rfl, rfl⟩, gd_3 202 ⟨rfl, rfl⟩⟩
set_option maxRecDepth 100000 in
theorem mb_J0_checkIndex_df160 : MB yJ0_checkIndex_df160 cJ0_checkIndex_df160 2 none 2 := ⟨gd_1 15 ⟨rfl, rfl⟩, gd_3 213 ⟨rfl, rfl⟩, by decide +kernel, by decide +kernel, by decide +kernel⟩
set_option maxRecDepth 100000 in
theorem ms_J0_checkIndex_df160 : Cond.static yJ0_checkIndex_df160 ∈ gd := gd_3 212 ⟨rfl, rfl⟩
set_option maxRecDepth 100000 in
theorem mb_J0_coder_7d493 : MB yJ0_coder_7d493 cJ0_coder_7d493 1 (some .byte) 0 := ⟨gd_1 15 ⟨rfl, rfl⟩, gd_3 197 ⟨rfl, rfl⟩, by decide +kernel, by decide +kernel, by decide +kernel⟩
set_option maxRecDepth 100000 in
theorem mi_J0_coder_7d493 : MI yJ0_coder_7d493 := ⟨gd_3 195 ⟨rfl, rfl⟩, gd_3 196 ⟨rfl, rfl⟩⟩
set_option maxRecDepth 100000 in
theorem mb_J0_isLatin1_aae02 : MB yJ0_isLatin1_aae02 cJ0_isLatin1_aae02 1 (some .boolean) 0 := ⟨gd_1 15 ⟨rfl, rfl⟩, gd_3 207 ⟨rfl, rfl⟩, by decide +kernel, by decide +kernel, by decide +kernel⟩
set_option maxRecDepth 100000 in
theorem mi_J0_isLatin1_aae02 : MI yJ0_isLatin1_aae02 := ⟨gd_3 205 ⟨rfl, rfl⟩, gd_3 206 ⟨rfl, rfl⟩⟩
set_option maxRecDepth 100000 in
theorem mb_J0_length_8abf5 : MB yJ0_length_8abf5 cJ0_length_8abf5 1 (some .int) 0 := ⟨gd_1 15 ⟨rfl, rfl⟩, gd_3 193 ⟨rfl, rfl⟩, by decide +kernel, by decide +kernel, by decide +kernel⟩
set_option maxRecDepth 100000 in
theorem mi_J0_length_8abf5 : MI yJ0_length_8abf5 := ⟨gd_3 191 ⟨rfl, rfl⟩, gd_3 192 ⟨rfl, rfl⟩⟩
set_option maxRecDepth 100000 in
theorem mb_J1_charAt_3b067 : MB yJ1_charAt_3b067 cJ1_charAt_3b067 2 (some .char) 2 := ⟨gd_1 16 ⟨rfl, rfl⟩, gd_3 210 ⟨rfl, rfl⟩, by decide +kernel, by decide +kernel, by decide +kernel⟩
set_option maxRecDepth 100000 in
theorem ms_J1_charAt_3b067 : Cond.static yJ1_charAt_3b067 ∈ gd := gd_3 209 ⟨rfl, rfl⟩
set_option maxRecDepth 100000 in
theorem mb_J2_charAt_3b067 : MB yJ2_charAt_3b067 cJ2_charAt_3b067 2 (some .char) 2 := ⟨gd_1 18 ⟨rfl, rfl⟩, gd_3 221 ⟨rfl, rfl⟩, by decide +kernel, by decide +kernel, by decide +kernel⟩
set_option maxRecDepth 100000 in
theorem ms_J2_charAt_3b067 : Cond.static yJ2_charAt_3b067 ∈ gd := gd_3 220 ⟨rfl, rfl⟩
set_option maxRecDepth 100000 in
theorem mb_J2_checkIndex_2214a : MB yJ2_checkIndex_2214a cJ2_checkIndex_2214a 2 none 2 := ⟨gd_1 18 ⟨rfl, rfl⟩, gd_3 224 ⟨rfl, rfl⟩, by decide +kernel, by decide +kernel, by decide +kernel⟩
set_option maxRecDepth 100000 in
theorem ms_J2_checkIndex_2214a : Cond.static yJ2_checkIndex_2214a ∈ gd := gd_3 223 ⟨rfl, rfl⟩
set_option maxRecDepth 100000 in
theorem mb_J2_getChar_3b067 : MB yJ2_getChar_3b067 cJ2_getChar_3b067 2 (some .char) 2 := ⟨gd_1 18 ⟨rfl, rfl⟩, gd_3 231 ⟨rfl, rfl⟩, by decide +kernel, by decide +kernel, by decide +kernel⟩
set_option maxRecDepth 100000 in
theorem ms_J2_getChar_3b067 : Cond.static yJ2_getChar_3b067 ∈ gd := gd_3 230 ⟨rfl, rfl⟩
set_option maxRecDepth 100000 in
theorem mb_J2_length_9d52b : MB yJ2_length_9d52b cJ2_length_9d52b 1 (some .int) 1 := ⟨gd_1 18 ⟨rfl, rfl⟩, gd_3 227 ⟨rfl, rfl⟩, by decide +kernel, by decide +kernel, by decide +kernel⟩
set_option maxRecDepth 100000 in
theorem ms_J2_length_9d52b : Cond.static yJ2_length_9d52b ∈ gd := gd_3 226 ⟨rfl, rfl⟩
set_option maxRecDepth 100000 in
theorem mb_J3_checkIndex_8e157 : MB yJ3_checkIndex_8e157 cJ3_checkIndex_8e157 3 (some .int) 3 := ⟨gd_1 17 ⟨rfl, rfl⟩, gd_3 218 ⟨rfl, rfl⟩, by decide +kernel, by decide +kernel, by decide +kernel⟩
set_option maxRecDepth 100000 in
theorem ms_J3_checkIndex_8e157 : Cond.static yJ3_checkIndex_8e157 ∈ gd := gd_3 217 ⟨rfl, rfl⟩
set_option maxRecDepth 100000 in
theorem mb_J7_fill_53178 : MB yJ7_fill_53178 cJ7_fill_53178 4 none 2 := ⟨gd_1 8 ⟨rfl, rfl⟩, gd_1 183 ⟨rfl, rfl⟩, by decide +kernel, by decide +kernel, by decide +kernel⟩
set_option maxRecDepth 100000 in
theorem ms_J7_fill_53178 : Cond.static yJ7_fill_53178 ∈ gd := gd_1 182 ⟨rfl, rfl⟩
set_option maxRecDepth 100000 in
theorem mb_J7_fill_d0a16 : MB yJ7_fill_d0a16 cJ7_fill_d0a16 5 none 2 := ⟨gd_1 8 ⟨rfl, rfl⟩, gd_4 151 ⟨rfl, rfl⟩, by decide +kernel, by decide +kernel, by decide +kernel⟩
set_option maxRecDepth 100000 in
theorem ms_J7_fill_d0a16 : Cond.static yJ7_fill_d0a16 ∈ gd := gd_4 150 ⟨rfl, rfl⟩
set_option maxRecDepth 100000 in
theorem mb_J9_abs_0f7a4 : MB yJ9_abs_0f7a4 cJ9_abs_0f7a4 1 (some .int) 1 := ⟨gd_1 14 ⟨rfl, rfl⟩, gd_2 237 ⟨rfl, rfl⟩, by decide +kernel, by decide +kernel, by decide +kernel⟩
set_option maxRecDepth 100000 in
theorem ms_J9_abs_0f7a4 : Cond.static yJ9_abs_0f7a4 ∈ gd := gd_2 236 ⟨rfl, rfl⟩
set_option maxRecDepth 100000 in
theorem mb_J9_max_7cf53 : MB yJ9_max_7cf53 cJ9_max_7cf53 2 (some .int) 2 := ⟨gd_1 14 ⟨rfl, rfl⟩, gd_2 209 ⟨rfl, rfl⟩, by decide +kernel, by decide +kernel, by decide +kernel⟩
set_option maxRecDepth 100000 in
theorem ms_J9_max_7cf53 : Cond.static yJ9_max_7cf53 ∈ gd := gd_2 208 ⟨rfl, rfl⟩
set_option maxRecDepth 100000 in
theorem mb_J9_min_7cf53 : MB yJ9_min_7cf53 cJ9_min_7cf53 2 (some .int) 2 := ⟨gd_1 14 ⟨rfl, rfl⟩, gd_4 79 ⟨rfl, rfl⟩, by decide +kernel, by decide +kernel, by decide +kernel⟩
set_option maxRecDepth 100000 in
theorem ms_J9_min_7cf53 : Cond.static yJ9_min_7cf53 ∈ gd := gd_4 78 ⟨rfl, rfl⟩
set_option maxRecDepth 100000 in
theorem mb_X0_efficiencyOf : MB yX0_efficiencyOf cX0_efficiencyOf 4 (some .int) 2 := ⟨gd_1 11 ⟨rfl, rfl⟩, gd_4 170 ⟨rfl, rfl⟩, by decide +kernel, by decide +kernel, by decide +kernel⟩
set_option maxRecDepth 100000 in
theorem mi_X0_efficiencyOf : MI yX0_efficiencyOf := ⟨gd_4 168 ⟨rfl, rfl⟩, gd_4 169 ⟨rfl, rfl⟩⟩
set_option maxRecDepth 100000 in
theorem mb_X0_hasRows : MB yX0_hasRows cX0_hasRows 3 (some .boolean) 1 := ⟨gd_1 11 ⟨rfl, rfl⟩, gd_4 200 ⟨rfl, rfl⟩, by decide +kernel, by decide +kernel, by decide +kernel⟩
set_option maxRecDepth 100000 in
theorem mi_X0_hasRows : MI yX0_hasRows := ⟨gd_4 199 ⟨rfl, rfl⟩, gd_p 17 ⟨rfl, rfl⟩⟩
set_option maxRecDepth 100000 in
theorem mb_X0_init : MB yX0_init cX0_init 2 none 1 := ⟨gd_1 11 ⟨rfl, rfl⟩, gd_2 20 ⟨rfl, rfl⟩, by decide +kernel, by decide +kernel, by decide +kernel⟩
set_option maxRecDepth 100000 in
theorem mb_X0_isLooser : MB yX0_isLooser cX0_isLooser 8 (some .boolean) 2 := ⟨gd_1 11 ⟨rfl, rfl⟩, gd_4 179 ⟨rfl, rfl⟩, by decide +kernel, by decide +kernel, by decide +kernel⟩
set_option maxRecDepth 100000 in
theorem mi_X0_isLooser : MI yX0_isLooser := ⟨gd_4 177 ⟨rfl, rfl⟩, gd_4 178 ⟨rfl, rfl⟩⟩
set_option maxRecDepth 100000 in
theorem mb_X0_jobAt : MB yX0_jobAt cX0_jobAt 3 (some .int) 1 := ⟨gd_1 11 ⟨rfl, rfl⟩, gd_4 191 ⟨rfl, rfl⟩, by decide +kernel, by decide +kernel, by decide +kernel⟩
set_option maxRecDepth 100000 in
theorem mi_X0_jobAt : MI yX0_jobAt := ⟨gd_4 189 ⟨rfl, rfl⟩, gd_4 190 ⟨rfl, rfl⟩⟩
set_option maxRecDepth 100000 in
theorem mb_X0_manyAhead : MB yX0_manyAhead cX0_manyAhead 5 (some .int) 1 := ⟨gd_1 11 ⟨rfl, rfl⟩, gd_4 204 ⟨rfl, rfl⟩, by decide +kernel, by decide +kernel, by decide +kernel⟩
set_option maxRecDepth 100000 in
theorem mi_X0_manyAhead : MI yX0_manyAhead := ⟨gd_4 203 ⟨rfl, rfl⟩, gd_p 18 ⟨rfl, rfl⟩⟩
set_option maxRecDepth 100000 in
theorem mb_X0_reckonScores : MB yX0_reckonScores cX0_reckonScores 3 none 0 := ⟨gd_1 11 ⟨rfl, rfl⟩, gd_4 195 ⟨rfl, rfl⟩, by decide +kernel, by decide +kernel, by decide +kernel⟩
set_option maxRecDepth 100000 in
theorem mi_X0_reckonScores : MI yX0_reckonScores := ⟨gd_4 194 ⟨rfl, rfl⟩, gd_p 16 ⟨rfl, rfl⟩⟩
set_option maxRecDepth 100000 in
theorem mb_X0_survey : MB yX0_survey cX0_survey 3 none 0 := ⟨gd_1 11 ⟨rfl, rfl⟩, gd_4 148 ⟨rfl, rfl⟩, by decide +kernel, by decide +kernel, by decide +kernel⟩
set_option maxRecDepth 100000 in
theorem mi_X0_survey : MI yX0_survey := ⟨gd_4 146 ⟨rfl, rfl⟩, gd_4 147 ⟨rfl, rfl⟩⟩
set_option maxRecDepth 100000 in
theorem mb_X0_waysToChoose : MB yX0_waysToChoose cX0_waysToChoose 5 (some .int) 2 := ⟨gd_1 11 ⟨rfl, rfl⟩, gd_4 183 ⟨rfl, rfl⟩, by decide +kernel, by decide +kernel, by decide +kernel⟩
set_option maxRecDepth 100000 in
theorem ms_X0_waysToChoose : Cond.static yX0_waysToChoose ∈ gd := gd_4 182 ⟨rfl, rfl⟩
set_option maxRecDepth 100000 in
theorem mb_X10_allow : MB yX10_allow cX10_allow 3 (some .int) 2 := ⟨gd_1 1 ⟨rfl, rfl⟩, gd_2 150 ⟨rfl, rfl⟩, by decide +kernel, by decide +kernel, by decide +kernel⟩
set_option maxRecDepth 100000 in
theorem mi_X10_allow : MI yX10_allow := ⟨gd_2 148 ⟨rfl, rfl⟩, gd_2 149 ⟨rfl, rfl⟩⟩
set_option maxRecDepth 100000 in
theorem mb_X10_as : MB yX10_as cX10_as 3 (some .int) 2 := ⟨gd_1 1 ⟨rfl, rfl⟩, gd_2 132 ⟨rfl, rfl⟩, by decide +kernel, by decide +kernel, by decide +kernel⟩
set_option maxRecDepth 100000 in
theorem mi_X10_as : MI yX10_as := ⟨gd_2 130 ⟨rfl, rfl⟩, gd_2 131 ⟨rfl, rfl⟩⟩
set_option maxRecDepth 100000 in
theorem mb_X10_cause : MB yX10_cause cX10_cause 2 (some .int) 1 := ⟨gd_1 1 ⟨rfl, rfl⟩, gd_4 120 ⟨rfl, rfl⟩, by decide +kernel, by decide +kernel, by decide +kernel⟩
set_option maxRecDepth 100000 in
theorem mi_X10_cause : MI yX10_cause := ⟨gd_4 118 ⟨rfl, rfl⟩, gd_4 119 ⟨rfl, rfl⟩⟩
set_option maxRecDepth 100000 in
theorem mb_X10_change : MB yX10_change cX10_change 5 (some .int) 1 := ⟨gd_1 1 ⟨rfl, rfl⟩, gd_3 95 ⟨rfl, rfl⟩, by decide +kernel, by decide +kernel, by decide +kernel⟩
set_option maxRecDepth 100000 in
theorem mi_X10_change : MI yX10_change := ⟨gd_3 93 ⟨rfl, rfl⟩, gd_3 94 ⟨rfl, rfl⟩⟩
set_option maxRecDepth 100000 in
theorem mb_X10_check : MB yX10_check cX10_check 4 (some .int) 1 := ⟨gd_1 1 ⟨rfl, rfl⟩, gd_5 18 ⟨rfl, rfl⟩, by decide +kernel, by decide +kernel, by decide +kernel⟩
set_option maxRecDepth 100000 in
theorem mi_X10_check : MI yX10_check := ⟨gd_5 16 ⟨rfl, rfl⟩, gd_5 17 ⟨rfl, rfl⟩⟩
set_option maxRecDepth 100000 in
theorem mb_X10_count : MB yX10_count cX10_count 2 (some .int) 1 := ⟨gd_1 1 ⟨rfl, rfl⟩, gd_5 23 ⟨rfl, rfl⟩, by decide +kernel, by decide +kernel, by decide +kernel⟩
set_option maxRecDepth 100000 in
theorem mi_X10_count : MI yX10_count := ⟨gd_5 21 ⟨rfl, rfl⟩, gd_5 22 ⟨rfl, rfl⟩⟩
set_option maxRecDepth 100000 in
theorem mb_X10_cycle : MB yX10_cycle cX10_cycle 5 (some .int) 4 := ⟨gd_1 1 ⟨rfl, rfl⟩, gd_2 185 ⟨rfl, rfl⟩, by decide +kernel, by decide +kernel, by decide +kernel⟩
set_option maxRecDepth 100000 in
theorem mi_X10_cycle : MI yX10_cycle := ⟨gd_2 183 ⟨rfl, rfl⟩, gd_2 184 ⟨rfl, rfl⟩⟩
set_option maxRecDepth 100000 in
theorem mb_X10_earned : MB yX10_earned cX10_earned 2 (some .int) 1 := ⟨gd_1 1 ⟨rfl, rfl⟩, gd_4 66 ⟨rfl, rfl⟩, by decide +kernel, by decide +kernel, by decide +kernel⟩
set_option maxRecDepth 100000 in
theorem mi_X10_earned : MI yX10_earned := ⟨gd_4 64 ⟨rfl, rfl⟩, gd_4 65 ⟨rfl, rfl⟩⟩
set_option maxRecDepth 100000 in
theorem mb_X10_efficiency : MB yX10_efficiency cX10_efficiency 3 (some .int) 2 := ⟨gd_1 1 ⟨rfl, rfl⟩, gd_4 144 ⟨rfl, rfl⟩, by decide +kernel, by decide +kernel, by decide +kernel⟩
set_option maxRecDepth 100000 in
theorem mi_X10_efficiency : MI yX10_efficiency := ⟨gd_4 142 ⟨rfl, rfl⟩, gd_4 143 ⟨rfl, rfl⟩⟩
set_option maxRecDepth 100000 in
theorem mb_X10_element : MB yX10_element cX10_element 2 (some .int) 1 := ⟨gd_1 1 ⟨rfl, rfl⟩, gd_2 109 ⟨rfl, rfl⟩, by decide +kernel, by decide +kernel, by decide +kernel⟩
set_option maxRecDepth 100000 in
theorem mi_X10_element : MI yX10_element := ⟨gd_2 107 ⟨rfl, rfl⟩, gd_2 108 ⟨rfl, rfl⟩⟩
set_option maxRecDepth 100000 in
theorem mb_X10_feed : MB yX10_feed cX10_feed 2 (some .int) 1 := ⟨gd_1 1 ⟨rfl, rfl⟩, gd_3 148 ⟨rfl, rfl⟩, by decide +kernel, by decide +kernel, by decide +kernel⟩
set_option maxRecDepth 100000 in
theorem mi_X10_feed : MI yX10_feed := ⟨gd_3 146 ⟨rfl, rfl⟩, gd_3 147 ⟨rfl, rfl⟩⟩
set_option maxRecDepth 100000 in
theorem mb_X10_film : MB yX10_film cX10_film 4 (some .int) 3 := ⟨gd_1 1 ⟨rfl, rfl⟩, gd_2 159 ⟨rfl, rfl⟩, by decide +kernel, by decide +kernel, by decide +kernel⟩
set_option maxRecDepth 100000 in
theorem mi_X10_film : MI yX10_film := ⟨gd_2 157 ⟨rfl, rfl⟩, gd_2 158 ⟨rfl, rfl⟩⟩
set_option maxRecDepth 100000 in
theorem mb_X10_finding : MB yX10_finding cX10_finding 2 (some .int) 1 := ⟨gd_1 1 ⟨rfl, rfl⟩, gd_2 119 ⟨rfl, rfl⟩, by decide +kernel, by decide +kernel, by decide +kernel⟩
set_option maxRecDepth 100000 in
theorem mi_X10_finding : MI yX10_finding := ⟨gd_2 118 ⟨rfl, rfl⟩, gd_p 0 ⟨rfl, rfl⟩⟩
set_option maxRecDepth 100000 in
theorem mb_X10_found : MB yX10_found cX10_found 2 (some .int) 1 := ⟨gd_1 1 ⟨rfl, rfl⟩, gd_5 47 ⟨rfl, rfl⟩, by decide +kernel, by decide +kernel, by decide +kernel⟩
set_option maxRecDepth 100000 in
theorem mi_X10_found : MI yX10_found := ⟨gd_5 45 ⟨rfl, rfl⟩, gd_5 46 ⟨rfl, rfl⟩⟩
set_option maxRecDepth 100000 in
theorem mb_X10_habit : MB yX10_habit cX10_habit 2 (some .int) 1 := ⟨gd_1 1 ⟨rfl, rfl⟩, gd_2 177 ⟨rfl, rfl⟩, by decide +kernel, by decide +kernel, by decide +kernel⟩
set_option maxRecDepth 100000 in
theorem mi_X10_habit : MI yX10_habit := ⟨gd_2 175 ⟨rfl, rfl⟩, gd_2 176 ⟨rfl, rfl⟩⟩
set_option maxRecDepth 100000 in
theorem mb_X10_init : MB yX10_init cX10_init 1 none 0 := ⟨gd_1 1 ⟨rfl, rfl⟩, gd_1 23 ⟨rfl, rfl⟩, by decide +kernel, by decide +kernel, by decide +kernel⟩
set_option maxRecDepth 100000 in
theorem mb_X10_isCause : MB yX10_isCause cX10_isCause 1 (some .boolean) 1 := ⟨gd_1 1 ⟨rfl, rfl⟩, gd_4 46 ⟨rfl, rfl⟩, by decide +kernel, by decide +kernel, by decide +kernel⟩
set_option maxRecDepth 100000 in
theorem ms_X10_isCause : Cond.static yX10_isCause ∈ gd := gd_4 45 ⟨rfl, rfl⟩
set_option maxRecDepth 100000 in
theorem mb_X10_isIn : MB yX10_isIn cX10_isIn 2 (some .boolean) 2 := ⟨gd_1 1 ⟨rfl, rfl⟩, gd_4 131 ⟨rfl, rfl⟩, by decide +kernel, by decide +kernel, by decide +kernel⟩
set_option maxRecDepth 100000 in
theorem ms_X10_isIn : Cond.static yX10_isIn ∈ gd := gd_4 130 ⟨rfl, rfl⟩
set_option maxRecDepth 100000 in
theorem mb_X10_isOn : MB yX10_isOn cX10_isOn 2 (some .boolean) 1 := ⟨gd_1 1 ⟨rfl, rfl⟩, gd_4 26 ⟨rfl, rfl⟩, by decide +kernel, by decide +kernel, by decide +kernel⟩
set_option maxRecDepth 100000 in
theorem mi_X10_isOn : MI yX10_isOn := ⟨gd_4 25 ⟨rfl, rfl⟩, gd_p 12 ⟨rfl, rfl⟩⟩
set_option maxRecDepth 100000 in
theorem mb_X10_isPace : MB yX10_isPace cX10_isPace 1 (some .boolean) 1 := ⟨gd_1 1 ⟨rfl, rfl⟩, gd_2 165 ⟨rfl, rfl⟩, by decide +kernel, by decide +kernel, by decide +kernel⟩
set_option maxRecDepth 100000 in
theorem ms_X10_isPace : Cond.static yX10_isPace ∈ gd := gd_2 164 ⟨rfl, rfl⟩
set_option maxRecDepth 100000 in
theorem mb_X10_isRater : MB yX10_isRater cX10_isRater 1 (some .boolean) 1 := ⟨gd_1 1 ⟨rfl, rfl⟩, gd_2 162 ⟨rfl, rfl⟩, by decide +kernel, by decide +kernel, by decide +kernel⟩
set_option maxRecDepth 100000 in
theorem ms_X10_isRater : Cond.static yX10_isRater ∈ gd := gd_2 161 ⟨rfl, rfl⟩
set_option maxRecDepth 100000 in
theorem mb_X10_isWeek : MB yX10_isWeek cX10_isWeek 1 (some .boolean) 1 := ⟨gd_1 1 ⟨rfl, rfl⟩, gd_3 127 ⟨rfl, rfl⟩, by decide +kernel, by decide +kernel, by decide +kernel⟩
set_option maxRecDepth 100000 in
theorem ms_X10_isWeek : Cond.static yX10_isWeek ∈ gd := gd_3 126 ⟨rfl, rfl⟩
set_option maxRecDepth 100000 in
theorem mb_X10_isWithin : MB yX10_isWithin cX10_isWithin 3 (some .boolean) 3 := ⟨gd_1 1 ⟨rfl, rfl⟩, gd_2 115 ⟨rfl, rfl⟩, by decide +kernel, by decide +kernel, by decide +kernel⟩
set_option maxRecDepth 100000 in
theorem ms_X10_isWithin : Cond.static yX10_isWithin ∈ gd := gd_2 114 ⟨rfl, rfl⟩
set_option maxRecDepth 100000 in
theorem mb_X10_isWorker : MB yX10_isWorker cX10_isWorker 1 (some .boolean) 1 := ⟨gd_1 1 ⟨rfl, rfl⟩, gd_4 29 ⟨rfl, rfl⟩, by decide +kernel, by decide +kernel, by decide +kernel⟩
set_option maxRecDepth 100000 in
theorem ms_X10_isWorker : Cond.static yX10_isWorker ∈ gd := gd_4 28 ⟨rfl, rfl⟩
set_option maxRecDepth 100000 in
theorem mb_X10_job : MB yX10_job cX10_job 1 (some .int) 0 := ⟨gd_1 1 ⟨rfl, rfl⟩, gd_3 6 ⟨rfl, rfl⟩, by decide +kernel, by decide +kernel, by decide +kernel⟩
set_option maxRecDepth 100000 in
theorem mi_X10_job : MI yX10_job := ⟨gd_3 4 ⟨rfl, rfl⟩, gd_3 5 ⟨rfl, rfl⟩⟩
set_option maxRecDepth 100000 in
theorem mb_X10_learner : MB yX10_learner cX10_learner 4 (some .int) 3 := ⟨gd_1 1 ⟨rfl, rfl⟩, gd_4 58 ⟨rfl, rfl⟩, by decide +kernel, by decide +kernel, by decide +kernel⟩
set_option maxRecDepth 100000 in
theorem mi_X10_learner : MI yX10_learner := ⟨gd_4 56 ⟨rfl, rfl⟩, gd_4 57 ⟨rfl, rfl⟩⟩
set_option maxRecDepth 100000 in
theorem mb_X10_looser : MB yX10_looser cX10_looser 3 (some .int) 2 := ⟨gd_1 1 ⟨rfl, rfl⟩, gd_4 175 ⟨rfl, rfl⟩, by decide +kernel, by decide +kernel, by decide +kernel⟩
set_option maxRecDepth 100000 in
theorem mi_X10_looser : MI yX10_looser := ⟨gd_4 173 ⟨rfl, rfl⟩, gd_4 174 ⟨rfl, rfl⟩⟩
set_option maxRecDepth 100000 in
theorem mb_X10_move : MB yX10_move cX10_move 4 (some .int) 1 := ⟨gd_1 1 ⟨rfl, rfl⟩, gd_3 107 ⟨rfl, rfl⟩, by decide +kernel, by decide +kernel, by decide +kernel⟩
set_option maxRecDepth 100000 in
theorem mi_X10_move : MI yX10_move := ⟨gd_3 105 ⟨rfl, rfl⟩, gd_3 106 ⟨rfl, rfl⟩⟩
set_option maxRecDepth 100000 in
theorem mb_X10_newRate : MB yX10_newRate cX10_newRate 3 (some .int) 2 := ⟨gd_1 1 ⟨rfl, rfl⟩, gd_3 51 ⟨rfl, rfl⟩, by decide +kernel, by decide +kernel, by decide +kernel⟩
set_option maxRecDepth 100000 in
theorem mi_X10_newRate : MI yX10_newRate := ⟨gd_3 50 ⟨rfl, rfl⟩, gd_p 4 ⟨rfl, rfl⟩⟩
set_option maxRecDepth 100000 in
theorem mb_X10_normal : MB yX10_normal cX10_normal 2 (some .int) 1 := ⟨gd_1 1 ⟨rfl, rfl⟩, gd_2 197 ⟨rfl, rfl⟩, by decide +kernel, by decide +kernel, by decide +kernel⟩
set_option maxRecDepth 100000 in
theorem mi_X10_normal : MI yX10_normal := ⟨gd_2 195 ⟨rfl, rfl⟩, gd_2 196 ⟨rfl, rfl⟩⟩
set_option maxRecDepth 100000 in
theorem mb_X10_of : MB yX10_of cX10_of 3 (some .int) 2 := ⟨gd_1 1 ⟨rfl, rfl⟩, gd_2 213 ⟨rfl, rfl⟩, by decide +kernel, by decide +kernel, by decide +kernel⟩
set_option maxRecDepth 100000 in
theorem mi_X10_of : MI yX10_of := ⟨gd_2 211 ⟨rfl, rfl⟩, gd_2 212 ⟨rfl, rfl⟩⟩
set_option maxRecDepth 100000 in
theorem mb_X10_orNone : MB yX10_orNone cX10_orNone 2 (some .int) 1 := ⟨gd_1 1 ⟨rfl, rfl⟩, gd_4 140 ⟨rfl, rfl⟩, by decide +kernel, by decide +kernel, by decide +kernel⟩
set_option maxRecDepth 100000 in
theorem mi_X10_orNone : MI yX10_orNone := ⟨gd_4 139 ⟨rfl, rfl⟩, gd_p 15 ⟨rfl, rfl⟩⟩
set_option maxRecDepth 100000 in
theorem mb_X10_order : MB yX10_order cX10_order 2 (some .int) 1 := ⟨gd_1 1 ⟨rfl, rfl⟩, gd_4 187 ⟨rfl, rfl⟩, by decide +kernel, by decide +kernel, by decide +kernel⟩
set_option maxRecDepth 100000 in
theorem mi_X10_order : MI yX10_order := ⟨gd_4 185 ⟨rfl, rfl⟩, gd_4 186 ⟨rfl, rfl⟩⟩
set_option maxRecDepth 100000 in
theorem mb_X10_part : MB yX10_part cX10_part 4 (some .int) 3 := ⟨gd_1 1 ⟨rfl, rfl⟩, gd_3 18 ⟨rfl, rfl⟩, by decide +kernel, by decide +kernel, by decide +kernel⟩
set_option maxRecDepth 100000 in
theorem mi_X10_part : MI yX10_part := ⟨gd_3 16 ⟨rfl, rfl⟩, gd_3 17 ⟨rfl, rfl⟩⟩
set_option maxRecDepth 100000 in
theorem mb_X10_pay : MB yX10_pay cX10_pay 4 (some .int) 3 := ⟨gd_1 1 ⟨rfl, rfl⟩, gd_4 89 ⟨rfl, rfl⟩, by decide +kernel, by decide +kernel, by decide +kernel⟩
set_option maxRecDepth 100000 in
theorem mi_X10_pay : MI yX10_pay := ⟨gd_4 87 ⟨rfl, rfl⟩, gd_4 88 ⟨rfl, rfl⟩⟩
set_option maxRecDepth 100000 in
theorem mb_X10_pool : MB yX10_pool cX10_pool 4 (some .int) 3 := ⟨gd_1 1 ⟨rfl, rfl⟩, gd_4 128 ⟨rfl, rfl⟩, by decide +kernel, by decide +kernel, by decide +kernel⟩
set_option maxRecDepth 100000 in
theorem mi_X10_pool : MI yX10_pool := ⟨gd_4 126 ⟨rfl, rfl⟩, gd_4 127 ⟨rfl, rfl⟩⟩
set_option maxRecDepth 100000 in
theorem mb_X10_rate : MB yX10_rate cX10_rate 4 (some .int) 2 := ⟨gd_1 1 ⟨rfl, rfl⟩, gd_3 124 ⟨rfl, rfl⟩, by decide +kernel, by decide +kernel, by decide +kernel⟩
set_option maxRecDepth 100000 in
theorem mi_X10_rate : MI yX10_rate := ⟨gd_3 122 ⟨rfl, rfl⟩, gd_3 123 ⟨rfl, rfl⟩⟩
set_option maxRecDepth 100000 in
theorem mb_X10_read : MB yX10_read cX10_read 1 (some .int) 0 := ⟨gd_1 1 ⟨rfl, rfl⟩, gd_3 160 ⟨rfl, rfl⟩, by decide +kernel, by decide +kernel, by decide +kernel⟩
set_option maxRecDepth 100000 in
theorem mi_X10_read : MI yX10_read := ⟨gd_3 158 ⟨rfl, rfl⟩, gd_3 159 ⟨rfl, rfl⟩⟩
set_option maxRecDepth 100000 in
theorem mb_X10_rule : MB yX10_rule cX10_rule 2 (some .int) 1 := ⟨gd_1 1 ⟨rfl, rfl⟩, gd_4 18 ⟨rfl, rfl⟩, by decide +kernel, by decide +kernel, by decide +kernel⟩
set_option maxRecDepth 100000 in
theorem mi_X10_rule : MI yX10_rule := ⟨gd_4 16 ⟨rfl, rfl⟩, gd_4 17 ⟨rfl, rfl⟩⟩
set_option maxRecDepth 100000 in
theorem mb_X10_set : MB yX10_set cX10_set 2 (some .int) 1 := ⟨gd_1 1 ⟨rfl, rfl⟩, gd_3 43 ⟨rfl, rfl⟩, by decide +kernel, by decide +kernel, by decide +kernel⟩
set_option maxRecDepth 100000 in
theorem mi_X10_set : MI yX10_set := ⟨gd_3 41 ⟨rfl, rfl⟩, gd_3 42 ⟨rfl, rfl⟩⟩
set_option maxRecDepth 100000 in
theorem mb_X10_slow : MB yX10_slow cX10_slow 3 (some .int) 2 := ⟨gd_1 1 ⟨rfl, rfl⟩, gd_4 208 ⟨rfl, rfl⟩, by decide +kernel, by decide +kernel, by decide +kernel⟩
set_option maxRecDepth 100000 in
theorem mi_X10_slow : MI yX10_slow := ⟨gd_4 206 ⟨rfl, rfl⟩, gd_4 207 ⟨rfl, rfl⟩⟩
set_option maxRecDepth 100000 in
theorem mb_X10_tell : MB yX10_tell cX10_tell 2 (some .int) 1 := ⟨gd_1 1 ⟨rfl, rfl⟩, gd_5 14 ⟨rfl, rfl⟩, by decide +kernel, by decide +kernel, by decide +kernel⟩
set_option maxRecDepth 100000 in
theorem mi_X10_tell : MI yX10_tell := ⟨gd_5 12 ⟨rfl, rfl⟩, gd_5 13 ⟨rfl, rfl⟩⟩
set_option maxRecDepth 100000 in
theorem mb_X10_wait : MB yX10_wait cX10_wait 5 (some .int) 4 := ⟨gd_1 1 ⟨rfl, rfl⟩, gd_4 43 ⟨rfl, rfl⟩, by decide +kernel, by decide +kernel, by decide +kernel⟩
set_option maxRecDepth 100000 in
theorem mi_X10_wait : MI yX10_wait := ⟨gd_4 41 ⟨rfl, rfl⟩, gd_4 42 ⟨rfl, rfl⟩⟩
set_option maxRecDepth 100000 in
theorem mb_X10_week : MB yX10_week cX10_week 3 (some .int) 1 := ⟨gd_1 1 ⟨rfl, rfl⟩, gd_3 144 ⟨rfl, rfl⟩, by decide +kernel, by decide +kernel, by decide +kernel⟩
set_option maxRecDepth 100000 in
theorem mi_X10_week : MI yX10_week := ⟨gd_3 142 ⟨rfl, rfl⟩, gd_3 143 ⟨rfl, rfl⟩⟩
set_option maxRecDepth 100000 in
theorem mb_X10_work : MB yX10_work cX10_work 5 (some .int) 4 := ⟨gd_1 1 ⟨rfl, rfl⟩, gd_4 22 ⟨rfl, rfl⟩, by decide +kernel, by decide +kernel, by decide +kernel⟩
set_option maxRecDepth 100000 in
theorem mi_X10_work : MI yX10_work := ⟨gd_4 20 ⟨rfl, rfl⟩, gd_4 21 ⟨rfl, rfl⟩⟩
set_option maxRecDepth 100000 in
theorem mb_X10_worth : MB yX10_worth cX10_worth 5 (some .int) 3 := ⟨gd_1 1 ⟨rfl, rfl⟩, gd_3 139 ⟨rfl, rfl⟩, by decide +kernel, by decide +kernel, by decide +kernel⟩
set_option maxRecDepth 100000 in
theorem mi_X10_worth : MI yX10_worth := ⟨gd_3 137 ⟨rfl, rfl⟩, gd_3 138 ⟨rfl, rfl⟩⟩
set_option maxRecDepth 100000 in
theorem mb_X11_allow : MB yX11_allow cX11_allow 3 (some .int) 2 := ⟨gd_1 13 ⟨rfl, rfl⟩, gd_5 229 ⟨rfl, rfl⟩, by decide +kernel, by decide +kernel, by decide +kernel⟩
set_option maxRecDepth 100000 in
theorem mi_X11_allow : MI yX11_allow := ⟨gd_5 227 ⟨rfl, rfl⟩, gd_5 228 ⟨rfl, rfl⟩⟩
set_option maxRecDepth 100000 in
theorem mb_X11_allowanceOf : MB yX11_allowanceOf cX11_allowanceOf 2 (some .int) 1 := ⟨gd_1 13 ⟨rfl, rfl⟩, gd_5 225 ⟨rfl, rfl⟩, by decide +kernel, by decide +kernel, by decide +kernel⟩
set_option maxRecDepth 100000 in
theorem mi_X11_allowanceOf : MI yX11_allowanceOf := ⟨gd_5 224 ⟨rfl, rfl⟩, gd_p 25 ⟨rfl, rfl⟩⟩
set_option maxRecDepth 100000 in
theorem mb_X11_as : MB yX11_as cX11_as 3 (some .int) 2 := ⟨gd_1 13 ⟨rfl, rfl⟩, gd_5 217 ⟨rfl, rfl⟩, by decide +kernel, by decide +kernel, by decide +kernel⟩
set_option maxRecDepth 100000 in
theorem mi_X11_as : MI yX11_as := ⟨gd_5 215 ⟨rfl, rfl⟩, gd_5 216 ⟨rfl, rfl⟩⟩
set_option maxRecDepth 100000 in
theorem mb_X11_cause : MB yX11_cause cX11_cause 4 (some .int) 1 := ⟨gd_1 13 ⟨rfl, rfl⟩, gd_6 149 ⟨rfl, rfl⟩, by decide +kernel, by decide +kernel, by decide +kernel⟩
set_option maxRecDepth 100000 in
theorem mi_X11_cause : MI yX11_cause := ⟨gd_6 147 ⟨rfl, rfl⟩, gd_6 148 ⟨rfl, rfl⟩⟩
set_option maxRecDepth 100000 in
theorem mb_X11_change : MB yX11_change cX11_change 5 (some .int) 1 := ⟨gd_1 13 ⟨rfl, rfl⟩, gd_6 64 ⟨rfl, rfl⟩, by decide +kernel, by decide +kernel, by decide +kernel⟩
set_option maxRecDepth 100000 in
theorem mi_X11_change : MI yX11_change := ⟨gd_6 62 ⟨rfl, rfl⟩, gd_6 63 ⟨rfl, rfl⟩⟩
set_option maxRecDepth 100000 in
theorem mb_X11_check : MB yX11_check cX11_check 4 (some .int) 1 := ⟨gd_1 13 ⟨rfl, rfl⟩, gd_6 189 ⟨rfl, rfl⟩, by decide +kernel, by decide +kernel, by decide +kernel⟩
set_option maxRecDepth 100000 in
theorem mi_X11_check : MI yX11_check := ⟨gd_6 187 ⟨rfl, rfl⟩, gd_6 188 ⟨rfl, rfl⟩⟩
set_option maxRecDepth 100000 in
theorem mb_X11_count : MB yX11_count cX11_count 2 (some .int) 1 := ⟨gd_1 13 ⟨rfl, rfl⟩, gd_6 193 ⟨rfl, rfl⟩, by decide +kernel, by decide +kernel, by decide +kernel⟩
set_option maxRecDepth 100000 in
theorem mi_X11_count : MI yX11_count := ⟨gd_6 191 ⟨rfl, rfl⟩, gd_6 192 ⟨rfl, rfl⟩⟩
set_option maxRecDepth 100000 in
theorem mb_X11_cycle : MB yX11_cycle cX11_cycle 5 (some .int) 4 := ⟨gd_1 13 ⟨rfl, rfl⟩, gd_6 8 ⟨rfl, rfl⟩, by decide +kernel, by decide +kernel, by decide +kernel⟩
set_option maxRecDepth 100000 in
theorem mi_X11_cycle : MI yX11_cycle := ⟨gd_6 6 ⟨rfl, rfl⟩, gd_6 7 ⟨rfl, rfl⟩⟩
set_option maxRecDepth 100000 in
theorem mb_X11_cyclesOf : MB yX11_cyclesOf cX11_cyclesOf 4 (some .int) 1 := ⟨gd_1 13 ⟨rfl, rfl⟩, gd_6 24 ⟨rfl, rfl⟩, by decide +kernel, by decide +kernel, by decide +kernel⟩
set_option maxRecDepth 100000 in
theorem mi_X11_cyclesOf : MI yX11_cyclesOf := ⟨gd_6 23 ⟨rfl, rfl⟩, gd_p 28 ⟨rfl, rfl⟩⟩
set_option maxRecDepth 100000 in
theorem mb_X11_earned : MB yX11_earned cX11_earned 2 (some .int) 1 := ⟨gd_1 13 ⟨rfl, rfl⟩, gd_6 133 ⟨rfl, rfl⟩, by decide +kernel, by decide +kernel, by decide +kernel⟩
set_option maxRecDepth 100000 in
theorem mi_X11_earned : MI yX11_earned := ⟨gd_6 131 ⟨rfl, rfl⟩, gd_6 132 ⟨rfl, rfl⟩⟩
set_option maxRecDepth 100000 in
theorem mb_X11_earnedBy : MB yX11_earnedBy cX11_earnedBy 6 (some .int) 1 := ⟨gd_1 13 ⟨rfl, rfl⟩, gd_6 137 ⟨rfl, rfl⟩, by decide +kernel, by decide +kernel, by decide +kernel⟩
set_option maxRecDepth 100000 in
theorem mi_X11_earnedBy : MI yX11_earnedBy := ⟨gd_6 136 ⟨rfl, rfl⟩, gd_p 39 ⟨rfl, rfl⟩⟩
set_option maxRecDepth 100000 in
theorem mb_X11_efficiency : MB yX11_efficiency cX11_efficiency 4 (some .int) 2 := ⟨gd_1 13 ⟨rfl, rfl⟩, gd_6 157 ⟨rfl, rfl⟩, by decide +kernel, by decide +kernel, by decide +kernel⟩
set_option maxRecDepth 100000 in
theorem mi_X11_efficiency : MI yX11_efficiency := ⟨gd_6 155 ⟨rfl, rfl⟩, gd_6 156 ⟨rfl, rfl⟩⟩
set_option maxRecDepth 100000 in
theorem mb_X11_efficiencyOf : MB yX11_efficiencyOf cX11_efficiencyOf 8 (some .int) 2 := ⟨gd_1 13 ⟨rfl, rfl⟩, gd_6 161 ⟨rfl, rfl⟩, by decide +kernel, by decide +kernel, by decide +kernel⟩
set_option maxRecDepth 100000 in
theorem mi_X11_efficiencyOf : MI yX11_efficiencyOf := ⟨gd_6 160 ⟨rfl, rfl⟩, gd_p 41 ⟨rfl, rfl⟩⟩
set_option maxRecDepth 100000 in
theorem mb_X11_element : MB yX11_element cX11_element 2 (some .int) 1 := ⟨gd_1 13 ⟨rfl, rfl⟩, gd_5 205 ⟨rfl, rfl⟩, by decide +kernel, by decide +kernel, by decide +kernel⟩
set_option maxRecDepth 100000 in
theorem mi_X11_element : MI yX11_element := ⟨gd_5 203 ⟨rfl, rfl⟩, gd_5 204 ⟨rfl, rfl⟩⟩
set_option maxRecDepth 100000 in
theorem mb_X11_feed : MB yX11_feed cX11_feed 2 (some .int) 1 := ⟨gd_1 13 ⟨rfl, rfl⟩, gd_6 91 ⟨rfl, rfl⟩, by decide +kernel, by decide +kernel, by decide +kernel⟩
set_option maxRecDepth 100000 in
theorem mi_X11_feed : MI yX11_feed := ⟨gd_6 89 ⟨rfl, rfl⟩, gd_6 90 ⟨rfl, rfl⟩⟩
set_option maxRecDepth 100000 in
theorem mb_X11_film : MB yX11_film cX11_film 4 (some .int) 3 := ⟨gd_1 13 ⟨rfl, rfl⟩, gd_5 233 ⟨rfl, rfl⟩, by decide +kernel, by decide +kernel, by decide +kernel⟩
set_option maxRecDepth 100000 in
theorem mi_X11_film : MI yX11_film := ⟨gd_5 231 ⟨rfl, rfl⟩, gd_5 232 ⟨rfl, rfl⟩⟩
set_option maxRecDepth 100000 in
theorem mb_X11_finding : MB yX11_finding cX11_finding 2 (some .int) 1 := ⟨gd_1 13 ⟨rfl, rfl⟩, gd_5 212 ⟨rfl, rfl⟩, by decide +kernel, by decide +kernel, by decide +kernel⟩
set_option maxRecDepth 100000 in
theorem mi_X11_finding : MI yX11_finding := ⟨gd_5 211 ⟨rfl, rfl⟩, gd_p 23 ⟨rfl, rfl⟩⟩
set_option maxRecDepth 100000 in
theorem mb_X11_forceOf : MB yX11_forceOf cX11_forceOf 5 (some .int) 2 := ⟨gd_1 13 ⟨rfl, rfl⟩, gd_6 79 ⟨rfl, rfl⟩, by decide +kernel, by decide +kernel, by decide +kernel⟩
set_option maxRecDepth 100000 in
theorem mi_X11_forceOf : MI yX11_forceOf := ⟨gd_6 78 ⟨rfl, rfl⟩, gd_p 35 ⟨rfl, rfl⟩⟩
set_option maxRecDepth 100000 in
theorem mb_X11_found : MB yX11_found cX11_found 2 (some .int) 1 := ⟨gd_1 13 ⟨rfl, rfl⟩, gd_6 197 ⟨rfl, rfl⟩, by decide +kernel, by decide +kernel, by decide +kernel⟩
set_option maxRecDepth 100000 in
theorem mi_X11_found : MI yX11_found := ⟨gd_6 195 ⟨rfl, rfl⟩, gd_6 196 ⟨rfl, rfl⟩⟩
set_option maxRecDepth 100000 in
theorem mb_X11_habit : MB yX11_habit cX11_habit 2 (some .int) 1 := ⟨gd_1 13 ⟨rfl, rfl⟩, gd_6 0 ⟨rfl, rfl⟩, by decide +kernel, by decide +kernel, by decide +kernel⟩
set_option maxRecDepth 100000 in
theorem mi_X11_habit : MI yX11_habit := ⟨gd_5 238 ⟨rfl, rfl⟩, gd_5 239 ⟨rfl, rfl⟩⟩
set_option maxRecDepth 100000 in
theorem mb_X11_habitOf : MB yX11_habitOf cX11_habitOf 5 (some .int) 1 := ⟨gd_1 13 ⟨rfl, rfl⟩, gd_6 4 ⟨rfl, rfl⟩, by decide +kernel, by decide +kernel, by decide +kernel⟩
set_option maxRecDepth 100000 in
theorem mi_X11_habitOf : MI yX11_habitOf := ⟨gd_6 3 ⟨rfl, rfl⟩, gd_p 26 ⟨rfl, rfl⟩⟩
set_option maxRecDepth 100000 in
theorem mb_X11_here : MB yX11_here cX11_here 1 (some .int) 0 := ⟨gd_1 13 ⟨rfl, rfl⟩, gd_6 109 ⟨rfl, rfl⟩, by decide +kernel, by decide +kernel, by decide +kernel⟩
set_option maxRecDepth 100000 in
theorem mi_X11_here : MI yX11_here := ⟨gd_6 108 ⟨rfl, rfl⟩, gd_p 38 ⟨rfl, rfl⟩⟩
set_option maxRecDepth 100000 in
theorem mb_X11_init : MB yX11_init cX11_init 2 none 0 := ⟨gd_1 13 ⟨rfl, rfl⟩, gd_5 52 ⟨rfl, rfl⟩, by decide +kernel, by decide +kernel, by decide +kernel⟩
set_option maxRecDepth 100000 in
theorem mb_X11_isElement : MB yX11_isElement cX11_isElement 2 (some .boolean) 1 := ⟨gd_1 13 ⟨rfl, rfl⟩, gd_5 221 ⟨rfl, rfl⟩, by decide +kernel, by decide +kernel, by decide +kernel⟩
set_option maxRecDepth 100000 in
theorem mi_X11_isElement : MI yX11_isElement := ⟨gd_5 220 ⟨rfl, rfl⟩, gd_p 24 ⟨rfl, rfl⟩⟩
set_option maxRecDepth 100000 in
theorem mb_X11_isIn : MB yX11_isIn cX11_isIn 3 (some .boolean) 3 := ⟨gd_1 13 ⟨rfl, rfl⟩, gd_5 208 ⟨rfl, rfl⟩, by decide +kernel, by decide +kernel, by decide +kernel⟩
set_option maxRecDepth 100000 in
theorem ms_X11_isIn : Cond.static yX11_isIn ∈ gd := gd_5 207 ⟨rfl, rfl⟩
set_option maxRecDepth 100000 in
theorem mb_X11_isJob : MB yX11_isJob cX11_isJob 2 (some .boolean) 1 := ⟨gd_1 13 ⟨rfl, rfl⟩, gd_6 44 ⟨rfl, rfl⟩, by decide +kernel, by decide +kernel, by decide +kernel⟩
set_option maxRecDepth 100000 in
theorem mi_X11_isJob : MI yX11_isJob := ⟨gd_6 43 ⟨rfl, rfl⟩, gd_p 31 ⟨rfl, rfl⟩⟩
set_option maxRecDepth 100000 in
theorem mb_X11_isLooser : MB yX11_isLooser cX11_isLooser 8 (some .boolean) 2 := ⟨gd_1 13 ⟨rfl, rfl⟩, gd_6 170 ⟨rfl, rfl⟩, by decide +kernel, by decide +kernel, by decide +kernel⟩
set_option maxRecDepth 100000 in
theorem mi_X11_isLooser : MI yX11_isLooser := ⟨gd_6 169 ⟨rfl, rfl⟩, gd_p 42 ⟨rfl, rfl⟩⟩
set_option maxRecDepth 100000 in
theorem mb_X11_isPace : MB yX11_isPace cX11_isPace 1 (some .boolean) 1 := ⟨gd_1 13 ⟨rfl, rfl⟩, gd_5 236 ⟨rfl, rfl⟩, by decide +kernel, by decide +kernel, by decide +kernel⟩
set_option maxRecDepth 100000 in
theorem ms_X11_isPace : Cond.static yX11_isPace ∈ gd := gd_5 235 ⟨rfl, rfl⟩
set_option maxRecDepth 100000 in
theorem mb_X11_isWeek : MB yX11_isWeek cX11_isWeek 1 (some .boolean) 1 := ⟨gd_1 13 ⟨rfl, rfl⟩, gd_6 75 ⟨rfl, rfl⟩, by decide +kernel, by decide +kernel, by decide +kernel⟩
set_option maxRecDepth 100000 in
theorem ms_X11_isWeek : Cond.static yX11_isWeek ∈ gd := gd_6 74 ⟨rfl, rfl⟩
set_option maxRecDepth 100000 in
theorem mb_X11_isWorker : MB yX11_isWorker cX11_isWorker 1 (some .boolean) 1 := ⟨gd_1 13 ⟨rfl, rfl⟩, gd_6 120 ⟨rfl, rfl⟩, by decide +kernel, by decide +kernel, by decide +kernel⟩
set_option maxRecDepth 100000 in
theorem ms_X11_isWorker : Cond.static yX11_isWorker ∈ gd := gd_6 119 ⟨rfl, rfl⟩
set_option maxRecDepth 100000 in
theorem mb_X11_job : MB yX11_job cX11_job 1 (some .int) 0 := ⟨gd_1 13 ⟨rfl, rfl⟩, gd_6 36 ⟨rfl, rfl⟩, by decide +kernel, by decide +kernel, by decide +kernel⟩
set_option maxRecDepth 100000 in
theorem mi_X11_job : MI yX11_job := ⟨gd_6 34 ⟨rfl, rfl⟩, gd_6 35 ⟨rfl, rfl⟩⟩
set_option maxRecDepth 100000 in
theorem mb_X11_keptOf : MB yX11_keptOf cX11_keptOf 11 (some .int) 2 := ⟨gd_1 13 ⟨rfl, rfl⟩, gd_6 32 ⟨rfl, rfl⟩, by decide +kernel, by decide +kernel, by decide +kernel⟩
set_option maxRecDepth 100000 in
theorem mi_X11_keptOf : MI yX11_keptOf := ⟨gd_6 31 ⟨rfl, rfl⟩, gd_p 30 ⟨rfl, rfl⟩⟩
set_option maxRecDepth 100000 in
theorem mb_X11_latestOf : MB yX11_latestOf cX11_latestOf 4 (some .int) 1 := ⟨gd_1 13 ⟨rfl, rfl⟩, gd_6 48 ⟨rfl, rfl⟩, by decide +kernel, by decide +kernel, by decide +kernel⟩
set_option maxRecDepth 100000 in
theorem mi_X11_latestOf : MI yX11_latestOf := ⟨gd_6 47 ⟨rfl, rfl⟩, gd_p 32 ⟨rfl, rfl⟩⟩
set_option maxRecDepth 100000 in
theorem mb_X11_learner : MB yX11_learner cX11_learner 5 (some .int) 3 := ⟨gd_1 13 ⟨rfl, rfl⟩, gd_6 129 ⟨rfl, rfl⟩, by decide +kernel, by decide +kernel, by decide +kernel⟩
set_option maxRecDepth 100000 in
theorem mi_X11_learner : MI yX11_learner := ⟨gd_6 127 ⟨rfl, rfl⟩, gd_6 128 ⟨rfl, rfl⟩⟩
set_option maxRecDepth 100000 in
theorem mb_X11_looser : MB yX11_looser cX11_looser 3 (some .int) 2 := ⟨gd_1 13 ⟨rfl, rfl⟩, gd_6 166 ⟨rfl, rfl⟩, by decide +kernel, by decide +kernel, by decide +kernel⟩
set_option maxRecDepth 100000 in
theorem mi_X11_looser : MI yX11_looser := ⟨gd_6 164 ⟨rfl, rfl⟩, gd_6 165 ⟨rfl, rfl⟩⟩
set_option maxRecDepth 100000 in
theorem mb_X11_make : MB yX11_make cX11_make 6 (some .int) 3 := ⟨gd_1 13 ⟨rfl, rfl⟩, gd_6 56 ⟨rfl, rfl⟩, by decide +kernel, by decide +kernel, by decide +kernel⟩
set_option maxRecDepth 100000 in
theorem mi_X11_make : MI yX11_make := ⟨gd_6 55 ⟨rfl, rfl⟩, gd_p 33 ⟨rfl, rfl⟩⟩
set_option maxRecDepth 100000 in
theorem mb_X11_move : MB yX11_move cX11_move 6 (some .int) 1 := ⟨gd_1 13 ⟨rfl, rfl⟩, gd_6 68 ⟨rfl, rfl⟩, by decide +kernel, by decide +kernel, by decide +kernel⟩
set_option maxRecDepth 100000 in
theorem mi_X11_move : MI yX11_move := ⟨gd_6 66 ⟨rfl, rfl⟩, gd_6 67 ⟨rfl, rfl⟩⟩
set_option maxRecDepth 100000 in
theorem mb_X11_normal : MB yX11_normal cX11_normal 2 (some .int) 1 := ⟨gd_1 13 ⟨rfl, rfl⟩, gd_6 12 ⟨rfl, rfl⟩, by decide +kernel, by decide +kernel, by decide +kernel⟩
set_option maxRecDepth 100000 in
theorem mi_X11_normal : MI yX11_normal := ⟨gd_6 10 ⟨rfl, rfl⟩, gd_6 11 ⟨rfl, rfl⟩⟩
set_option maxRecDepth 100000 in
theorem mb_X11_normalOf : MB yX11_normalOf cX11_normalOf 3 (some .int) 1 := ⟨gd_1 13 ⟨rfl, rfl⟩, gd_6 16 ⟨rfl, rfl⟩, by decide +kernel, by decide +kernel, by decide +kernel⟩
set_option maxRecDepth 100000 in
theorem mi_X11_normalOf : MI yX11_normalOf := ⟨gd_6 15 ⟨rfl, rfl⟩, gd_p 27 ⟨rfl, rfl⟩⟩
set_option maxRecDepth 100000 in
theorem mb_X11_of : MB yX11_of cX11_of 3 (some .int) 2 := ⟨gd_1 13 ⟨rfl, rfl⟩, gd_6 20 ⟨rfl, rfl⟩, by decide +kernel, by decide +kernel, by decide +kernel⟩
set_option maxRecDepth 100000 in
theorem mi_X11_of : MI yX11_of := ⟨gd_6 18 ⟨rfl, rfl⟩, gd_6 19 ⟨rfl, rfl⟩⟩
set_option maxRecDepth 100000 in
theorem mb_X11_ones : MB yX11_ones cX11_ones 3 (some .int) 1 := ⟨gd_1 13 ⟨rfl, rfl⟩, gd_6 173 ⟨rfl, rfl⟩, by decide +kernel, by decide +kernel, by decide +kernel⟩
set_option maxRecDepth 100000 in
theorem ms_X11_ones : Cond.static yX11_ones ∈ gd := gd_6 172 ⟨rfl, rfl⟩
set_option maxRecDepth 100000 in
theorem mb_X11_order : MB yX11_order cX11_order 5 (some .int) 1 := ⟨gd_1 13 ⟨rfl, rfl⟩, gd_6 177 ⟨rfl, rfl⟩, by decide +kernel, by decide +kernel, by decide +kernel⟩
set_option maxRecDepth 100000 in
theorem mi_X11_order : MI yX11_order := ⟨gd_6 175 ⟨rfl, rfl⟩, gd_6 176 ⟨rfl, rfl⟩⟩
set_option maxRecDepth 100000 in
theorem mb_X11_part : MB yX11_part cX11_part 6 (some .int) 3 := ⟨gd_1 13 ⟨rfl, rfl⟩, gd_6 40 ⟨rfl, rfl⟩, by decide +kernel, by decide +kernel, by decide +kernel⟩
set_option maxRecDepth 100000 in
theorem mi_X11_part : MI yX11_part := ⟨gd_6 38 ⟨rfl, rfl⟩, gd_6 39 ⟨rfl, rfl⟩⟩
set_option maxRecDepth 100000 in
theorem mb_X11_pay : MB yX11_pay cX11_pay 4 (some .int) 3 := ⟨gd_1 13 ⟨rfl, rfl⟩, gd_6 141 ⟨rfl, rfl⟩, by decide +kernel, by decide +kernel, by decide +kernel⟩
set_option maxRecDepth 100000 in
theorem mi_X11_pay : MI yX11_pay := ⟨gd_6 139 ⟨rfl, rfl⟩, gd_6 140 ⟨rfl, rfl⟩⟩
set_option maxRecDepth 100000 in
theorem mb_X11_payOf : MB yX11_payOf cX11_payOf 9 (some .int) 3 := ⟨gd_1 13 ⟨rfl, rfl⟩, gd_6 145 ⟨rfl, rfl⟩, by decide +kernel, by decide +kernel, by decide +kernel⟩
set_option maxRecDepth 100000 in
theorem mi_X11_payOf : MI yX11_payOf := ⟨gd_6 144 ⟨rfl, rfl⟩, gd_p 40 ⟨rfl, rfl⟩⟩
set_option maxRecDepth 100000 in
theorem mb_X11_pool : MB yX11_pool cX11_pool 16 (some .int) 3 := ⟨gd_1 13 ⟨rfl, rfl⟩, gd_6 153 ⟨rfl, rfl⟩, by decide +kernel, by decide +kernel, by decide +kernel⟩
set_option maxRecDepth 100000 in
theorem mi_X11_pool : MI yX11_pool := ⟨gd_6 151 ⟨rfl, rfl⟩, gd_6 152 ⟨rfl, rfl⟩⟩
set_option maxRecDepth 100000 in
theorem mb_X11_rate : MB yX11_rate cX11_rate 4 (some .int) 2 := ⟨gd_1 13 ⟨rfl, rfl⟩, gd_6 72 ⟨rfl, rfl⟩, by decide +kernel, by decide +kernel, by decide +kernel⟩
set_option maxRecDepth 100000 in
theorem mi_X11_rate : MI yX11_rate := ⟨gd_6 70 ⟨rfl, rfl⟩, gd_6 71 ⟨rfl, rfl⟩⟩
set_option maxRecDepth 100000 in
theorem mb_X11_read : MB yX11_read cX11_read 4 (some .int) 0 := ⟨gd_1 13 ⟨rfl, rfl⟩, gd_6 95 ⟨rfl, rfl⟩, by decide +kernel, by decide +kernel, by decide +kernel⟩
set_option maxRecDepth 100000 in
theorem mi_X11_read : MI yX11_read := ⟨gd_6 93 ⟨rfl, rfl⟩, gd_6 94 ⟨rfl, rfl⟩⟩
set_option maxRecDepth 100000 in
theorem mb_X11_readAll : MB yX11_readAll cX11_readAll 4 (some .int) 0 := ⟨gd_1 13 ⟨rfl, rfl⟩, gd_6 99 ⟨rfl, rfl⟩, by decide +kernel, by decide +kernel, by decide +kernel⟩
set_option maxRecDepth 100000 in
theorem mi_X11_readAll : MI yX11_readAll := ⟨gd_6 98 ⟨rfl, rfl⟩, gd_p 36 ⟨rfl, rfl⟩⟩
set_option maxRecDepth 100000 in
theorem mb_X11_rule : MB yX11_rule cX11_rule 2 (some .int) 1 := ⟨gd_1 13 ⟨rfl, rfl⟩, gd_6 113 ⟨rfl, rfl⟩, by decide +kernel, by decide +kernel, by decide +kernel⟩
set_option maxRecDepth 100000 in
theorem mi_X11_rule : MI yX11_rule := ⟨gd_6 111 ⟨rfl, rfl⟩, gd_6 112 ⟨rfl, rfl⟩⟩
set_option maxRecDepth 100000 in
theorem mb_X11_set : MB yX11_set cX11_set 3 (some .int) 1 := ⟨gd_1 13 ⟨rfl, rfl⟩, gd_6 52 ⟨rfl, rfl⟩, by decide +kernel, by decide +kernel, by decide +kernel⟩
set_option maxRecDepth 100000 in
theorem mi_X11_set : MI yX11_set := ⟨gd_6 50 ⟨rfl, rfl⟩, gd_6 51 ⟨rfl, rfl⟩⟩
set_option maxRecDepth 100000 in
theorem mb_X11_slow : MB yX11_slow cX11_slow 12 (some .int) 2 := ⟨gd_1 13 ⟨rfl, rfl⟩, gd_6 181 ⟨rfl, rfl⟩, by decide +kernel, by decide +kernel, by decide +kernel⟩
set_option maxRecDepth 100000 in
theorem mi_X11_slow : MI yX11_slow := ⟨gd_6 179 ⟨rfl, rfl⟩, gd_6 180 ⟨rfl, rfl⟩⟩
set_option maxRecDepth 100000 in
theorem mb_X11_standardOf : MB yX11_standardOf cX11_standardOf 3 (some .int) 1 := ⟨gd_1 13 ⟨rfl, rfl⟩, gd_6 28 ⟨rfl, rfl⟩, by decide +kernel, by decide +kernel, by decide +kernel⟩
set_option maxRecDepth 100000 in
theorem mi_X11_standardOf : MI yX11_standardOf := ⟨gd_6 27 ⟨rfl, rfl⟩, gd_p 29 ⟨rfl, rfl⟩⟩
set_option maxRecDepth 100000 in
theorem mb_X11_sumOf : MB yX11_sumOf cX11_sumOf 4 (some .int) 1 := ⟨gd_1 13 ⟨rfl, rfl⟩, gd_6 60 ⟨rfl, rfl⟩, by decide +kernel, by decide +kernel, by decide +kernel⟩
set_option maxRecDepth 100000 in
theorem mi_X11_sumOf : MI yX11_sumOf := ⟨gd_6 59 ⟨rfl, rfl⟩, gd_p 34 ⟨rfl, rfl⟩⟩
set_option maxRecDepth 100000 in
theorem mb_X11_tell : MB yX11_tell cX11_tell 2 (some .int) 1 := ⟨gd_1 13 ⟨rfl, rfl⟩, gd_6 185 ⟨rfl, rfl⟩, by decide +kernel, by decide +kernel, by decide +kernel⟩
set_option maxRecDepth 100000 in
theorem mi_X11_tell : MI yX11_tell := ⟨gd_6 183 ⟨rfl, rfl⟩, gd_6 184 ⟨rfl, rfl⟩⟩
set_option maxRecDepth 100000 in
theorem mb_X11_wait : MB yX11_wait cX11_wait 5 (some .int) 4 := ⟨gd_1 13 ⟨rfl, rfl⟩, gd_6 125 ⟨rfl, rfl⟩, by decide +kernel, by decide +kernel, by decide +kernel⟩
set_option maxRecDepth 100000 in
theorem mi_X11_wait : MI yX11_wait := ⟨gd_6 123 ⟨rfl, rfl⟩, gd_6 124 ⟨rfl, rfl⟩⟩
set_option maxRecDepth 100000 in
theorem mb_X11_week : MB yX11_week cX11_week 3 (some .int) 1 := ⟨gd_1 13 ⟨rfl, rfl⟩, gd_6 87 ⟨rfl, rfl⟩, by decide +kernel, by decide +kernel, by decide +kernel⟩
set_option maxRecDepth 100000 in
theorem mi_X11_week : MI yX11_week := ⟨gd_6 85 ⟨rfl, rfl⟩, gd_6 86 ⟨rfl, rfl⟩⟩
set_option maxRecDepth 100000 in
theorem mb_X11_wordHere : MB yX11_wordHere cX11_wordHere 6 (some .int) 0 := ⟨gd_1 13 ⟨rfl, rfl⟩, gd_6 103 ⟨rfl, rfl⟩, by decide +kernel, by decide +kernel, by decide +kernel⟩
set_option maxRecDepth 100000 in
theorem mi_X11_wordHere : MI yX11_wordHere := ⟨gd_6 102 ⟨rfl, rfl⟩, gd_p 37 ⟨rfl, rfl⟩⟩
set_option maxRecDepth 100000 in
theorem mb_X11_work : MB yX11_work cX11_work 6 (some .int) 4 := ⟨gd_1 13 ⟨rfl, rfl⟩, gd_6 117 ⟨rfl, rfl⟩, by decide +kernel, by decide +kernel, by decide +kernel⟩
set_option maxRecDepth 100000 in
theorem mi_X11_work : MI yX11_work := ⟨gd_6 115 ⟨rfl, rfl⟩, gd_6 116 ⟨rfl, rfl⟩⟩
set_option maxRecDepth 100000 in
theorem mb_X11_worth : MB yX11_worth cX11_worth 5 (some .int) 3 := ⟨gd_1 13 ⟨rfl, rfl⟩, gd_6 83 ⟨rfl, rfl⟩, by decide +kernel, by decide +kernel, by decide +kernel⟩
set_option maxRecDepth 100000 in
theorem mi_X11_worth : MI yX11_worth := ⟨gd_6 81 ⟨rfl, rfl⟩, gd_6 82 ⟨rfl, rfl⟩⟩
set_option maxRecDepth 100000 in
theorem mb_X1_add : MB yX1_add cX1_add 2 (some .int) 1 := ⟨gd_1 2 ⟨rfl, rfl⟩, gd_2 128 ⟨rfl, rfl⟩, by decide +kernel, by decide +kernel, by decide +kernel⟩
set_option maxRecDepth 100000 in
theorem mi_X1_add : MI yX1_add := ⟨gd_2 126 ⟨rfl, rfl⟩, gd_2 127 ⟨rfl, rfl⟩⟩
set_option maxRecDepth 100000 in
theorem mb_X1_allowanceOf : MB yX1_allowanceOf cX1_allowanceOf 2 (some .int) 1 := ⟨gd_1 2 ⟨rfl, rfl⟩, gd_2 146 ⟨rfl, rfl⟩, by decide +kernel, by decide +kernel, by decide +kernel⟩
set_option maxRecDepth 100000 in
theorem mi_X1_allowanceOf : MI yX1_allowanceOf := ⟨gd_2 144 ⟨rfl, rfl⟩, gd_2 145 ⟨rfl, rfl⟩⟩
set_option maxRecDepth 100000 in
theorem mb_X1_has : MB yX1_has cX1_has 2 (some .boolean) 1 := ⟨gd_1 2 ⟨rfl, rfl⟩, gd_2 136 ⟨rfl, rfl⟩, by decide +kernel, by decide +kernel, by decide +kernel⟩
set_option maxRecDepth 100000 in
theorem mi_X1_has : MI yX1_has := ⟨gd_2 134 ⟨rfl, rfl⟩, gd_2 135 ⟨rfl, rfl⟩⟩
set_option maxRecDepth 100000 in
theorem mb_X1_init : MB yX1_init cX1_init 1 none 0 := ⟨gd_1 2 ⟨rfl, rfl⟩, gd_1 31 ⟨rfl, rfl⟩, by decide +kernel, by decide +kernel, by decide +kernel⟩
set_option maxRecDepth 100000 in
theorem mb_X1_isFull : MB yX1_isFull cX1_isFull 1 (some .boolean) 0 := ⟨gd_1 2 ⟨rfl, rfl⟩, gd_2 124 ⟨rfl, rfl⟩, by decide +kernel, by decide +kernel, by decide +kernel⟩
set_option maxRecDepth 100000 in
theorem mi_X1_isFull : MI yX1_isFull := ⟨gd_2 122 ⟨rfl, rfl⟩, gd_2 123 ⟨rfl, rfl⟩⟩
set_option maxRecDepth 100000 in
theorem mb_X1_isKind : MB yX1_isKind cX1_isKind 1 (some .boolean) 1 := ⟨gd_1 2 ⟨rfl, rfl⟩, gd_2 112 ⟨rfl, rfl⟩, by decide +kernel, by decide +kernel, by decide +kernel⟩
set_option maxRecDepth 100000 in
theorem ms_X1_isKind : Cond.static yX1_isKind ∈ gd := gd_2 111 ⟨rfl, rfl⟩
set_option maxRecDepth 100000 in
theorem mb_X1_isUnder : MB yX1_isUnder cX1_isUnder 5 (some .boolean) 2 := ⟨gd_1 2 ⟨rfl, rfl⟩, gd_2 140 ⟨rfl, rfl⟩, by decide +kernel, by decide +kernel, by decide +kernel⟩
set_option maxRecDepth 100000 in
theorem mi_X1_isUnder : MI yX1_isUnder := ⟨gd_2 138 ⟨rfl, rfl⟩, gd_2 139 ⟨rfl, rfl⟩⟩
set_option maxRecDepth 100000 in
theorem mb_X1_kindOf : MB yX1_kindOf cX1_kindOf 2 (some .int) 1 := ⟨gd_1 2 ⟨rfl, rfl⟩, gd_2 217 ⟨rfl, rfl⟩, by decide +kernel, by decide +kernel, by decide +kernel⟩
set_option maxRecDepth 100000 in
theorem mi_X1_kindOf : MI yX1_kindOf := ⟨gd_2 215 ⟨rfl, rfl⟩, gd_2 216 ⟨rfl, rfl⟩⟩
set_option maxRecDepth 100000 in
theorem mb_X1_many : MB yX1_many cX1_many 1 (some .int) 0 := ⟨gd_1 2 ⟨rfl, rfl⟩, gd_5 27 ⟨rfl, rfl⟩, by decide +kernel, by decide +kernel, by decide +kernel⟩
set_option maxRecDepth 100000 in
theorem mi_X1_many : MI yX1_many := ⟨gd_5 25 ⟨rfl, rfl⟩, gd_5 26 ⟨rfl, rfl⟩⟩
set_option maxRecDepth 100000 in
theorem mb_X1_setAllowances : MB yX1_setAllowances cX1_setAllowances 3 none 2 := ⟨gd_1 2 ⟨rfl, rfl⟩, gd_2 155 ⟨rfl, rfl⟩, by decide +kernel, by decide +kernel, by decide +kernel⟩
set_option maxRecDepth 100000 in
theorem mi_X1_setAllowances : MI yX1_setAllowances := ⟨gd_2 153 ⟨rfl, rfl⟩, gd_2 154 ⟨rfl, rfl⟩⟩
set_option maxRecDepth 100000 in
theorem mb_X2_add : MB yX2_add cX2_add 1 (some .int) 0 := ⟨gd_1 4 ⟨rfl, rfl⟩, gd_3 14 ⟨rfl, rfl⟩, by decide +kernel, by decide +kernel, by decide +kernel⟩
set_option maxRecDepth 100000 in
theorem mi_X2_add : MI yX2_add := ⟨gd_3 12 ⟨rfl, rfl⟩, gd_3 13 ⟨rfl, rfl⟩⟩
set_option maxRecDepth 100000 in
theorem mb_X2_addPart : MB yX2_addPart cX2_addPart 5 (some .int) 3 := ⟨gd_1 4 ⟨rfl, rfl⟩, gd_3 39 ⟨rfl, rfl⟩, by decide +kernel, by decide +kernel, by decide +kernel⟩
set_option maxRecDepth 100000 in
theorem mi_X2_addPart : MI yX2_addPart := ⟨gd_3 37 ⟨rfl, rfl⟩, gd_3 38 ⟨rfl, rfl⟩⟩
set_option maxRecDepth 100000 in
theorem mb_X2_clearMarks : MB yX2_clearMarks cX2_clearMarks 3 none 1 := ⟨gd_1 4 ⟨rfl, rfl⟩, gd_3 91 ⟨rfl, rfl⟩, by decide +kernel, by decide +kernel, by decide +kernel⟩
set_option maxRecDepth 100000 in
theorem mi_X2_clearMarks : MI yX2_clearMarks := ⟨gd_3 89 ⟨rfl, rfl⟩, gd_3 90 ⟨rfl, rfl⟩⟩
set_option maxRecDepth 100000 in
theorem mb_X2_elementAt : MB yX2_elementAt cX2_elementAt 3 (some .int) 2 := ⟨gd_1 4 ⟨rfl, rfl⟩, gd_3 64 ⟨rfl, rfl⟩, by decide +kernel, by decide +kernel, by decide +kernel⟩
set_option maxRecDepth 100000 in
theorem mi_X2_elementAt : MI yX2_elementAt := ⟨gd_3 62 ⟨rfl, rfl⟩, gd_3 63 ⟨rfl, rfl⟩⟩
set_option maxRecDepth 100000 in
theorem mb_X2_has : MB yX2_has cX2_has 2 (some .boolean) 1 := ⟨gd_1 4 ⟨rfl, rfl⟩, gd_3 22 ⟨rfl, rfl⟩, by decide +kernel, by decide +kernel, by decide +kernel⟩
set_option maxRecDepth 100000 in
theorem mi_X2_has : MI yX2_has := ⟨gd_3 20 ⟨rfl, rfl⟩, gd_3 21 ⟨rfl, rfl⟩⟩
set_option maxRecDepth 100000 in
theorem mb_X2_init : MB yX2_init cX2_init 1 none 0 := ⟨gd_1 4 ⟨rfl, rfl⟩, gd_1 106 ⟨rfl, rfl⟩, by decide +kernel, by decide +kernel, by decide +kernel⟩
set_option maxRecDepth 100000 in
theorem mb_X2_isFull : MB yX2_isFull cX2_isFull 1 (some .boolean) 0 := ⟨gd_1 4 ⟨rfl, rfl⟩, gd_3 10 ⟨rfl, rfl⟩, by decide +kernel, by decide +kernel, by decide +kernel⟩
set_option maxRecDepth 100000 in
theorem mi_X2_isFull : MI yX2_isFull := ⟨gd_3 8 ⟨rfl, rfl⟩, gd_3 9 ⟨rfl, rfl⟩⟩
set_option maxRecDepth 100000 in
theorem mb_X2_isFullOfParts : MB yX2_isFullOfParts cX2_isFullOfParts 2 (some .boolean) 1 := ⟨gd_1 4 ⟨rfl, rfl⟩, gd_3 35 ⟨rfl, rfl⟩, by decide +kernel, by decide +kernel, by decide +kernel⟩
set_option maxRecDepth 100000 in
theorem mi_X2_isFullOfParts : MI yX2_isFullOfParts := ⟨gd_3 33 ⟨rfl, rfl⟩, gd_3 34 ⟨rfl, rfl⟩⟩
set_option maxRecDepth 100000 in
theorem mb_X2_isMarked : MB yX2_isMarked cX2_isMarked 3 (some .boolean) 2 := ⟨gd_1 4 ⟨rfl, rfl⟩, gd_3 60 ⟨rfl, rfl⟩, by decide +kernel, by decide +kernel, by decide +kernel⟩
set_option maxRecDepth 100000 in
theorem mi_X2_isMarked : MI yX2_isMarked := ⟨gd_3 58 ⟨rfl, rfl⟩, gd_3 59 ⟨rfl, rfl⟩⟩
set_option maxRecDepth 100000 in
theorem mb_X2_many : MB yX2_many cX2_many 1 (some .int) 0 := ⟨gd_1 4 ⟨rfl, rfl⟩, gd_3 99 ⟨rfl, rfl⟩, by decide +kernel, by decide +kernel, by decide +kernel⟩
set_option maxRecDepth 100000 in
theorem mi_X2_many : MI yX2_many := ⟨gd_3 97 ⟨rfl, rfl⟩, gd_3 98 ⟨rfl, rfl⟩⟩
set_option maxRecDepth 100000 in
theorem mb_X2_mark : MB yX2_mark cX2_mark 3 none 2 := ⟨gd_1 4 ⟨rfl, rfl⟩, gd_3 103 ⟨rfl, rfl⟩, by decide +kernel, by decide +kernel, by decide +kernel⟩
set_option maxRecDepth 100000 in
theorem mi_X2_mark : MI yX2_mark := ⟨gd_3 101 ⟨rfl, rfl⟩, gd_3 102 ⟨rfl, rfl⟩⟩
set_option maxRecDepth 100000 in
theorem mb_X2_oftenAt : MB yX2_oftenAt cX2_oftenAt 3 (some .int) 2 := ⟨gd_1 4 ⟨rfl, rfl⟩, gd_3 87 ⟨rfl, rfl⟩, by decide +kernel, by decide +kernel, by decide +kernel⟩
set_option maxRecDepth 100000 in
theorem mi_X2_oftenAt : MI yX2_oftenAt := ⟨gd_3 85 ⟨rfl, rfl⟩, gd_3 86 ⟨rfl, rfl⟩⟩
set_option maxRecDepth 100000 in
theorem mb_X2_partMany : MB yX2_partMany cX2_partMany 2 (some .int) 1 := ⟨gd_1 4 ⟨rfl, rfl⟩, gd_3 47 ⟨rfl, rfl⟩, by decide +kernel, by decide +kernel, by decide +kernel⟩
set_option maxRecDepth 100000 in
theorem mi_X2_partMany : MI yX2_partMany := ⟨gd_3 45 ⟨rfl, rfl⟩, gd_3 46 ⟨rfl, rfl⟩⟩
set_option maxRecDepth 100000 in
theorem mb_X2_placeOf : MB yX2_placeOf cX2_placeOf 4 (some .int) 2 := ⟨gd_1 4 ⟨rfl, rfl⟩, gd_3 27 ⟨rfl, rfl⟩, by decide +kernel, by decide +kernel, by decide +kernel⟩
set_option maxRecDepth 100000 in
theorem mi_X2_placeOf : MI yX2_placeOf := ⟨gd_3 25 ⟨rfl, rfl⟩, gd_3 26 ⟨rfl, rfl⟩⟩
set_option maxRecDepth 100000 in
theorem mb_X3_allOf : MB yX3_allOf cX3_allOf 5 (some .int) 2 := ⟨gd_1 10 ⟨rfl, rfl⟩, gd_4 115 ⟨rfl, rfl⟩, by decide +kernel, by decide +kernel, by decide +kernel⟩
set_option maxRecDepth 100000 in
theorem mi_X3_allOf : MI yX3_allOf := ⟨gd_4 113 ⟨rfl, rfl⟩, gd_4 114 ⟨rfl, rfl⟩⟩
set_option maxRecDepth 100000 in
theorem mb_X3_forWaiting : MB yX3_forWaiting cX3_forWaiting 3 (some .int) 2 := ⟨gd_1 10 ⟨rfl, rfl⟩, gd_4 102 ⟨rfl, rfl⟩, by decide +kernel, by decide +kernel, by decide +kernel⟩
set_option maxRecDepth 100000 in
theorem mi_X3_forWaiting : MI yX3_forWaiting := ⟨gd_4 101 ⟨rfl, rfl⟩, gd_p 14 ⟨rfl, rfl⟩⟩
set_option maxRecDepth 100000 in
theorem mb_X3_init : MB yX3_init cX3_init 4 none 3 := ⟨gd_1 10 ⟨rfl, rfl⟩, gd_2 4 ⟨rfl, rfl⟩, by decide +kernel, by decide +kernel, by decide +kernel⟩
set_option maxRecDepth 100000 in
theorem mb_X3_shareOf : MB yX3_shareOf cX3_shareOf 13 (some .int) 3 := ⟨gd_1 10 ⟨rfl, rfl⟩, gd_4 135 ⟨rfl, rfl⟩, by decide +kernel, by decide +kernel, by decide +kernel⟩
set_option maxRecDepth 100000 in
theorem mi_X3_shareOf : MI yX3_shareOf := ⟨gd_4 133 ⟨rfl, rfl⟩, gd_4 134 ⟨rfl, rfl⟩⟩
set_option maxRecDepth 100000 in
theorem mb_X3_tellOf : MB yX3_tellOf cX3_tellOf 4 (some .int) 3 := ⟨gd_1 10 ⟨rfl, rfl⟩, gd_4 93 ⟨rfl, rfl⟩, by decide +kernel, by decide +kernel, by decide +kernel⟩
set_option maxRecDepth 100000 in
theorem mi_X3_tellOf : MI yX3_tellOf := ⟨gd_4 91 ⟨rfl, rfl⟩, gd_4 92 ⟨rfl, rfl⟩⟩
set_option maxRecDepth 100000 in
theorem mb_X4_beginOf : MB yX4_beginOf cX4_beginOf 2 (some .int) 1 := ⟨gd_1 5 ⟨rfl, rfl⟩, gd_3 119 ⟨rfl, rfl⟩, by decide +kernel, by decide +kernel, by decide +kernel⟩
set_option maxRecDepth 100000 in
theorem mi_X4_beginOf : MI yX4_beginOf := ⟨gd_3 117 ⟨rfl, rfl⟩, gd_3 118 ⟨rfl, rfl⟩⟩
set_option maxRecDepth 100000 in
theorem mb_X4_canMake : MB yX4_canMake cX4_canMake 3 (some .boolean) 1 := ⟨gd_1 5 ⟨rfl, rfl⟩, gd_3 55 ⟨rfl, rfl⟩, by decide +kernel, by decide +kernel, by decide +kernel⟩
set_option maxRecDepth 100000 in
theorem mi_X4_canMake : MI yX4_canMake := ⟨gd_3 53 ⟨rfl, rfl⟩, gd_3 54 ⟨rfl, rfl⟩⟩
set_option maxRecDepth 100000 in
theorem mb_X4_inForce : MB yX4_inForce cX4_inForce 4 (some .int) 2 := ⟨gd_1 5 ⟨rfl, rfl⟩, gd_3 131 ⟨rfl, rfl⟩, by decide +kernel, by decide +kernel, by decide +kernel⟩
set_option maxRecDepth 100000 in
theorem mi_X4_inForce : MI yX4_inForce := ⟨gd_3 129 ⟨rfl, rfl⟩, gd_3 130 ⟨rfl, rfl⟩⟩
set_option maxRecDepth 100000 in
theorem mb_X4_init : MB yX4_init cX4_init 3 none 2 := ⟨gd_1 5 ⟨rfl, rfl⟩, gd_1 129 ⟨rfl, rfl⟩, by decide +kernel, by decide +kernel, by decide +kernel⟩
set_option maxRecDepth 100000 in
theorem mb_X4_isFull : MB yX4_isFull cX4_isFull 1 (some .boolean) 0 := ⟨gd_1 5 ⟨rfl, rfl⟩, gd_3 72 ⟨rfl, rfl⟩, by decide +kernel, by decide +kernel, by decide +kernel⟩
set_option maxRecDepth 100000 in
theorem mi_X4_isFull : MI yX4_isFull := ⟨gd_3 70 ⟨rfl, rfl⟩, gd_3 71 ⟨rfl, rfl⟩⟩
set_option maxRecDepth 100000 in
theorem mb_X4_latestOf : MB yX4_latestOf cX4_latestOf 3 (some .int) 1 := ⟨gd_1 5 ⟨rfl, rfl⟩, gd_3 31 ⟨rfl, rfl⟩, by decide +kernel, by decide +kernel, by decide +kernel⟩
set_option maxRecDepth 100000 in
theorem mi_X4_latestOf : MI yX4_latestOf := ⟨gd_3 29 ⟨rfl, rfl⟩, gd_3 30 ⟨rfl, rfl⟩⟩
set_option maxRecDepth 100000 in
theorem mb_X4_make : MB yX4_make cX4_make 7 (some .int) 2 := ⟨gd_1 5 ⟨rfl, rfl⟩, gd_3 76 ⟨rfl, rfl⟩, by decide +kernel, by decide +kernel, by decide +kernel⟩
set_option maxRecDepth 100000 in
theorem mi_X4_make : MI yX4_make := ⟨gd_3 74 ⟨rfl, rfl⟩, gd_3 75 ⟨rfl, rfl⟩⟩
set_option maxRecDepth 100000 in
theorem mb_X4_many : MB yX4_many cX4_many 1 (some .int) 0 := ⟨gd_1 5 ⟨rfl, rfl⟩, gd_5 35 ⟨rfl, rfl⟩, by decide +kernel, by decide +kernel, by decide +kernel⟩
set_option maxRecDepth 100000 in
theorem mi_X4_many : MI yX4_many := ⟨gd_5 33 ⟨rfl, rfl⟩, gd_5 34 ⟨rfl, rfl⟩⟩
set_option maxRecDepth 100000 in
theorem mb_X4_mayMove : MB yX4_mayMove cX4_mayMove 7 (some .boolean) 2 := ⟨gd_1 5 ⟨rfl, rfl⟩, gd_3 115 ⟨rfl, rfl⟩, by decide +kernel, by decide +kernel, by decide +kernel⟩
set_option maxRecDepth 100000 in
theorem mi_X4_mayMove : MI yX4_mayMove := ⟨gd_3 113 ⟨rfl, rfl⟩, gd_3 114 ⟨rfl, rfl⟩⟩
set_option maxRecDepth 100000 in
theorem mb_X4_sumOf : MB yX4_sumOf cX4_sumOf 2 (some .int) 1 := ⟨gd_1 5 ⟨rfl, rfl⟩, gd_3 135 ⟨rfl, rfl⟩, by decide +kernel, by decide +kernel, by decide +kernel⟩
set_option maxRecDepth 100000 in
theorem mi_X4_sumOf : MI yX4_sumOf := ⟨gd_3 133 ⟨rfl, rfl⟩, gd_3 134 ⟨rfl, rfl⟩⟩
set_option maxRecDepth 100000 in
theorem mb_X4_worthOf : MB yX4_worthOf cX4_worthOf 3 (some .int) 2 := ⟨gd_1 5 ⟨rfl, rfl⟩, gd_3 83 ⟨rfl, rfl⟩, by decide +kernel, by decide +kernel, by decide +kernel⟩
set_option maxRecDepth 100000 in
theorem mi_X4_worthOf : MI yX4_worthOf := ⟨gd_3 81 ⟨rfl, rfl⟩, gd_3 82 ⟨rfl, rfl⟩⟩
set_option maxRecDepth 100000 in
theorem mb_X5_addByte : MB yX5_addByte cX5_addByte 2 (some .int) 1 := ⟨gd_1 6 ⟨rfl, rfl⟩, gd_3 156 ⟨rfl, rfl⟩, by decide +kernel, by decide +kernel, by decide +kernel⟩
set_option maxRecDepth 100000 in
theorem mi_X5_addByte : MI yX5_addByte := ⟨gd_3 154 ⟨rfl, rfl⟩, gd_3 155 ⟨rfl, rfl⟩⟩
set_option maxRecDepth 100000 in
theorem mb_X5_alikeWith : MB yX5_alikeWith cX5_alikeWith 3 (some .int) 1 := ⟨gd_1 6 ⟨rfl, rfl⟩, gd_3 189 ⟨rfl, rfl⟩, by decide +kernel, by decide +kernel, by decide +kernel⟩
set_option maxRecDepth 100000 in
theorem mi_X5_alikeWith : MI yX5_alikeWith := ⟨gd_3 188 ⟨rfl, rfl⟩, gd_p 8 ⟨rfl, rfl⟩⟩
set_option maxRecDepth 100000 in
theorem mb_X5_byteMany : MB yX5_byteMany cX5_byteMany 1 (some .int) 0 := ⟨gd_1 6 ⟨rfl, rfl⟩, gd_5 43 ⟨rfl, rfl⟩, by decide +kernel, by decide +kernel, by decide +kernel⟩
set_option maxRecDepth 100000 in
theorem mi_X5_byteMany : MI yX5_byteMany := ⟨gd_5 41 ⟨rfl, rfl⟩, gd_5 42 ⟨rfl, rfl⟩⟩
set_option maxRecDepth 100000 in
theorem mb_X5_init : MB yX5_init cX5_init 1 none 0 := ⟨gd_1 6 ⟨rfl, rfl⟩, gd_1 157 ⟨rfl, rfl⟩, by decide +kernel, by decide +kernel, by decide +kernel⟩
set_option maxRecDepth 100000 in
theorem mb_X5_isFullOfBytes : MB yX5_isFullOfBytes cX5_isFullOfBytes 1 (some .boolean) 0 := ⟨gd_1 6 ⟨rfl, rfl⟩, gd_3 152 ⟨rfl, rfl⟩, by decide +kernel, by decide +kernel, by decide +kernel⟩
set_option maxRecDepth 100000 in
theorem mi_X5_isFullOfBytes : MI yX5_isFullOfBytes := ⟨gd_3 150 ⟨rfl, rfl⟩, gd_3 151 ⟨rfl, rfl⟩⟩
set_option maxRecDepth 100000 in
theorem mb_X5_readClause : MB yX5_readClause cX5_readClause 3 (some .boolean) 0 := ⟨gd_1 6 ⟨rfl, rfl⟩, gd_3 173 ⟨rfl, rfl⟩, by decide +kernel, by decide +kernel, by decide +kernel⟩
set_option maxRecDepth 100000 in
theorem mi_X5_readClause : MI yX5_readClause := ⟨gd_3 172 ⟨rfl, rfl⟩, gd_p 6 ⟨rfl, rfl⟩⟩
set_option maxRecDepth 100000 in
theorem mb_X5_readClauses : MB yX5_readClauses cX5_readClauses 2 (some .boolean) 0 := ⟨gd_1 6 ⟨rfl, rfl⟩, gd_3 168 ⟨rfl, rfl⟩, by decide +kernel, by decide +kernel, by decide +kernel⟩
set_option maxRecDepth 100000 in
theorem mi_X5_readClauses : MI yX5_readClauses := ⟨gd_3 167 ⟨rfl, rfl⟩, gd_p 5 ⟨rfl, rfl⟩⟩
set_option maxRecDepth 100000 in
theorem mb_X5_readNumber : MB yX5_readNumber cX5_readNumber 3 (some .int) 0 := ⟨gd_1 6 ⟨rfl, rfl⟩, gd_4 6 ⟨rfl, rfl⟩, by decide +kernel, by decide +kernel, by decide +kernel⟩
set_option maxRecDepth 100000 in
theorem mi_X5_readNumber : MI yX5_readNumber := ⟨gd_4 5 ⟨rfl, rfl⟩, gd_p 10 ⟨rfl, rfl⟩⟩
set_option maxRecDepth 100000 in
theorem mb_X5_readSign : MB yX5_readSign cX5_readSign 2 (some .boolean) 1 := ⟨gd_1 6 ⟨rfl, rfl⟩, gd_4 2 ⟨rfl, rfl⟩, by decide +kernel, by decide +kernel, by decide +kernel⟩
set_option maxRecDepth 100000 in
theorem mi_X5_readSign : MI yX5_readSign := ⟨gd_4 1 ⟨rfl, rfl⟩, gd_p 9 ⟨rfl, rfl⟩⟩
set_option maxRecDepth 100000 in
theorem mb_X5_readWord : MB yX5_readWord cX5_readWord 5 (some .int) 0 := ⟨gd_1 6 ⟨rfl, rfl⟩, gd_3 177 ⟨rfl, rfl⟩, by decide +kernel, by decide +kernel, by decide +kernel⟩
set_option maxRecDepth 100000 in
theorem mi_X5_readWord : MI yX5_readWord := ⟨gd_3 176 ⟨rfl, rfl⟩, gd_p 7 ⟨rfl, rfl⟩⟩
set_option maxRecDepth 100000 in
theorem mb_X5_takeNewValues : MB yX5_takeNewValues cX5_takeNewValues 3 (some .int) 0 := ⟨gd_1 6 ⟨rfl, rfl⟩, gd_4 13 ⟨rfl, rfl⟩, by decide +kernel, by decide +kernel, by decide +kernel⟩
set_option maxRecDepth 100000 in
theorem mi_X5_takeNewValues : MI yX5_takeNewValues := ⟨gd_4 12 ⟨rfl, rfl⟩, gd_p 11 ⟨rfl, rfl⟩⟩
set_option maxRecDepth 100000 in
theorem mb_X5_takeTape : MB yX5_takeTape cX5_takeTape 2 (some .int) 0 := ⟨gd_1 6 ⟨rfl, rfl⟩, gd_3 164 ⟨rfl, rfl⟩, by decide +kernel, by decide +kernel, by decide +kernel⟩
set_option maxRecDepth 100000 in
theorem mi_X5_takeTape : MI yX5_takeTape := ⟨gd_3 162 ⟨rfl, rfl⟩, gd_3 163 ⟨rfl, rfl⟩⟩
set_option maxRecDepth 100000 in
theorem mb_X5_valueOf : MB yX5_valueOf cX5_valueOf 2 (some .int) 1 := ⟨gd_1 6 ⟨rfl, rfl⟩, gd_3 111 ⟨rfl, rfl⟩, by decide +kernel, by decide +kernel, by decide +kernel⟩
set_option maxRecDepth 100000 in
theorem mi_X5_valueOf : MI yX5_valueOf := ⟨gd_3 109 ⟨rfl, rfl⟩, gd_3 110 ⟨rfl, rfl⟩⟩
set_option maxRecDepth 100000 in
theorem mb_X5_wordOf : MB yX5_wordOf cX5_wordOf 1 (some (.object "java/lang/String")) 1 := ⟨gd_1 6 ⟨rfl, rfl⟩, gd_3 180 ⟨rfl, rfl⟩, by decide +kernel, by decide +kernel, by decide +kernel⟩
set_option maxRecDepth 100000 in
theorem ms_X5_wordOf : Cond.static yX5_wordOf ∈ gd := gd_3 179 ⟨rfl, rfl⟩
set_option maxRecDepth 100000 in
theorem mb_X6_addRow : MB yX6_addRow cX6_addRow 6 none 3 := ⟨gd_1 12 ⟨rfl, rfl⟩, gd_5 6 ⟨rfl, rfl⟩, by decide +kernel, by decide +kernel, by decide +kernel⟩
set_option maxRecDepth 100000 in
theorem mi_X6_addRow : MI yX6_addRow := ⟨gd_5 5 ⟨rfl, rfl⟩, gd_p 21 ⟨rfl, rfl⟩⟩
set_option maxRecDepth 100000 in
theorem mb_X6_canTell : MB yX6_canTell cX6_canTell 1 (some .boolean) 0 := ⟨gd_1 12 ⟨rfl, rfl⟩, gd_4 228 ⟨rfl, rfl⟩, by decide +kernel, by decide +kernel, by decide +kernel⟩
set_option maxRecDepth 100000 in
theorem mi_X6_canTell : MI yX6_canTell := ⟨gd_4 226 ⟨rfl, rfl⟩, gd_4 227 ⟨rfl, rfl⟩⟩
set_option maxRecDepth 100000 in
theorem mb_X6_countWays : MB yX6_countWays cX6_countWays 4 none 0 := ⟨gd_1 12 ⟨rfl, rfl⟩, gd_4 236 ⟨rfl, rfl⟩, by decide +kernel, by decide +kernel, by decide +kernel⟩
set_option maxRecDepth 100000 in
theorem mi_X6_countWays : MI yX6_countWays := ⟨gd_4 235 ⟨rfl, rfl⟩, gd_p 19 ⟨rfl, rfl⟩⟩
set_option maxRecDepth 100000 in
theorem mb_X6_gather : MB yX6_gather cX6_gather 5 none 2 := ⟨gd_1 12 ⟨rfl, rfl⟩, gd_4 212 ⟨rfl, rfl⟩, by decide +kernel, by decide +kernel, by decide +kernel⟩
set_option maxRecDepth 100000 in
theorem mi_X6_gather : MI yX6_gather := ⟨gd_4 210 ⟨rfl, rfl⟩, gd_4 211 ⟨rfl, rfl⟩⟩
set_option maxRecDepth 100000 in
theorem mb_X6_init : MB yX6_init cX6_init 2 none 1 := ⟨gd_1 12 ⟨rfl, rfl⟩, gd_2 40 ⟨rfl, rfl⟩, by decide +kernel, by decide +kernel, by decide +kernel⟩
set_option maxRecDepth 100000 in
theorem mb_X6_isBeyondDoubt : MB yX6_isBeyondDoubt cX6_isBeyondDoubt 5 (some .boolean) 0 := ⟨gd_1 12 ⟨rfl, rfl⟩, gd_4 232 ⟨rfl, rfl⟩, by decide +kernel, by decide +kernel, by decide +kernel⟩
set_option maxRecDepth 100000 in
theorem mi_X6_isBeyondDoubt : MI yX6_isBeyondDoubt := ⟨gd_4 230 ⟨rfl, rfl⟩, gd_4 231 ⟨rfl, rfl⟩⟩
set_option maxRecDepth 100000 in
theorem mb_X6_rankOf : MB yX6_rankOf cX6_rankOf 4 (some .int) 1 := ⟨gd_1 12 ⟨rfl, rfl⟩, gd_5 1 ⟨rfl, rfl⟩, by decide +kernel, by decide +kernel, by decide +kernel⟩
set_option maxRecDepth 100000 in
theorem mi_X6_rankOf : MI yX6_rankOf := ⟨gd_5 0 ⟨rfl, rfl⟩, gd_p 20 ⟨rfl, rfl⟩⟩
set_option maxRecDepth 100000 in
theorem mb_X6_watchedRanks : MB yX6_watchedRanks cX6_watchedRanks 3 (some .int) 0 := ⟨gd_1 12 ⟨rfl, rfl⟩, gd_5 10 ⟨rfl, rfl⟩, by decide +kernel, by decide +kernel, by decide +kernel⟩
set_option maxRecDepth 100000 in
theorem mi_X6_watchedRanks : MI yX6_watchedRanks := ⟨gd_5 9 ⟨rfl, rfl⟩, gd_p 22 ⟨rfl, rfl⟩⟩
set_option maxRecDepth 100000 in
theorem mb_X7_add : MB yX7_add cX7_add 5 (some .int) 4 := ⟨gd_1 9 ⟨rfl, rfl⟩, gd_4 54 ⟨rfl, rfl⟩, by decide +kernel, by decide +kernel, by decide +kernel⟩
set_option maxRecDepth 100000 in
theorem mi_X7_add : MI yX7_add := ⟨gd_4 52 ⟨rfl, rfl⟩, gd_4 53 ⟨rfl, rfl⟩⟩
set_option maxRecDepth 100000 in
theorem mb_X7_init : MB yX7_init cX7_init 1 none 0 := ⟨gd_1 9 ⟨rfl, rfl⟩, gd_1 222 ⟨rfl, rfl⟩, by decide +kernel, by decide +kernel, by decide +kernel⟩
set_option maxRecDepth 100000 in
theorem mb_X7_isFull : MB yX7_isFull cX7_isFull 1 (some .boolean) 0 := ⟨gd_1 9 ⟨rfl, rfl⟩, gd_4 50 ⟨rfl, rfl⟩, by decide +kernel, by decide +kernel, by decide +kernel⟩
set_option maxRecDepth 100000 in
theorem mi_X7_isFull : MI yX7_isFull := ⟨gd_4 48 ⟨rfl, rfl⟩, gd_4 49 ⟨rfl, rfl⟩⟩
set_option maxRecDepth 100000 in
theorem mb_X7_many : MB yX7_many cX7_many 1 (some .int) 0 := ⟨gd_1 9 ⟨rfl, rfl⟩, gd_5 39 ⟨rfl, rfl⟩, by decide +kernel, by decide +kernel, by decide +kernel⟩
set_option maxRecDepth 100000 in
theorem mi_X7_many : MI yX7_many := ⟨gd_5 37 ⟨rfl, rfl⟩, gd_5 38 ⟨rfl, rfl⟩⟩
set_option maxRecDepth 100000 in
theorem mb_X7_minutesFor : MB yX7_minutesFor cX7_minutesFor 2 (some .int) 1 := ⟨gd_1 9 ⟨rfl, rfl⟩, gd_4 124 ⟨rfl, rfl⟩, by decide +kernel, by decide +kernel, by decide +kernel⟩
set_option maxRecDepth 100000 in
theorem mi_X7_minutesFor : MI yX7_minutesFor := ⟨gd_4 122 ⟨rfl, rfl⟩, gd_4 123 ⟨rfl, rfl⟩⟩
set_option maxRecDepth 100000 in
theorem mb_X7_minutesIn : MB yX7_minutesIn cX7_minutesIn 5 (some .int) 2 := ⟨gd_1 9 ⟨rfl, rfl⟩, gd_4 106 ⟨rfl, rfl⟩, by decide +kernel, by decide +kernel, by decide +kernel⟩
set_option maxRecDepth 100000 in
theorem mi_X7_minutesIn : MI yX7_minutesIn := ⟨gd_4 104 ⟨rfl, rfl⟩, gd_4 105 ⟨rfl, rfl⟩⟩
set_option maxRecDepth 100000 in
theorem mb_X8_addCycle : MB yX8_addCycle cX8_addCycle 5 (some .int) 4 := ⟨gd_1 3 ⟨rfl, rfl⟩, gd_2 193 ⟨rfl, rfl⟩, by decide +kernel, by decide +kernel, by decide +kernel⟩
set_option maxRecDepth 100000 in
theorem mi_X8_addCycle : MI yX8_addCycle := ⟨gd_2 191 ⟨rfl, rfl⟩, gd_2 192 ⟨rfl, rfl⟩⟩
set_option maxRecDepth 100000 in
theorem mb_X8_addFilm : MB yX8_addFilm cX8_addFilm 3 (some .int) 2 := ⟨gd_1 3 ⟨rfl, rfl⟩, gd_2 173 ⟨rfl, rfl⟩, by decide +kernel, by decide +kernel, by decide +kernel⟩
set_option maxRecDepth 100000 in
theorem mi_X8_addFilm : MI yX8_addFilm := ⟨gd_2 171 ⟨rfl, rfl⟩, gd_2 172 ⟨rfl, rfl⟩⟩
set_option maxRecDepth 100000 in
theorem mb_X8_cycleMany : MB yX8_cycleMany cX8_cycleMany 1 (some .int) 0 := ⟨gd_1 3 ⟨rfl, rfl⟩, gd_2 201 ⟨rfl, rfl⟩, by decide +kernel, by decide +kernel, by decide +kernel⟩
set_option maxRecDepth 100000 in
theorem mi_X8_cycleMany : MI yX8_cycleMany := ⟨gd_2 199 ⟨rfl, rfl⟩, gd_2 200 ⟨rfl, rfl⟩⟩
set_option maxRecDepth 100000 in
theorem mb_X8_filmMany : MB yX8_filmMany cX8_filmMany 1 (some .int) 0 := ⟨gd_1 3 ⟨rfl, rfl⟩, gd_5 31 ⟨rfl, rfl⟩, by decide +kernel, by decide +kernel, by decide +kernel⟩
set_option maxRecDepth 100000 in
theorem mi_X8_filmMany : MI yX8_filmMany := ⟨gd_5 29 ⟨rfl, rfl⟩, gd_5 30 ⟨rfl, rfl⟩⟩
set_option maxRecDepth 100000 in
theorem mb_X8_gatherNormals : MB yX8_gatherNormals cX8_gatherNormals 3 none 1 := ⟨gd_1 3 ⟨rfl, rfl⟩, gd_2 225 ⟨rfl, rfl⟩, by decide +kernel, by decide +kernel, by decide +kernel⟩
set_option maxRecDepth 100000 in
theorem mi_X8_gatherNormals : MI yX8_gatherNormals := ⟨gd_2 224 ⟨rfl, rfl⟩, gd_p 1 ⟨rfl, rfl⟩⟩
set_option maxRecDepth 100000 in
theorem mb_X8_habitOf : MB yX8_habitOf cX8_habitOf 2 (some .int) 1 := ⟨gd_1 3 ⟨rfl, rfl⟩, gd_2 181 ⟨rfl, rfl⟩, by decide +kernel, by decide +kernel, by decide +kernel⟩
set_option maxRecDepth 100000 in
theorem mi_X8_habitOf : MI yX8_habitOf := ⟨gd_2 179 ⟨rfl, rfl⟩, gd_2 180 ⟨rfl, rfl⟩⟩
set_option maxRecDepth 100000 in
theorem mb_X8_init : MB yX8_init cX8_init 2 none 1 := ⟨gd_1 3 ⟨rfl, rfl⟩, gd_1 51 ⟨rfl, rfl⟩, by decide +kernel, by decide +kernel, by decide +kernel⟩
set_option maxRecDepth 100000 in
theorem mb_X8_isFullOfCycles : MB yX8_isFullOfCycles cX8_isFullOfCycles 1 (some .boolean) 0 := ⟨gd_1 3 ⟨rfl, rfl⟩, gd_2 189 ⟨rfl, rfl⟩, by decide +kernel, by decide +kernel, by decide +kernel⟩
set_option maxRecDepth 100000 in
theorem mi_X8_isFullOfCycles : MI yX8_isFullOfCycles := ⟨gd_2 187 ⟨rfl, rfl⟩, gd_2 188 ⟨rfl, rfl⟩⟩
set_option maxRecDepth 100000 in
theorem mb_X8_isFullOfFilms : MB yX8_isFullOfFilms cX8_isFullOfFilms 1 (some .boolean) 0 := ⟨gd_1 3 ⟨rfl, rfl⟩, gd_2 169 ⟨rfl, rfl⟩, by decide +kernel, by decide +kernel, by decide +kernel⟩
set_option maxRecDepth 100000 in
theorem mi_X8_isFullOfFilms : MI yX8_isFullOfFilms := ⟨gd_2 167 ⟨rfl, rfl⟩, gd_2 168 ⟨rfl, rfl⟩⟩
set_option maxRecDepth 100000 in
theorem mb_X8_isTimed : MB yX8_isTimed cX8_isTimed 3 (some .boolean) 1 := ⟨gd_1 3 ⟨rfl, rfl⟩, gd_3 68 ⟨rfl, rfl⟩, by decide +kernel, by decide +kernel, by decide +kernel⟩
set_option maxRecDepth 100000 in
theorem mi_X8_isTimed : MI yX8_isTimed := ⟨gd_3 66 ⟨rfl, rfl⟩, gd_3 67 ⟨rfl, rfl⟩⟩
set_option maxRecDepth 100000 in
theorem mb_X8_keepNormals : MB yX8_keepNormals cX8_keepNormals 4 none 0 := ⟨gd_1 3 ⟨rfl, rfl⟩, gd_2 234 ⟨rfl, rfl⟩, by decide +kernel, by decide +kernel, by decide +kernel⟩
set_option maxRecDepth 100000 in
theorem mi_X8_keepNormals : MI yX8_keepNormals := ⟨gd_2 233 ⟨rfl, rfl⟩, gd_p 3 ⟨rfl, rfl⟩⟩
set_option maxRecDepth 100000 in
theorem mb_X8_normalOf : MB yX8_normalOf cX8_normalOf 3 (some .int) 1 := ⟨gd_1 3 ⟨rfl, rfl⟩, gd_2 205 ⟨rfl, rfl⟩, by decide +kernel, by decide +kernel, by decide +kernel⟩
set_option maxRecDepth 100000 in
theorem mi_X8_normalOf : MI yX8_normalOf := ⟨gd_2 203 ⟨rfl, rfl⟩, gd_2 204 ⟨rfl, rfl⟩⟩
set_option maxRecDepth 100000 in
theorem mb_X8_putInOrder : MB yX8_putInOrder cX8_putInOrder 3 none 1 := ⟨gd_1 3 ⟨rfl, rfl⟩, gd_2 230 ⟨rfl, rfl⟩, by decide +kernel, by decide +kernel, by decide +kernel⟩
set_option maxRecDepth 100000 in
theorem mi_X8_putInOrder : MI yX8_putInOrder := ⟨gd_2 229 ⟨rfl, rfl⟩, gd_p 2 ⟨rfl, rfl⟩⟩
set_option maxRecDepth 100000 in
theorem mb_X8_studied : MB yX8_studied cX8_studied 2 (some .int) 1 := ⟨gd_1 3 ⟨rfl, rfl⟩, gd_3 2 ⟨rfl, rfl⟩, by decide +kernel, by decide +kernel, by decide +kernel⟩
set_option maxRecDepth 100000 in
theorem mi_X8_studied : MI yX8_studied := ⟨gd_3 0 ⟨rfl, rfl⟩, gd_3 1 ⟨rfl, rfl⟩⟩
set_option maxRecDepth 100000 in
theorem mb_X8_study : MB yX8_study cX8_study 3 none 1 := ⟨gd_1 3 ⟨rfl, rfl⟩, gd_2 221 ⟨rfl, rfl⟩, by decide +kernel, by decide +kernel, by decide +kernel⟩
set_option maxRecDepth 100000 in
theorem mi_X8_study : MI yX8_study := ⟨gd_2 219 ⟨rfl, rfl⟩, gd_2 220 ⟨rfl, rfl⟩⟩
set_option maxRecDepth 100000 in
theorem mb_X9_add : MB yX9_add cX9_add 5 (some .int) 4 := ⟨gd_1 7 ⟨rfl, rfl⟩, gd_4 38 ⟨rfl, rfl⟩, by decide +kernel, by decide +kernel, by decide +kernel⟩
set_option maxRecDepth 100000 in
theorem mi_X9_add : MI yX9_add := ⟨gd_4 36 ⟨rfl, rfl⟩, gd_4 37 ⟨rfl, rfl⟩⟩
set_option maxRecDepth 100000 in
theorem mb_X9_earnedBy : MB yX9_earnedBy cX9_earnedBy 6 (some .int) 1 := ⟨gd_1 7 ⟨rfl, rfl⟩, gd_4 74 ⟨rfl, rfl⟩, by decide +kernel, by decide +kernel, by decide +kernel⟩
set_option maxRecDepth 100000 in
theorem mi_X9_earnedBy : MI yX9_earnedBy := ⟨gd_4 72 ⟨rfl, rfl⟩, gd_4 73 ⟨rfl, rfl⟩⟩
set_option maxRecDepth 100000 in
theorem mb_X9_earnedIn : MB yX9_earnedIn cX9_earnedIn 5 (some .int) 2 := ⟨gd_1 7 ⟨rfl, rfl⟩, gd_4 97 ⟨rfl, rfl⟩, by decide +kernel, by decide +kernel, by decide +kernel⟩
set_option maxRecDepth 100000 in
theorem mi_X9_earnedIn : MI yX9_earnedIn := ⟨gd_4 95 ⟨rfl, rfl⟩, gd_4 96 ⟨rfl, rfl⟩⟩
set_option maxRecDepth 100000 in
theorem mb_X9_goodAt : MB yX9_goodAt cX9_goodAt 2 (some .int) 1 := ⟨gd_1 7 ⟨rfl, rfl⟩, gd_4 219 ⟨rfl, rfl⟩, by decide +kernel, by decide +kernel, by decide +kernel⟩
set_option maxRecDepth 100000 in
theorem mi_X9_goodAt : MI yX9_goodAt := ⟨gd_4 217 ⟨rfl, rfl⟩, gd_4 218 ⟨rfl, rfl⟩⟩
set_option maxRecDepth 100000 in
theorem mb_X9_init : MB yX9_init cX9_init 3 none 2 := ⟨gd_1 7 ⟨rfl, rfl⟩, gd_1 179 ⟨rfl, rfl⟩, by decide +kernel, by decide +kernel, by decide +kernel⟩
set_option maxRecDepth 100000 in
theorem mb_X9_isFull : MB yX9_isFull cX9_isFull 1 (some .boolean) 0 := ⟨gd_1 7 ⟨rfl, rfl⟩, gd_4 34 ⟨rfl, rfl⟩, by decide +kernel, by decide +kernel, by decide +kernel⟩
set_option maxRecDepth 100000 in
theorem mi_X9_isFull : MI yX9_isFull := ⟨gd_4 32 ⟨rfl, rfl⟩, gd_4 33 ⟨rfl, rfl⟩⟩
set_option maxRecDepth 100000 in
theorem mb_X9_isWatched : MB yX9_isWatched cX9_isWatched 2 (some .boolean) 1 := ⟨gd_1 7 ⟨rfl, rfl⟩, gd_4 224 ⟨rfl, rfl⟩, by decide +kernel, by decide +kernel, by decide +kernel⟩
set_option maxRecDepth 100000 in
theorem mi_X9_isWatched : MI yX9_isWatched := ⟨gd_4 222 ⟨rfl, rfl⟩, gd_4 223 ⟨rfl, rfl⟩⟩
set_option maxRecDepth 100000 in
theorem mb_X9_jobAt : MB yX9_jobAt cX9_jobAt 2 (some .int) 1 := ⟨gd_1 7 ⟨rfl, rfl⟩, gd_4 161 ⟨rfl, rfl⟩, by decide +kernel, by decide +kernel, by decide +kernel⟩
set_option maxRecDepth 100000 in
theorem mi_X9_jobAt : MI yX9_jobAt := ⟨gd_4 159 ⟨rfl, rfl⟩, gd_4 160 ⟨rfl, rfl⟩⟩
set_option maxRecDepth 100000 in
theorem mb_X9_learnersMore : MB yX9_learnersMore cX9_learnersMore 5 (some .int) 2 := ⟨gd_1 7 ⟨rfl, rfl⟩, gd_4 84 ⟨rfl, rfl⟩, by decide +kernel, by decide +kernel, by decide +kernel⟩
set_option maxRecDepth 100000 in
theorem mi_X9_learnersMore : MI yX9_learnersMore := ⟨gd_4 83 ⟨rfl, rfl⟩, gd_p 13 ⟨rfl, rfl⟩⟩
set_option maxRecDepth 100000 in
theorem mb_X9_many : MB yX9_many cX9_many 1 (some .int) 0 := ⟨gd_1 7 ⟨rfl, rfl⟩, gd_4 70 ⟨rfl, rfl⟩, by decide +kernel, by decide +kernel, by decide +kernel⟩
set_option maxRecDepth 100000 in
theorem mi_X9_many : MI yX9_many := ⟨gd_4 68 ⟨rfl, rfl⟩, gd_4 69 ⟨rfl, rfl⟩⟩
set_option maxRecDepth 100000 in
theorem mb_X9_minutesAt : MB yX9_minutesAt cX9_minutesAt 2 (some .int) 1 := ⟨gd_1 7 ⟨rfl, rfl⟩, gd_4 166 ⟨rfl, rfl⟩, by decide +kernel, by decide +kernel, by decide +kernel⟩
set_option maxRecDepth 100000 in
theorem mi_X9_minutesAt : MI yX9_minutesAt := ⟨gd_4 164 ⟨rfl, rfl⟩, gd_4 165 ⟨rfl, rfl⟩⟩
set_option maxRecDepth 100000 in
theorem mb_X9_minutesIn : MB yX9_minutesIn cX9_minutesIn 5 (some .int) 2 := ⟨gd_1 7 ⟨rfl, rfl⟩, gd_4 111 ⟨rfl, rfl⟩, by decide +kernel, by decide +kernel, by decide +kernel⟩
set_option maxRecDepth 100000 in
theorem mi_X9_minutesIn : MI yX9_minutesIn := ⟨gd_4 109 ⟨rfl, rfl⟩, gd_4 110 ⟨rfl, rfl⟩⟩
set_option maxRecDepth 100000 in
theorem mb_X9_swapBegin : MB yX9_swapBegin cX9_swapBegin 5 (some .int) 3 := ⟨gd_1 7 ⟨rfl, rfl⟩, gd_4 62 ⟨rfl, rfl⟩, by decide +kernel, by decide +kernel, by decide +kernel⟩
set_option maxRecDepth 100000 in
theorem mi_X9_swapBegin : MI yX9_swapBegin := ⟨gd_4 60 ⟨rfl, rfl⟩, gd_4 61 ⟨rfl, rfl⟩⟩
set_option maxRecDepth 100000 in
theorem mb_X9_workerAt : MB yX9_workerAt cX9_workerAt 2 (some .int) 1 := ⟨gd_1 7 ⟨rfl, rfl⟩, gd_4 157 ⟨rfl, rfl⟩, by decide +kernel, by decide +kernel, by decide +kernel⟩
set_option maxRecDepth 100000 in
theorem mi_X9_workerAt : MI yX9_workerAt := ⟨gd_4 155 ⟨rfl, rfl⟩, gd_4 156 ⟨rfl, rfl⟩⟩
end
section
/-! TEXTS: the five words of the rules, and the JDK's methods that read them -/
section TXT
variable {l : Launch} {g : Cx} {own : String} {cc : ByteArray} {nL : Nat} {ret : Option FieldType} {R : Room} {P : Option Value → Mem → Prop} {pc n : Nat} {lv : List (Option Value)} {st : List Value} {M : Mem}
variable {y : MethodName} {cy : ByteArray} {ny : Nat} {ry : Option FieldType} {fr lo : Nat} {as rest : List Value} {P' : Option Value → Mem → Prop}
theorem A_callVs {idx w : Nat} (hw : w < 5) (hy : "java/lang/String" = y.cls) (hd : di cc pc (.invokevirtual idx) 3 n) (hl0 : Cond.methodLink own idx y ∈ gd) (hb0 : MB y cy ny ry as.length) (hi : MI y)
    (hR : fr + 1 ≤ R.frames ∧ 8 + (ny + 11) + lo ≤ R.locals) (hst : (rest.map fun v => v.category).sum ≤ 8) (hC : CT l g y cy ny ry fr lo (.ref (g.2.2.2.2.1 w) :: as) M P')
    (k : ∀ (v : Option Value) (M' : Mem), P' v M' → AT l g own cc nL ret R P n lv (v.toList ++ rest) M') : AT l g own cc nL ret R P pc lv (as.reverse ++ .ref (g.2.2.2.2.1 w) :: rest) M := fun p e s m args below meth c H locs ls C hP hS hl => by
  obtain ⟨hd, rfl⟩ := hd
  have hts := C.2.2.2.2.2.2.1
  have hG : GoodIn gd (wsV own idx y.cls y (Cond.code y cy ny ry :: gd)) := by
    intro w hw
    unfold wsV at hw
    simp only [List.mem_append, List.mem_cons, List.not_mem_nil, or_false] at hw
    rcases hw with (rfl | rfl | rfl | rfl) | (rfl | hw)
    · exact gd_good hl0
    · exact gd_good hi.1
    · exact gd_good hi.2
    · exact gd_good hb0.1
    · exact gd_good hb0.2.1
    · exact gd_good hw
  have hrc : ∃ cellB : Cell, H[g.2.2.2.2.1 w]? = some cellB ∧ cellB.vm.isStatics = false ∧ s.vm.findClass y.cls = some cellB.cls := hy ▸ vk_recv C.2.2.2.2.2.2.2.2.2.2.2.2.2.1 hw hS
  refine A_core (va_runV (As := as) (rest := rest) (Ts := gd) (C := y.cls) ⟨C.1, C.2.1, C.2.2.2.1, C.2.2.2.2.1, hts⟩ hC (cwV as.length hts hG rfl rfl rfl ⟨rfl, hb0.2.2⟩ hR) ⟨A_blind, hrc, A_pre (as := .ref (g.2.2.2.2.1 w) :: as) C.2.2.2.2.2.2.2.1 C.2.2.2.2.2.2.2.2.1 C.2.2.2.2.2.2.2.2.2 hP hS⟩ rfl rfl hl.1 rfl (lv_room hst) hd ⟨Nat.zero_le _, Nat.zero_le _⟩) hS (fun v M' H1 locs1 h1 h2 h3 => ?_)
  exact k v M' h1 p e s m args below meth c H1 locs1 ls C h2 h3 hl
theorem A_cVs0 {idx w : Nat} {r1 : Int32} {M1 : Mem} (hw : w < 5) (hy : "java/lang/String" = y.cls) (hd : di cc pc (.invokevirtual idx) 3 n) (hl0 : Cond.methodLink own idx y ∈ gd) (hb0 : MB y cy ny ry 0) (hi : MI y) (hR : fr + 1 ≤ R.frames ∧ 8 + (ny + 11) + lo ≤ R.locals) (hst : (rest.map fun v => v.category).sum ≤ 8) (hC : CT l g y cy ny ry fr lo [.ref (g.2.2.2.2.1 w)] M (PI r1 M1)) (k : AT l g own cc nL ret R P n lv (.int r1 :: rest) M1) : AT l g own cc nL ret R P pc lv (.ref (g.2.2.2.2.1 w) :: rest) M := A_callVs (as := []) hw hy hd hl0 hb0 hi hR hst hC (fun v M' e => by obtain ⟨rfl, rfl⟩ := e; exact k)
theorem A_cVs1 {idx w : Nat} {r1 : Int32} {M1 : Mem} {x1 : Value} (hw : w < 5) (hy : "java/lang/String" = y.cls) (hd : di cc pc (.invokevirtual idx) 3 n) (hl0 : Cond.methodLink own idx y ∈ gd) (hb0 : MB y cy ny ry 1) (hi : MI y) (hR : fr + 1 ≤ R.frames ∧ 8 + (ny + 11) + lo ≤ R.locals) (hst : (rest.map fun v => v.category).sum ≤ 8) (hC : CT l g y cy ny ry fr lo [.ref (g.2.2.2.2.1 w), x1] M (PI r1 M1)) (k : AT l g own cc nL ret R P n lv (.int r1 :: rest) M1) : AT l g own cc nL ret R P pc lv (x1 :: .ref (g.2.2.2.2.1 w) :: rest) M := A_callVs (as := [x1]) hw hy hd hl0 hb0 hi hR hst hC (fun v M' e => by obtain ⟨rfl, rfl⟩ := e; exact k)
theorem A_ldcS {idx q : Nat} {tx : String} (hd : di cc pc (.ldc idx) 2 n) (hz : ∀ (A : Nat → Prop) (U : State) (H : Heap), ST g A U H → vk_R own idx tx q U) (k : AT l g own cc nL ret R P n lv (.ref q :: st) M) : AT l g own cc nL ret R P pc lv st M := fun p e s m args below meth c H locs ls C hP hS hl => by
  obtain ⟨hd, rfl⟩ := hd
  exact va_ldcS C.1 C.2.1 C.2.2.2.2.1 (hz _ _ _ C.2.2.2.2.2.2.2.2.2) hd (k p e s m args below meth c H locs ls C hP hS hl)
theorem A_getk {idx a : Nat} {nm d : String} {v : Value} (hd : di cc pc (.getfield idx) 3 n) (hw : Cond.fieldLink own idx "java/lang/String" nm d ∈ gd) (hz : ∀ (A : Nat → Prop) (U : State) (H : Heap), ST g A U H → va_OF "java/lang/String" nm d v a A U H) (k : AT l g own cc nL ret R P n lv (v :: st) M) : AT l g own cc nL ret R P pc lv (.ref a :: st) M := fun p e s m args below meth c H locs ls C hP hS hl => by
  obtain ⟨hd, rfl⟩ := hd
  exact vk_getf C.1 C.2.1 (hz _ _ _ C.2.2.2.2.2.2.2.2.2) hS C.2.2.2.2.1 (C.2.2.2.2.2.2.1 _ hw) (fun _ h => h) hd (k p e s m args below meth c H locs ls C hP hS hl)
theorem A_tlenB {t N : Nat} {f : Nat → Value} {v : Int32} (hd : di cc pc .arraylength 1 n) (hz : ∀ (A : Nat → Prop) (U : State) (H : Heap), ST g A U H → va_T .byte t N f A U H) (hv : Int32.ofNat N = v) (k : AT l g own cc nL ret R P n lv (.int v :: st) M) : AT l g own cc nL ret R P pc lv (.ref t :: st) M := fun p e s m args below meth c H locs ls C hP hS hl => by
  obtain ⟨hd, rfl⟩ := hd
  exact va_tlen C.1 C.2.1 (hz _ _ _ C.2.2.2.2.2.2.2.2.2) hS hv hd (k p e s m args below meth c H locs ls C hP hS hl)
theorem A_tbald {t N : Nat} {f : Nat → Int32} {i : Int32} (hd : di cc pc .baload 1 n) (hz : ∀ (A : Nat → Prop) (U : State) (H : Heap), ST g A U H → va_T .byte t N (fun j => .int (f j)) A U H) (hi : vp_in i N) (k : AT l g own cc nL ret R P n lv (.int (f i.toNatClampNeg) :: st) M) : AT l g own cc nL ret R P pc lv (.int i :: .ref t :: st) M := fun p e s m args below meth c H locs ls C hP hS hl => by
  obtain ⟨hd, rfl⟩ := hd
  exact va_tb C.1 C.2.1 (hz _ _ _ C.2.2.2.2.2.2.2.2.2) hS hi rfl hd (k p e s m args below meth c H locs ls C hP hS hl)
/-- a static that holds a reference or null -/
theorem A_getq {idx : Nat} {Cn nm d : String} (hd : di cc pc (.getstatic idx) 3 n) (hw : Cond.fieldLink own idx Cn nm d ∈ gd) (hz : ∀ (A : Nat → Prop) (U : State) (H : Heap), ST g A U H → va_Zq Cn nm d A U H) (k : ∀ v : Value, (v = .null ∨ ∃ t : Nat, v = .ref t) → AT l g own cc nL ret R P n lv (v :: st) M) : AT l g own cc nL ret R P pc lv st M := fun p e s m args below meth c H locs ls C hP hS hl => by
  obtain ⟨hd, rfl⟩ := hd
  rcases hz _ _ _ C.2.2.2.2.2.2.2.2.2 with h | ⟨t, h⟩
  · exact va_gets C.1 C.2.1 h hS C.2.2.2.2.1 (C.2.2.2.2.2.2.1 _ hw) (fun _ h => h) hd (k _ (Or.inl rfl) p e s m args below meth c H locs ls C hP hS hl)
  · exact va_gets C.1 C.2.1 h hS C.2.2.2.2.1 (C.2.2.2.2.2.2.1 _ hw) (fun _ h => h) hd (k _ (Or.inr ⟨t, rfl⟩) p e s m args below meth c H locs ls C hP hS hl)
end TXT
def PS (g : Cx) (r : Int32) (Mr : Mem) : Option Value → Mem → Prop := fun v M => v = some (.ref (g.2.2.2.2.1 r.toNatClampNeg)) ∧ M = Mr
def sL (w : Nat) : Int32 := Int32.ofNat (sLen.getD w 0) >>> ((0 : Int32) &&& 31)
def chr (w : Nat) (i : Int32) : Int32 := ((((sByt.getD w []).getD i.toNatClampNeg 0) &&& (255 : Int32)).toUInt32 % 65536).toInt32
def f_J0_coder_7d493 (_ : Nat) (M : Mem) : Option Ret := some (0, M)
def f_J0_length_8abf5 (w : Nat) (M : Mem) : Option Ret := some (sL w, M)
def f_J0_charAt_5068e (w : Nat) (v1 : Int32) (M : Mem) : Option Ret := gV v1 (sLen.getD w 0) (some (chr w v1, M))
theorem dJ3_checkIndex_8e157_0 : di cJ3_checkIndex_8e157 0 (.iload_n 0) 1 1 := ⟨by decide +kernel, rfl⟩
theorem dJ3_checkIndex_8e157_1 : dj cJ3_checkIndex_8e157 1 (.ifCond .lt) 4 9 := ⟨8, by decide +kernel, rfl, rfl⟩
theorem dJ3_checkIndex_8e157_4 : di cJ3_checkIndex_8e157 4 (.iload_n 0) 1 5 := ⟨by decide +kernel, rfl⟩
theorem dJ3_checkIndex_8e157_5 : di cJ3_checkIndex_8e157 5 (.iload_n 1) 1 6 := ⟨by decide +kernel, rfl⟩
theorem dJ3_checkIndex_8e157_6 : dj cJ3_checkIndex_8e157 6 (.if_icmp .lt) 9 16 := ⟨10, by decide +kernel, rfl, rfl⟩
theorem dJ3_checkIndex_8e157_9 : di cJ3_checkIndex_8e157 9 (.aload_n 2) 1 10 := ⟨by decide +kernel, rfl⟩
theorem dJ3_checkIndex_8e157_10 : di cJ3_checkIndex_8e157 10 (.iload_n 0) 1 11 := ⟨by decide +kernel, rfl⟩
theorem dJ3_checkIndex_8e157_11 : di cJ3_checkIndex_8e157 11 (.iload_n 1) 1 12 := ⟨by decide +kernel, rfl⟩
theorem dJ3_checkIndex_8e157_12 : di cJ3_checkIndex_8e157 12 (.invokestatic 95) 3 15 := ⟨by decide +kernel, rfl⟩
theorem dJ3_checkIndex_8e157_16 : di cJ3_checkIndex_8e157 16 (.iload_n 0) 1 17 := ⟨by decide +kernel, rfl⟩
theorem dJ3_checkIndex_8e157_17 : di cJ3_checkIndex_8e157 17 (.ireturn) 1 18 := ⟨by decide +kernel, rfl⟩
theorem dJ0_checkIndex_df160_0 : di cJ0_checkIndex_df160 0 (.iload_n 0) 1 1 := ⟨by decide +kernel, rfl⟩
theorem dJ0_checkIndex_df160_1 : di cJ0_checkIndex_df160 1 (.iload_n 1) 1 2 := ⟨by decide +kernel, rfl⟩
theorem dJ0_checkIndex_df160_2 : di cJ0_checkIndex_df160 2 (.getstatic 1053) 3 5 := ⟨by decide +kernel, rfl⟩
theorem dJ0_checkIndex_df160_5 : di cJ0_checkIndex_df160 5 (.invokestatic 1059) 3 8 := ⟨by decide +kernel, rfl⟩
theorem dJ0_checkIndex_df160_8 : di cJ0_checkIndex_df160 8 (.pop) 1 9 := ⟨by decide +kernel, rfl⟩
theorem dJ0_checkIndex_df160_9 : di cJ0_checkIndex_df160 9 (.return_) 1 10 := ⟨by decide +kernel, rfl⟩
theorem dJ1_charAt_3b067_0 : di cJ1_charAt_3b067 0 (.iload_n 1) 1 1 := ⟨by decide +kernel, rfl⟩
theorem dJ1_charAt_3b067_1 : di cJ1_charAt_3b067 1 (.aload_n 0) 1 2 := ⟨by decide +kernel, rfl⟩
theorem dJ1_charAt_3b067_2 : di cJ1_charAt_3b067 2 (.arraylength) 1 3 := ⟨by decide +kernel, rfl⟩
theorem dJ1_charAt_3b067_3 : di cJ1_charAt_3b067 3 (.invokestatic 9) 3 6 := ⟨by decide +kernel, rfl⟩
theorem dJ1_charAt_3b067_6 : di cJ1_charAt_3b067 6 (.aload_n 0) 1 7 := ⟨by decide +kernel, rfl⟩
theorem dJ1_charAt_3b067_7 : di cJ1_charAt_3b067 7 (.iload_n 1) 1 8 := ⟨by decide +kernel, rfl⟩
theorem dJ1_charAt_3b067_8 : di cJ1_charAt_3b067 8 (.baload) 1 9 := ⟨by decide +kernel, rfl⟩
theorem dJ1_charAt_3b067_9 : di cJ1_charAt_3b067 9 (.sipush 255) 3 12 := ⟨by decide +kernel, rfl⟩
theorem dJ1_charAt_3b067_12 : di cJ1_charAt_3b067 12 (.iand) 1 13 := ⟨by decide +kernel, rfl⟩
theorem dJ1_charAt_3b067_13 : di cJ1_charAt_3b067 13 (.i2c) 1 14 := ⟨by decide +kernel, rfl⟩
theorem dJ1_charAt_3b067_14 : di cJ1_charAt_3b067 14 (.ireturn) 1 15 := ⟨by decide +kernel, rfl⟩
theorem dJ0_isLatin1_aae02_0 : di cJ0_isLatin1_aae02 0 (.getstatic 38) 3 3 := ⟨by decide +kernel, rfl⟩
theorem dJ0_isLatin1_aae02_3 : dj cJ0_isLatin1_aae02 3 (.ifCond .eq) 6 17 := ⟨14, by decide +kernel, rfl, rfl⟩
theorem dJ0_isLatin1_aae02_6 : di cJ0_isLatin1_aae02 6 (.aload_n 0) 1 7 := ⟨by decide +kernel, rfl⟩
theorem dJ0_isLatin1_aae02_7 : di cJ0_isLatin1_aae02 7 (.getfield 15) 3 10 := ⟨by decide +kernel, rfl⟩
theorem dJ0_isLatin1_aae02_10 : dj cJ0_isLatin1_aae02 10 (.ifCond .ne) 13 17 := ⟨7, by decide +kernel, rfl, rfl⟩
theorem dJ0_isLatin1_aae02_13 : di cJ0_isLatin1_aae02 13 (.iconst 1) 1 14 := ⟨by decide +kernel, rfl⟩
theorem dJ0_isLatin1_aae02_14 : dj cJ0_isLatin1_aae02 14 .goto 17 18 := ⟨4, by decide +kernel, rfl, rfl⟩
theorem dJ0_isLatin1_aae02_17 : di cJ0_isLatin1_aae02 17 (.iconst 0) 1 18 := ⟨by decide +kernel, rfl⟩
theorem dJ0_isLatin1_aae02_18 : di cJ0_isLatin1_aae02 18 (.ireturn) 1 19 := ⟨by decide +kernel, rfl⟩
theorem dJ0_charAt_5068e_0 : di cJ0_charAt_5068e 0 (.aload_n 0) 1 1 := ⟨by decide +kernel, rfl⟩
theorem dJ0_charAt_5068e_1 : di cJ0_charAt_5068e 1 (.invokevirtual 492) 3 4 := ⟨by decide +kernel, rfl⟩
theorem dJ0_charAt_5068e_4 : dj cJ0_charAt_5068e 4 (.ifCond .eq) 7 16 := ⟨12, by decide +kernel, rfl, rfl⟩
theorem dJ0_charAt_5068e_7 : di cJ0_charAt_5068e 7 (.aload_n 0) 1 8 := ⟨by decide +kernel, rfl⟩
theorem dJ0_charAt_5068e_8 : di cJ0_charAt_5068e 8 (.getfield 9) 3 11 := ⟨by decide +kernel, rfl⟩
theorem dJ0_charAt_5068e_11 : di cJ0_charAt_5068e 11 (.iload_n 1) 1 12 := ⟨by decide +kernel, rfl⟩
theorem dJ0_charAt_5068e_12 : di cJ0_charAt_5068e 12 (.invokestatic 495) 3 15 := ⟨by decide +kernel, rfl⟩
theorem dJ0_charAt_5068e_15 : di cJ0_charAt_5068e 15 (.ireturn) 1 16 := ⟨by decide +kernel, rfl⟩
theorem dJ0_charAt_5068e_16 : di cJ0_charAt_5068e 16 (.aload_n 0) 1 17 := ⟨by decide +kernel, rfl⟩
theorem dJ0_charAt_5068e_17 : di cJ0_charAt_5068e 17 (.getfield 9) 3 20 := ⟨by decide +kernel, rfl⟩
theorem dJ0_charAt_5068e_20 : di cJ0_charAt_5068e 20 (.iload_n 1) 1 21 := ⟨by decide +kernel, rfl⟩
theorem dJ0_charAt_5068e_21 : di cJ0_charAt_5068e 21 (.invokestatic 498) 3 24 := ⟨by decide +kernel, rfl⟩
theorem dJ0_charAt_5068e_24 : di cJ0_charAt_5068e 24 (.ireturn) 1 25 := ⟨by decide +kernel, rfl⟩
theorem dJ0_coder_7d493_0 : di cJ0_coder_7d493 0 (.getstatic 38) 3 3 := ⟨by decide +kernel, rfl⟩
theorem dJ0_coder_7d493_3 : dj cJ0_coder_7d493 3 (.ifCond .eq) 6 13 := ⟨10, by decide +kernel, rfl, rfl⟩
theorem dJ0_coder_7d493_6 : di cJ0_coder_7d493 6 (.aload_n 0) 1 7 := ⟨by decide +kernel, rfl⟩
theorem dJ0_coder_7d493_7 : di cJ0_coder_7d493 7 (.getfield 15) 3 10 := ⟨by decide +kernel, rfl⟩
theorem dJ0_coder_7d493_10 : dj cJ0_coder_7d493 10 .goto 13 14 := ⟨4, by decide +kernel, rfl, rfl⟩
theorem dJ0_coder_7d493_13 : di cJ0_coder_7d493 13 (.iconst 1) 1 14 := ⟨by decide +kernel, rfl⟩
theorem dJ0_coder_7d493_14 : di cJ0_coder_7d493 14 (.ireturn) 1 15 := ⟨by decide +kernel, rfl⟩
theorem dJ0_length_8abf5_0 : di cJ0_length_8abf5 0 (.aload_n 0) 1 1 := ⟨by decide +kernel, rfl⟩
theorem dJ0_length_8abf5_1 : di cJ0_length_8abf5 1 (.getfield 9) 3 4 := ⟨by decide +kernel, rfl⟩
theorem dJ0_length_8abf5_4 : di cJ0_length_8abf5 4 (.arraylength) 1 5 := ⟨by decide +kernel, rfl⟩
theorem dJ0_length_8abf5_5 : di cJ0_length_8abf5 5 (.aload_n 0) 1 6 := ⟨by decide +kernel, rfl⟩
theorem dJ0_length_8abf5_6 : di cJ0_length_8abf5 6 (.invokevirtual 335) 3 9 := ⟨by decide +kernel, rfl⟩
theorem dJ0_length_8abf5_9 : di cJ0_length_8abf5 9 (.ishr) 1 10 := ⟨by decide +kernel, rfl⟩
theorem dJ0_length_8abf5_10 : di cJ0_length_8abf5 10 (.ireturn) 1 11 := ⟨by decide +kernel, rfl⟩
theorem dX5_wordOf_0 : di cX5_wordOf 0 (.iload_n 0) 1 1 := ⟨by decide +kernel, rfl⟩
theorem dX5_wordOf_1 : dts cX5_wordOf 1 (0) (3) 44 [32, 35, 38, 41] := ⟨43, #[31, 34, 37, 40], 31, by decide +kernel, rfl, by decide +kernel⟩
theorem dX5_wordOf_32 : di cX5_wordOf 32 (.ldc 84) 2 34 := ⟨by decide +kernel, rfl⟩
theorem dX5_wordOf_34 : di cX5_wordOf 34 (.areturn) 1 35 := ⟨by decide +kernel, rfl⟩
theorem dX5_wordOf_35 : di cX5_wordOf 35 (.ldc 86) 2 37 := ⟨by decide +kernel, rfl⟩
theorem dX5_wordOf_37 : di cX5_wordOf 37 (.areturn) 1 38 := ⟨by decide +kernel, rfl⟩
theorem dX5_wordOf_38 : di cX5_wordOf 38 (.ldc 88) 2 40 := ⟨by decide +kernel, rfl⟩
theorem dX5_wordOf_40 : di cX5_wordOf 40 (.areturn) 1 41 := ⟨by decide +kernel, rfl⟩
theorem dX5_wordOf_41 : di cX5_wordOf 41 (.ldc 90) 2 43 := ⟨by decide +kernel, rfl⟩
theorem dX5_wordOf_43 : di cX5_wordOf 43 (.areturn) 1 44 := ⟨by decide +kernel, rfl⟩
theorem dX5_wordOf_44 : di cX5_wordOf 44 (.ldc 92) 2 46 := ⟨by decide +kernel, rfl⟩
theorem dX5_wordOf_46 : di cX5_wordOf 46 (.areturn) 1 47 := ⟨by decide +kernel, rfl⟩
theorem ok_J3_checkIndex_8e157 {l : Launch} {g : Cx} {i n : Int32} {v : Value} {M : Mem} (hv : v = .null ∨ ∃ t : Nat, v = .ref t) (h0 : ¬ i < 0) (h1 : i < n) : CT l g yJ3_checkIndex_8e157 cJ3_checkIndex_8e157 3 (some .int) 0 0 [.int i, .int n, v] M (PI i M) := by
  have key : AT l g yJ3_checkIndex_8e157.cls cJ3_checkIndex_8e157 3 (some .int) (rmM 0 0) (PI i M) 0 [some (.int i), some (.int n), some v] [] M := by
    refine A_iload_n dJ3_checkIndex_8e157_0 rfl ?_
    refine A_if_lt dJ3_checkIndex_8e157_1 (fun hc => absurd hc h0) (fun _ => ?_)
    refine A_iload_n dJ3_checkIndex_8e157_4 rfl ?_
    refine A_iload_n dJ3_checkIndex_8e157_5 rfl ?_
    refine A_icmp_lt dJ3_checkIndex_8e157_6 (fun _ => ?_) (fun hc => absurd h1 hc)
    refine A_iload_n dJ3_checkIndex_8e157_16 rfl ?_
    exact A_iret dJ3_checkIndex_8e157_17 ⟨rfl, rfl⟩
  rcases hv with rfl | ⟨t, rfl⟩
  · exact CT_of (by decide) rfl (Nat.le_of_ble_eq_true rfl) key
  · exact CT_of (by decide) rfl (Nat.le_of_ble_eq_true rfl) key
theorem ok_J0_checkIndex_df160 {l : Launch} {g : Cx} {i n : Int32} {M : Mem} (h0 : ¬ i < 0) (h1 : i < n) : CT l g yJ0_checkIndex_df160 cJ0_checkIndex_df160 2 none 1 22 [.int i, .int n] M (PV 0 M) := by
  refine CT_of (lv := [some (.int i), some (.int n)]) (by decide) rfl (Nat.le_of_ble_eq_true rfl) ?_
  refine A_iload_n dJ0_checkIndex_df160_0 rfl ?_
  refine A_iload_n dJ0_checkIndex_df160_1 rfl ?_
  refine A_getq dJ0_checkIndex_df160_2 sl_J0_1053 (fun _ _ _ h => h.2.2.2.2.2.2.2) (fun v hv => ?_)
  refine A_cSi3 dJ0_checkIndex_df160_5 ml_J0_1059 mb_J3_checkIndex_8e157 ms_J3_checkIndex_8e157 ⟨Nat.le_of_ble_eq_true rfl, Nat.le_of_ble_eq_true rfl⟩ (Nat.le_of_ble_eq_true rfl) (ok_J3_checkIndex_8e157 hv h0 h1) ?_
  refine A_pop dJ0_checkIndex_df160_8 rfl ?_
  exact A_vret dJ0_checkIndex_df160_9 ⟨rfl, rfl⟩
theorem ok_J1_charAt_3b067 {l : Launch} {g : Cx} {w : Nat} {i : Int32} {M : Mem} (hw : w < 5) (hi : vp_in i (sLen.getD w 0)) (h1 : i < Int32.ofNat (sLen.getD w 0)) : CT l g yJ1_charAt_3b067 cJ1_charAt_3b067 2 (some .char) 2 43 [.ref (g.2.2.2.2.2 w), .int i] M (PI (chr w i) M) := by
  refine CT_of (lv := [some (.ref (g.2.2.2.2.2 w)), some (.int i)]) (by decide) rfl (Nat.le_of_ble_eq_true rfl) ?_
  refine A_iload_n dJ1_charAt_3b067_0 rfl ?_
  refine A_aload_n dJ1_charAt_3b067_1 rfl ?_
  refine A_tlenB (v := Int32.ofNat (sLen.getD w 0)) dJ1_charAt_3b067_2 (fun _ _ _ h => (h.2.2.2.2.1.1 w hw).2.2.2) rfl ?_
  refine A_cSv2 dJ1_charAt_3b067_3 ml_J1_9 mb_J0_checkIndex_df160 ms_J0_checkIndex_df160 ⟨Nat.le_of_ble_eq_true rfl, Nat.le_of_ble_eq_true rfl⟩ (Nat.le_of_ble_eq_true rfl) (ok_J0_checkIndex_df160 (fun q => hi (Or.inl q)) h1) ?_
  refine A_aload_n dJ1_charAt_3b067_6 rfl ?_
  refine A_iload_n dJ1_charAt_3b067_7 rfl ?_
  refine A_tbald (f := fun j => (sByt.getD w []).getD j 0) dJ1_charAt_3b067_8 (fun _ _ _ h => (h.2.2.2.2.1.1 w hw).2.2.2) hi ?_
  refine A_sipush (v := 255) dJ1_charAt_3b067_9 (by decide) ?_
  refine A_iand dJ1_charAt_3b067_12 ?_
  refine A_i2c dJ1_charAt_3b067_13 ?_
  exact A_cret dJ1_charAt_3b067_14 (pk_nc _) ⟨rfl, rfl⟩
theorem ok_J0_isLatin1_aae02 {l : Launch} {g : Cx} {w : Nat} {M : Mem} (hw : w < 5) : CT l g yJ0_isLatin1_aae02 cJ0_isLatin1_aae02 1 (some .boolean) 0 0 [.ref (g.2.2.2.2.1 w)] M (PI 1 M) := by
  refine CT_of (lv := [some (.ref (g.2.2.2.2.1 w))]) (by decide) rfl (Nat.le_of_ble_eq_true rfl) ?_
  refine A_gets dJ0_isLatin1_aae02_0 sl_J0_38 (fun _ _ _ h => h.2.2.2.1) ?_
  refine A_if_eq dJ0_isLatin1_aae02_3 (fun hc => absurd hc (by decide)) (fun _ => ?_)
  refine A_aload_n dJ0_isLatin1_aae02_6 rfl ?_
  refine A_getk dJ0_isLatin1_aae02_7 sl_J0_15 (fun _ _ _ h => (h.2.2.2.2.1.1 w hw).2.1) ?_
  refine A_if_ne dJ0_isLatin1_aae02_10 (fun hc => absurd rfl hc) (fun _ => ?_)
  refine A_iconst (v := 1) dJ0_isLatin1_aae02_13 (by decide) ?_
  refine A_goto dJ0_isLatin1_aae02_14 ?_
  exact A_zret dJ0_isLatin1_aae02_18 (by decide) ⟨rfl, rfl⟩
theorem ok_J0_coder_7d493 {l : Launch} {g : Cx} {w : Nat} {M : Mem} {r : Int32} {Mr : Mem} (hw : w < 5) (h : f_J0_coder_7d493 w M = some (r, Mr)) : CT l g yJ0_coder_7d493 cJ0_coder_7d493 1 (some .byte) 0 0 [.ref (g.2.2.2.2.1 w)] M (PI r Mr) := by
  cases h
  refine CT_of (lv := [some (.ref (g.2.2.2.2.1 w))]) (by decide) rfl (Nat.le_of_ble_eq_true rfl) ?_
  refine A_gets dJ0_coder_7d493_0 sl_J0_38 (fun _ _ _ h => h.2.2.2.1) ?_
  refine A_if_eq dJ0_coder_7d493_3 (fun hc => absurd hc (by decide)) (fun _ => ?_)
  refine A_aload_n dJ0_coder_7d493_6 rfl ?_
  refine A_getk dJ0_coder_7d493_7 sl_J0_15 (fun _ _ _ h => (h.2.2.2.2.1.1 w hw).2.1) ?_
  refine A_goto dJ0_coder_7d493_10 ?_
  exact A_cret dJ0_coder_7d493_14 rfl ⟨rfl, rfl⟩
theorem ok_J0_length_8abf5 {l : Launch} {g : Cx} {w : Nat} {M : Mem} {r : Int32} {Mr : Mem} (hw : w < 5) (h : f_J0_length_8abf5 w M = some (r, Mr)) : CT l g yJ0_length_8abf5 cJ0_length_8abf5 1 (some .int) 1 20 [.ref (g.2.2.2.2.1 w)] M (PI r Mr) := by
  cases h
  refine CT_of (lv := [some (.ref (g.2.2.2.2.1 w))]) (by decide) rfl (Nat.le_of_ble_eq_true rfl) ?_
  refine A_aload_n dJ0_length_8abf5_0 rfl ?_
  refine A_getk dJ0_length_8abf5_1 sl_J0_9 (fun _ _ _ h => (h.2.2.2.2.1.1 w hw).2.2.1) ?_
  refine A_tlenB (v := Int32.ofNat (sLen.getD w 0)) dJ0_length_8abf5_4 (fun _ _ _ h => (h.2.2.2.2.1.1 w hw).2.2.2) rfl ?_
  refine A_aload_n dJ0_length_8abf5_5 rfl ?_
  refine A_cVs0 hw rfl dJ0_length_8abf5_6 ml_J0_335 mb_J0_coder_7d493 mi_J0_coder_7d493 ⟨Nat.le_of_ble_eq_true rfl, Nat.le_of_ble_eq_true rfl⟩ (Nat.le_of_ble_eq_true rfl) (ok_J0_coder_7d493 hw rfl) ?_
  refine A_ishr dJ0_length_8abf5_9 ?_
  exact A_iret dJ0_length_8abf5_10 ⟨rfl, rfl⟩
theorem sLen_lt {w : Nat} : sLen.getD w 0 < 2 ^ 31 := by
  rcases (show w = 0 ∨ w = 1 ∨ w = 2 ∨ w = 3 ∨ w = 4 ∨ 5 ≤ w by omega) with rfl | rfl | rfl | rfl | rfl | h
  · decide
  · decide
  · decide
  · decide
  · decide
  · have : sLen.getD w 0 = 0 := by
      rw [List.getD_eq_getElem?_getD, List.getElem?_eq_none (show sLen.length ≤ w from h)]; rfl
    rw [this]; decide
theorem ok_J0_charAt_5068e {l : Launch} {g : Cx} {w : Nat} {v1 : Int32} {M : Mem} {r : Int32} {Mr : Mem} (hw : w < 5) (h : f_J0_charAt_5068e w v1 M = some (r, Mr)) : CT l g yJ0_charAt_5068e cJ0_charAt_5068e 2 (some .char) 4 85 [.ref (g.2.2.2.2.1 w), .int v1] M (PI r Mr) := by
  unfold f_J0_charAt_5068e at h
  obtain ⟨hg, h⟩ := gV_go h
  cases h
  have h1 : v1 < Int32.ofNat (sLen.getD w 0) := by
    obtain ⟨j, hj, rfl⟩ := vp_in_of hg sLen_lt
    exact nI_lt hj sLen_lt
  refine CT_of (lv := [some (.ref (g.2.2.2.2.1 w)), some (.int v1)]) (by decide) rfl (Nat.le_of_ble_eq_true rfl) ?_
  refine A_aload_n dJ0_charAt_5068e_0 rfl ?_
  refine A_cVs0 hw rfl dJ0_charAt_5068e_1 ml_J0_492 mb_J0_isLatin1_aae02 mi_J0_isLatin1_aae02 ⟨Nat.le_of_ble_eq_true rfl, Nat.le_of_ble_eq_true rfl⟩ (Nat.le_of_ble_eq_true rfl) (ok_J0_isLatin1_aae02 hw) ?_
  refine A_if_eq dJ0_charAt_5068e_4 (fun hc => absurd hc (by decide)) (fun _ => ?_)
  refine A_aload_n dJ0_charAt_5068e_7 rfl ?_
  refine A_getk dJ0_charAt_5068e_8 sl_J0_9 (fun _ _ _ h => (h.2.2.2.2.1.1 w hw).2.2.1) ?_
  refine A_iload_n dJ0_charAt_5068e_11 rfl ?_
  refine A_cSi2 dJ0_charAt_5068e_12 ml_J0_495 mb_J1_charAt_3b067 ms_J1_charAt_3b067 ⟨Nat.le_of_ble_eq_true rfl, Nat.le_of_ble_eq_true rfl⟩ (Nat.le_of_ble_eq_true rfl) (ok_J1_charAt_3b067 hw hg h1) ?_
  exact A_cret dJ0_charAt_5068e_15 (pk_nc _) ⟨rfl, rfl⟩
def f_X5_wordOf (v0 : Int32) (M : Mem) : Option Ret := if v0 = 0 then some (0, M) else if v0 = 1 then some (1, M) else if v0 = 2 then some (2, M) else if v0 = 3 then some (3, M) else some (4, M)
theorem ok_X5_wordOf {l : Launch} {g : Cx} {v0 : Int32} {M : Mem} {r : Int32} {Mr : Mem} (h : f_X5_wordOf v0 M = some (r, Mr)) : CT l g yX5_wordOf cX5_wordOf 1 (some (.object "java/lang/String")) 0 0 [.int v0] M (PS g r Mr) := by
  refine CT_of (lv := [some (.int v0)]) (by decide) rfl (Nat.le_of_ble_eq_true rfl) ?_
  unfold f_X5_wordOf at h
  refine A_iload_n dX5_wordOf_0 rfl ?_
  by_cases hc0 : v0 = 0
  · have h := gT_go hc0 h
    cases h
    refine A_tsIn (k0 := 0) dX5_wordOf_1 (by rw [hc0]; decide) rfl ?_
    refine A_ldcS (q := g.2.2.2.2.1 0) dX5_wordOf_32 (fun _ _ _ h => h.2.2.2.2.2.1.1) ?_
    exact A_aret dX5_wordOf_34 ⟨rfl, rfl⟩
  have h := gF_go hc0 h
  by_cases hc1 : v0 = 1
  · have h := gT_go hc1 h
    cases h
    refine A_tsIn (k0 := 1) dX5_wordOf_1 (by rw [hc1]; decide) rfl ?_
    refine A_ldcS (q := g.2.2.2.2.1 1) dX5_wordOf_35 (fun _ _ _ h => h.2.2.2.2.2.1.2.1) ?_
    exact A_aret dX5_wordOf_37 ⟨rfl, rfl⟩
  have h := gF_go hc1 h
  by_cases hc2 : v0 = 2
  · have h := gT_go hc2 h
    cases h
    refine A_tsIn (k0 := 2) dX5_wordOf_1 (by rw [hc2]; decide) rfl ?_
    refine A_ldcS (q := g.2.2.2.2.1 2) dX5_wordOf_38 (fun _ _ _ h => h.2.2.2.2.2.1.2.2.1) ?_
    exact A_aret dX5_wordOf_40 ⟨rfl, rfl⟩
  have h := gF_go hc2 h
  by_cases hc3 : v0 = 3
  · have h := gT_go hc3 h
    cases h
    refine A_tsIn (k0 := 3) dX5_wordOf_1 (by rw [hc3]; decide) rfl ?_
    refine A_ldcS (q := g.2.2.2.2.1 3) dX5_wordOf_41 (fun _ _ _ h => h.2.2.2.2.2.1.2.2.2.1) ?_
    exact A_aret dX5_wordOf_43 ⟨rfl, rfl⟩
  have h := gF_go hc3 h
  cases h
  refine A_tsOut dX5_wordOf_1 (tsw_out (fun k h1 h2 => ?_)) ?_
  · rcases (show k = 0 ∨ k = 1 ∨ k = 2 ∨ k = 3 by omega) with rfl | rfl | rfl | rfl
    · exact hc0
    · exact hc1
    · exact hc2
    · exact hc3
  · refine A_ldcS (q := g.2.2.2.2.1 4) dX5_wordOf_44 (fun _ _ _ h => h.2.2.2.2.2.1.2.2.2.2) ?_
    exact A_aret dX5_wordOf_46 ⟨rfl, rfl⟩
end
