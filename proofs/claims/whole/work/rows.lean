section
-- ===== PART A: goes FIRST, ahead of the names: the tables' words, and 'selects' of the private methods out of them =====
/-- a private method of a class that the tables say can be made, by its rows of tables_1 -/
def lw_okq (q : MethodName × Nat) : Prop := (q.1.cls ≠ "java/lang/invoke/MethodHandle" ∧ q.1.cls ≠ "java/lang/invoke/VarHandle") ∧ Cond.instantiable q.1.cls q.2 ∈ tables_1 ∧ Cond.privateMethod q.1 ∈ tables_1 ∧ Cond.instanceMethod q.1 ∈ tables_1
theorem lw_p0 : lw_okq (⟨"BenchTimes", "finding", "(I)I"⟩, 14) := ⟨⟨by decide +kernel, by decide +kernel⟩, List.mem_of_getElem? (i := 20) (by decide +kernel), List.mem_of_getElem? (i := 357) (by decide +kernel), List.mem_of_getElem? (i := 358) (by decide +kernel)⟩
theorem lw_p1 : lw_okq (⟨"BenchTimes$Watch", "gatherNormals", "(I)V"⟩, 16) := ⟨⟨by decide +kernel, by decide +kernel⟩, List.mem_of_getElem? (i := 48) (by decide +kernel), List.mem_of_getElem? (i := 463) (by decide +kernel), List.mem_of_getElem? (i := 464) (by decide +kernel)⟩
theorem lw_p2 : lw_okq (⟨"BenchTimes$Watch", "putInOrder", "(I)V"⟩, 16) := ⟨⟨by decide +kernel, by decide +kernel⟩, List.mem_of_getElem? (i := 48) (by decide +kernel), List.mem_of_getElem? (i := 468) (by decide +kernel), List.mem_of_getElem? (i := 469) (by decide +kernel)⟩
theorem lw_p3 : lw_okq (⟨"BenchTimes$Watch", "keepNormals", "()V"⟩, 16) := ⟨⟨by decide +kernel, by decide +kernel⟩, List.mem_of_getElem? (i := 48) (by decide +kernel), List.mem_of_getElem? (i := 472) (by decide +kernel), List.mem_of_getElem? (i := 473) (by decide +kernel)⟩
theorem lw_p4 : lw_okq (⟨"BenchTimes", "newRate", "(II)I"⟩, 14) := ⟨⟨by decide +kernel, by decide +kernel⟩, List.mem_of_getElem? (i := 20) (by decide +kernel), List.mem_of_getElem? (i := 529) (by decide +kernel), List.mem_of_getElem? (i := 530) (by decide +kernel)⟩
theorem lw_p5 : lw_okq (⟨"BenchTimes$Rules", "readClauses", "()Z"⟩, 5) := ⟨⟨by decide +kernel, by decide +kernel⟩, List.mem_of_getElem? (i := 154) (by decide +kernel), List.mem_of_getElem? (i := 646) (by decide +kernel), List.mem_of_getElem? (i := 647) (by decide +kernel)⟩
theorem lw_p6 : lw_okq (⟨"BenchTimes$Rules", "readClause", "()Z"⟩, 5) := ⟨⟨by decide +kernel, by decide +kernel⟩, List.mem_of_getElem? (i := 154) (by decide +kernel), List.mem_of_getElem? (i := 651) (by decide +kernel), List.mem_of_getElem? (i := 652) (by decide +kernel)⟩
theorem lw_p7 : lw_okq (⟨"BenchTimes$Rules", "readWord", "()I"⟩, 5) := ⟨⟨by decide +kernel, by decide +kernel⟩, List.mem_of_getElem? (i := 154) (by decide +kernel), List.mem_of_getElem? (i := 655) (by decide +kernel), List.mem_of_getElem? (i := 656) (by decide +kernel)⟩
theorem lw_p8 : lw_okq (⟨"BenchTimes$Rules", "alikeWith", "(Ljava/lang/String;)I"⟩, 5) := ⟨⟨by decide +kernel, by decide +kernel⟩, List.mem_of_getElem? (i := 154) (by decide +kernel), List.mem_of_getElem? (i := 667) (by decide +kernel), List.mem_of_getElem? (i := 668) (by decide +kernel)⟩
theorem lw_p9 : lw_okq (⟨"BenchTimes$Rules", "readSign", "(C)Z"⟩, 5) := ⟨⟨by decide +kernel, by decide +kernel⟩, List.mem_of_getElem? (i := 154) (by decide +kernel), List.mem_of_getElem? (i := 720) (by decide +kernel), List.mem_of_getElem? (i := 721) (by decide +kernel)⟩
theorem lw_p10 : lw_okq (⟨"BenchTimes$Rules", "readNumber", "()I"⟩, 5) := ⟨⟨by decide +kernel, by decide +kernel⟩, List.mem_of_getElem? (i := 154) (by decide +kernel), List.mem_of_getElem? (i := 724) (by decide +kernel), List.mem_of_getElem? (i := 725) (by decide +kernel)⟩
theorem lw_p11 : lw_okq (⟨"BenchTimes$Rules", "takeNewValues", "()I"⟩, 5) := ⟨⟨by decide +kernel, by decide +kernel⟩, List.mem_of_getElem? (i := 154) (by decide +kernel), List.mem_of_getElem? (i := 731) (by decide +kernel), List.mem_of_getElem? (i := 732) (by decide +kernel)⟩
theorem lw_p12 : lw_okq (⟨"BenchTimes", "isOn", "(I)Z"⟩, 14) := ⟨⟨by decide +kernel, by decide +kernel⟩, List.mem_of_getElem? (i := 20) (by decide +kernel), List.mem_of_getElem? (i := 744) (by decide +kernel), List.mem_of_getElem? (i := 745) (by decide +kernel)⟩
theorem lw_p13 : lw_okq (⟨"BenchTimes$WorkRows", "learnersMore", "(II)I"⟩, 11) := ⟨⟨by decide +kernel, by decide +kernel⟩, List.mem_of_getElem? (i := 176) (by decide +kernel), List.mem_of_getElem? (i := 802) (by decide +kernel), List.mem_of_getElem? (i := 803) (by decide +kernel)⟩
theorem lw_p14 : lw_okq (⟨"BenchTimes$Pays", "forWaiting", "(II)I"⟩, 3) := ⟨⟨by decide +kernel, by decide +kernel⟩, List.mem_of_getElem? (i := 241) (by decide +kernel), List.mem_of_getElem? (i := 820) (by decide +kernel), List.mem_of_getElem? (i := 821) (by decide +kernel)⟩
theorem lw_p15 : lw_okq (⟨"BenchTimes", "orNone", "(I)I"⟩, 14) := ⟨⟨by decide +kernel, by decide +kernel⟩, List.mem_of_getElem? (i := 20) (by decide +kernel), List.mem_of_getElem? (i := 858) (by decide +kernel), List.mem_of_getElem? (i := 859) (by decide +kernel)⟩
def lw_privs_1 : List (MethodName × Nat) := [(⟨"BenchTimes", "finding", "(I)I"⟩, 14), (⟨"BenchTimes$Watch", "gatherNormals", "(I)V"⟩, 16), (⟨"BenchTimes$Watch", "putInOrder", "(I)V"⟩, 16), (⟨"BenchTimes$Watch", "keepNormals", "()V"⟩, 16), (⟨"BenchTimes", "newRate", "(II)I"⟩, 14), (⟨"BenchTimes$Rules", "readClauses", "()Z"⟩, 5), (⟨"BenchTimes$Rules", "readClause", "()Z"⟩, 5), (⟨"BenchTimes$Rules", "readWord", "()I"⟩, 5), (⟨"BenchTimes$Rules", "alikeWith", "(Ljava/lang/String;)I"⟩, 5), (⟨"BenchTimes$Rules", "readSign", "(C)Z"⟩, 5), (⟨"BenchTimes$Rules", "readNumber", "()I"⟩, 5), (⟨"BenchTimes$Rules", "takeNewValues", "()I"⟩, 5), (⟨"BenchTimes", "isOn", "(I)Z"⟩, 14), (⟨"BenchTimes$WorkRows", "learnersMore", "(II)I"⟩, 11), (⟨"BenchTimes$Pays", "forWaiting", "(II)I"⟩, 3), (⟨"BenchTimes", "orNone", "(I)I"⟩, 14)]
theorem lw_r1 : ∀ q ∈ lw_privs_1, lw_okq q := List.forall_mem_cons.mpr ⟨lw_p0, List.forall_mem_cons.mpr ⟨lw_p1, List.forall_mem_cons.mpr ⟨lw_p2, List.forall_mem_cons.mpr ⟨lw_p3, List.forall_mem_cons.mpr ⟨lw_p4, List.forall_mem_cons.mpr ⟨lw_p5, List.forall_mem_cons.mpr ⟨lw_p6, List.forall_mem_cons.mpr ⟨lw_p7, List.forall_mem_cons.mpr ⟨lw_p8, List.forall_mem_cons.mpr ⟨lw_p9, List.forall_mem_cons.mpr ⟨lw_p10, List.forall_mem_cons.mpr ⟨lw_p11, List.forall_mem_cons.mpr ⟨lw_p12, List.forall_mem_cons.mpr ⟨lw_p13, List.forall_mem_cons.mpr ⟨lw_p14, List.forall_mem_cons.mpr ⟨lw_p15, fun _ h => absurd h List.not_mem_nil⟩⟩⟩⟩⟩⟩⟩⟩⟩⟩⟩⟩⟩⟩⟩⟩
theorem lw_p16 : lw_okq (⟨"BenchTimes$Doubt", "reckonScores", "()V"⟩, 4) := ⟨⟨by decide +kernel, by decide +kernel⟩, List.mem_of_getElem? (i := 257) (by decide +kernel), List.mem_of_getElem? (i := 913) (by decide +kernel), List.mem_of_getElem? (i := 914) (by decide +kernel)⟩
theorem lw_p17 : lw_okq (⟨"BenchTimes$Doubt", "hasRows", "(I)Z"⟩, 4) := ⟨⟨by decide +kernel, by decide +kernel⟩, List.mem_of_getElem? (i := 257) (by decide +kernel), List.mem_of_getElem? (i := 918) (by decide +kernel), List.mem_of_getElem? (i := 919) (by decide +kernel)⟩
theorem lw_p18 : lw_okq (⟨"BenchTimes$Doubt", "manyAhead", "(I)I"⟩, 4) := ⟨⟨by decide +kernel, by decide +kernel⟩, List.mem_of_getElem? (i := 257) (by decide +kernel), List.mem_of_getElem? (i := 922) (by decide +kernel), List.mem_of_getElem? (i := 923) (by decide +kernel)⟩
theorem lw_p19 : lw_okq (⟨"BenchTimes$Slowness", "countWays", "()V"⟩, 6) := ⟨⟨by decide +kernel, by decide +kernel⟩, List.mem_of_getElem? (i := 277) (by decide +kernel), List.mem_of_getElem? (i := 954) (by decide +kernel), List.mem_of_getElem? (i := 955) (by decide +kernel)⟩
theorem lw_p20 : lw_okq (⟨"BenchTimes$Slowness", "rankOf", "(I)I"⟩, 6) := ⟨⟨by decide +kernel, by decide +kernel⟩, List.mem_of_getElem? (i := 277) (by decide +kernel), List.mem_of_getElem? (i := 959) (by decide +kernel), List.mem_of_getElem? (i := 960) (by decide +kernel)⟩
theorem lw_p21 : lw_okq (⟨"BenchTimes$Slowness", "addRow", "(III)V"⟩, 6) := ⟨⟨by decide +kernel, by decide +kernel⟩, List.mem_of_getElem? (i := 277) (by decide +kernel), List.mem_of_getElem? (i := 964) (by decide +kernel), List.mem_of_getElem? (i := 965) (by decide +kernel)⟩
theorem lw_p22 : lw_okq (⟨"BenchTimes$Slowness", "watchedRanks", "()I"⟩, 6) := ⟨⟨by decide +kernel, by decide +kernel⟩, List.mem_of_getElem? (i := 277) (by decide +kernel), List.mem_of_getElem? (i := 968) (by decide +kernel), List.mem_of_getElem? (i := 969) (by decide +kernel)⟩
theorem lw_p23 : lw_okq (⟨"BenchTimesModel", "finding", "(I)I"⟩, 49) := ⟨⟨by decide +kernel, by decide +kernel⟩, List.mem_of_getElem? (i := 1009) (by decide +kernel), List.mem_of_getElem? (i := 1170) (by decide +kernel), List.mem_of_getElem? (i := 1171) (by decide +kernel)⟩
theorem lw_p24 : lw_okq (⟨"BenchTimesModel", "isElement", "(I)Z"⟩, 49) := ⟨⟨by decide +kernel, by decide +kernel⟩, List.mem_of_getElem? (i := 1009) (by decide +kernel), List.mem_of_getElem? (i := 1179) (by decide +kernel), List.mem_of_getElem? (i := 1180) (by decide +kernel)⟩
theorem lw_p25 : lw_okq (⟨"BenchTimesModel", "allowanceOf", "(I)I"⟩, 49) := ⟨⟨by decide +kernel, by decide +kernel⟩, List.mem_of_getElem? (i := 1009) (by decide +kernel), List.mem_of_getElem? (i := 1183) (by decide +kernel), List.mem_of_getElem? (i := 1184) (by decide +kernel)⟩
theorem lw_p26 : lw_okq (⟨"BenchTimesModel", "habitOf", "(I)I"⟩, 49) := ⟨⟨by decide +kernel, by decide +kernel⟩, List.mem_of_getElem? (i := 1009) (by decide +kernel), List.mem_of_getElem? (i := 1202) (by decide +kernel), List.mem_of_getElem? (i := 1203) (by decide +kernel)⟩
theorem lw_p27 : lw_okq (⟨"BenchTimesModel", "normalOf", "(I)I"⟩, 49) := ⟨⟨by decide +kernel, by decide +kernel⟩, List.mem_of_getElem? (i := 1009) (by decide +kernel), List.mem_of_getElem? (i := 1214) (by decide +kernel), List.mem_of_getElem? (i := 1215) (by decide +kernel)⟩
theorem lw_p28 : lw_okq (⟨"BenchTimesModel", "cyclesOf", "(I)I"⟩, 49) := ⟨⟨by decide +kernel, by decide +kernel⟩, List.mem_of_getElem? (i := 1009) (by decide +kernel), List.mem_of_getElem? (i := 1222) (by decide +kernel), List.mem_of_getElem? (i := 1223) (by decide +kernel)⟩
theorem lw_p29 : lw_okq (⟨"BenchTimesModel", "standardOf", "(I)I"⟩, 49) := ⟨⟨by decide +kernel, by decide +kernel⟩, List.mem_of_getElem? (i := 1009) (by decide +kernel), List.mem_of_getElem? (i := 1226) (by decide +kernel), List.mem_of_getElem? (i := 1227) (by decide +kernel)⟩
theorem lw_p30 : lw_okq (⟨"BenchTimesModel", "keptOf", "(II)I"⟩, 49) := ⟨⟨by decide +kernel, by decide +kernel⟩, List.mem_of_getElem? (i := 1009) (by decide +kernel), List.mem_of_getElem? (i := 1230) (by decide +kernel), List.mem_of_getElem? (i := 1231) (by decide +kernel)⟩
theorem lw_p31 : lw_okq (⟨"BenchTimesModel", "isJob", "(I)Z"⟩, 49) := ⟨⟨by decide +kernel, by decide +kernel⟩, List.mem_of_getElem? (i := 1009) (by decide +kernel), List.mem_of_getElem? (i := 1242) (by decide +kernel), List.mem_of_getElem? (i := 1243) (by decide +kernel)⟩
def lw_privs_2 : List (MethodName × Nat) := [(⟨"BenchTimes$Doubt", "reckonScores", "()V"⟩, 4), (⟨"BenchTimes$Doubt", "hasRows", "(I)Z"⟩, 4), (⟨"BenchTimes$Doubt", "manyAhead", "(I)I"⟩, 4), (⟨"BenchTimes$Slowness", "countWays", "()V"⟩, 6), (⟨"BenchTimes$Slowness", "rankOf", "(I)I"⟩, 6), (⟨"BenchTimes$Slowness", "addRow", "(III)V"⟩, 6), (⟨"BenchTimes$Slowness", "watchedRanks", "()I"⟩, 6), (⟨"BenchTimesModel", "finding", "(I)I"⟩, 49), (⟨"BenchTimesModel", "isElement", "(I)Z"⟩, 49), (⟨"BenchTimesModel", "allowanceOf", "(I)I"⟩, 49), (⟨"BenchTimesModel", "habitOf", "(I)I"⟩, 49), (⟨"BenchTimesModel", "normalOf", "(I)I"⟩, 49), (⟨"BenchTimesModel", "cyclesOf", "(I)I"⟩, 49), (⟨"BenchTimesModel", "standardOf", "(I)I"⟩, 49), (⟨"BenchTimesModel", "keptOf", "(II)I"⟩, 49), (⟨"BenchTimesModel", "isJob", "(I)Z"⟩, 49)]
theorem lw_r2 : ∀ q ∈ lw_privs_2, lw_okq q := List.forall_mem_cons.mpr ⟨lw_p16, List.forall_mem_cons.mpr ⟨lw_p17, List.forall_mem_cons.mpr ⟨lw_p18, List.forall_mem_cons.mpr ⟨lw_p19, List.forall_mem_cons.mpr ⟨lw_p20, List.forall_mem_cons.mpr ⟨lw_p21, List.forall_mem_cons.mpr ⟨lw_p22, List.forall_mem_cons.mpr ⟨lw_p23, List.forall_mem_cons.mpr ⟨lw_p24, List.forall_mem_cons.mpr ⟨lw_p25, List.forall_mem_cons.mpr ⟨lw_p26, List.forall_mem_cons.mpr ⟨lw_p27, List.forall_mem_cons.mpr ⟨lw_p28, List.forall_mem_cons.mpr ⟨lw_p29, List.forall_mem_cons.mpr ⟨lw_p30, List.forall_mem_cons.mpr ⟨lw_p31, fun _ h => absurd h List.not_mem_nil⟩⟩⟩⟩⟩⟩⟩⟩⟩⟩⟩⟩⟩⟩⟩⟩
theorem lw_p32 : lw_okq (⟨"BenchTimesModel", "latestOf", "(I)I"⟩, 49) := ⟨⟨by decide +kernel, by decide +kernel⟩, List.mem_of_getElem? (i := 1009) (by decide +kernel), List.mem_of_getElem? (i := 1246) (by decide +kernel), List.mem_of_getElem? (i := 1247) (by decide +kernel)⟩
theorem lw_p33 : lw_okq (⟨"BenchTimesModel", "make", "(III)I"⟩, 49) := ⟨⟨by decide +kernel, by decide +kernel⟩, List.mem_of_getElem? (i := 1009) (by decide +kernel), List.mem_of_getElem? (i := 1254) (by decide +kernel), List.mem_of_getElem? (i := 1255) (by decide +kernel)⟩
theorem lw_p34 : lw_okq (⟨"BenchTimesModel", "sumOf", "(I)I"⟩, 49) := ⟨⟨by decide +kernel, by decide +kernel⟩, List.mem_of_getElem? (i := 1009) (by decide +kernel), List.mem_of_getElem? (i := 1258) (by decide +kernel), List.mem_of_getElem? (i := 1259) (by decide +kernel)⟩
theorem lw_p35 : lw_okq (⟨"BenchTimesModel", "forceOf", "(II)I"⟩, 49) := ⟨⟨by decide +kernel, by decide +kernel⟩, List.mem_of_getElem? (i := 1009) (by decide +kernel), List.mem_of_getElem? (i := 1277) (by decide +kernel), List.mem_of_getElem? (i := 1278) (by decide +kernel)⟩
theorem lw_p36 : lw_okq (⟨"BenchTimesModel", "readAll", "()I"⟩, 49) := ⟨⟨by decide +kernel, by decide +kernel⟩, List.mem_of_getElem? (i := 1009) (by decide +kernel), List.mem_of_getElem? (i := 1297) (by decide +kernel), List.mem_of_getElem? (i := 1298) (by decide +kernel)⟩
theorem lw_p37 : lw_okq (⟨"BenchTimesModel", "wordHere", "()I"⟩, 49) := ⟨⟨by decide +kernel, by decide +kernel⟩, List.mem_of_getElem? (i := 1009) (by decide +kernel), List.mem_of_getElem? (i := 1301) (by decide +kernel), List.mem_of_getElem? (i := 1302) (by decide +kernel)⟩
theorem lw_p38 : lw_okq (⟨"BenchTimesModel", "here", "()I"⟩, 49) := ⟨⟨by decide +kernel, by decide +kernel⟩, List.mem_of_getElem? (i := 1009) (by decide +kernel), List.mem_of_getElem? (i := 1307) (by decide +kernel), List.mem_of_getElem? (i := 1308) (by decide +kernel)⟩
theorem lw_p39 : lw_okq (⟨"BenchTimesModel", "earnedBy", "(I)I"⟩, 49) := ⟨⟨by decide +kernel, by decide +kernel⟩, List.mem_of_getElem? (i := 1009) (by decide +kernel), List.mem_of_getElem? (i := 1335) (by decide +kernel), List.mem_of_getElem? (i := 1336) (by decide +kernel)⟩
theorem lw_p40 : lw_okq (⟨"BenchTimesModel", "payOf", "(III)I"⟩, 49) := ⟨⟨by decide +kernel, by decide +kernel⟩, List.mem_of_getElem? (i := 1009) (by decide +kernel), List.mem_of_getElem? (i := 1343) (by decide +kernel), List.mem_of_getElem? (i := 1344) (by decide +kernel)⟩
theorem lw_p41 : lw_okq (⟨"BenchTimesModel", "efficiencyOf", "(II)I"⟩, 49) := ⟨⟨by decide +kernel, by decide +kernel⟩, List.mem_of_getElem? (i := 1009) (by decide +kernel), List.mem_of_getElem? (i := 1359) (by decide +kernel), List.mem_of_getElem? (i := 1360) (by decide +kernel)⟩
theorem lw_p42 : lw_okq (⟨"BenchTimesModel", "isLooser", "(II)Z"⟩, 49) := ⟨⟨by decide +kernel, by decide +kernel⟩, List.mem_of_getElem? (i := 1009) (by decide +kernel), List.mem_of_getElem? (i := 1368) (by decide +kernel), List.mem_of_getElem? (i := 1369) (by decide +kernel)⟩
def lw_privs_3 : List (MethodName × Nat) := [(⟨"BenchTimesModel", "latestOf", "(I)I"⟩, 49), (⟨"BenchTimesModel", "make", "(III)I"⟩, 49), (⟨"BenchTimesModel", "sumOf", "(I)I"⟩, 49), (⟨"BenchTimesModel", "forceOf", "(II)I"⟩, 49), (⟨"BenchTimesModel", "readAll", "()I"⟩, 49), (⟨"BenchTimesModel", "wordHere", "()I"⟩, 49), (⟨"BenchTimesModel", "here", "()I"⟩, 49), (⟨"BenchTimesModel", "earnedBy", "(I)I"⟩, 49), (⟨"BenchTimesModel", "payOf", "(III)I"⟩, 49), (⟨"BenchTimesModel", "efficiencyOf", "(II)I"⟩, 49), (⟨"BenchTimesModel", "isLooser", "(II)Z"⟩, 49)]
theorem lw_r3 : ∀ q ∈ lw_privs_3, lw_okq q := List.forall_mem_cons.mpr ⟨lw_p32, List.forall_mem_cons.mpr ⟨lw_p33, List.forall_mem_cons.mpr ⟨lw_p34, List.forall_mem_cons.mpr ⟨lw_p35, List.forall_mem_cons.mpr ⟨lw_p36, List.forall_mem_cons.mpr ⟨lw_p37, List.forall_mem_cons.mpr ⟨lw_p38, List.forall_mem_cons.mpr ⟨lw_p39, List.forall_mem_cons.mpr ⟨lw_p40, List.forall_mem_cons.mpr ⟨lw_p41, List.forall_mem_cons.mpr ⟨lw_p42, fun _ h => absurd h List.not_mem_nil⟩⟩⟩⟩⟩⟩⟩⟩⟩⟩⟩
def lw_privs : List (MethodName × Nat) := lw_privs_1 ++ (lw_privs_2 ++ (lw_privs_3))
def lw_tbl : List Cond := k2_sels lw_privs ++ tables_1
theorem lw_privs_ok : ∀ q ∈ lw_privs, lw_okq q := by
  show ∀ q ∈ lw_privs_1 ++ (lw_privs_2 ++ (lw_privs_3)), lw_okq q
  exact List.forall_mem_append.mpr ⟨lw_r1, List.forall_mem_append.mpr ⟨lw_r2, lw_r3⟩⟩
-- ===== names of the classes and methods =====
def RX0 : String := "BenchTimes$Doubt"
def TX0 : u_T := fun k => match k with
  | 0 => ("BenchTimes$Doubt", "rows", "LBenchTimes$WorkRows;", true)
  | 1 => ("BenchTimes$Doubt", "earned", "[J", true)
  | 2 => ("BenchTimes$Doubt", "minutes", "[I", true)
  | _ => ("BenchTimes$Doubt", "scores", "[I", true)
def tyX0 : Nat → FieldType := fun k => match k with
  | 0 => .object "BenchTimes$WorkRows"
  | 1 => .array .long
  | 2 => .array .int
  | _ => .array .int
abbrev wsX00 : List Cond := u_ws RX0 TX0 4
theorem nmX0 : ∀ a, a < 4 → ∀ b, b < 4 → a ≠ b → (TX0 a).2.1 ≠ (TX0 b).2.1 := by decide +kernel
theorem tyX0_ok : ∀ k, k < 4 → parseFieldDescriptor (TX0 k).2.2.1 = some (tyX0 k) := by decide +kernel
abbrev cX0_init : ByteArray := prog_2_method_1_code
def yX0_init : MethodName := ⟨RX0, "<init>", "(LBenchTimes$WorkRows;)V"⟩
abbrev cX0_survey : ByteArray := prog_2_method_2_code
def yX0_survey : MethodName := ⟨RX0, "survey", "()V"⟩
abbrev cX0_efficiencyOf : ByteArray := prog_2_method_3_code
def yX0_efficiencyOf : MethodName := ⟨RX0, "efficiencyOf", "(II)I"⟩
abbrev cX0_isLooser : ByteArray := prog_2_method_4_code
def yX0_isLooser : MethodName := ⟨RX0, "isLooser", "(II)Z"⟩
abbrev cX0_jobAt : ByteArray := prog_2_method_5_code
def yX0_jobAt : MethodName := ⟨RX0, "jobAt", "(I)I"⟩
abbrev cX0_hasRows : ByteArray := prog_2_method_6_code
def yX0_hasRows : MethodName := ⟨RX0, "hasRows", "(I)Z"⟩
abbrev cX0_reckonScores : ByteArray := prog_2_method_7_code
def yX0_reckonScores : MethodName := ⟨RX0, "reckonScores", "()V"⟩
abbrev cX0_manyAhead : ByteArray := prog_2_method_8_code
def yX0_manyAhead : MethodName := ⟨RX0, "manyAhead", "(I)I"⟩
abbrev cX0_waysToChoose : ByteArray := prog_2_method_9_code
def yX0_waysToChoose : MethodName := ⟨RX0, "waysToChoose", "(II)I"⟩
def RX1 : String := "BenchTimes$Elements"
def TX1 : u_T := fun k => match k with
  | 0 => ("BenchTimes$Elements", "kinds", "[I", true)
  | 1 => ("BenchTimes$Elements", "many", "I", false)
  | 2 => ("BenchTimes$Elements", "base", "I", false)
  | _ => ("BenchTimes$Elements", "more", "I", false)
def tyX1 : Nat → FieldType := fun k => match k with
  | 0 => .array .int
  | 1 => .int
  | 2 => .int
  | _ => .int
abbrev wsX10 : List Cond := u_ws RX1 TX1 4
theorem nmX1 : ∀ a, a < 4 → ∀ b, b < 4 → a ≠ b → (TX1 a).2.1 ≠ (TX1 b).2.1 := by decide +kernel
theorem tyX1_ok : ∀ k, k < 4 → parseFieldDescriptor (TX1 k).2.2.1 = some (tyX1 k) := by decide +kernel
abbrev cX1_init : ByteArray := prog_3_method_1_code
def yX1_init : MethodName := ⟨RX1, "<init>", "()V"⟩
abbrev cX1_isKind : ByteArray := prog_3_method_2_code
def yX1_isKind : MethodName := ⟨RX1, "isKind", "(I)Z"⟩
abbrev cX1_many : ByteArray := prog_3_method_3_code
def yX1_many : MethodName := ⟨RX1, "many", "()I"⟩
abbrev cX1_has : ByteArray := prog_3_method_4_code
def yX1_has : MethodName := ⟨RX1, "has", "(I)Z"⟩
abbrev cX1_isFull : ByteArray := prog_3_method_5_code
def yX1_isFull : MethodName := ⟨RX1, "isFull", "()Z"⟩
abbrev cX1_add : ByteArray := prog_3_method_6_code
def yX1_add : MethodName := ⟨RX1, "add", "(I)I"⟩
abbrev cX1_kindOf : ByteArray := prog_3_method_7_code
def yX1_kindOf : MethodName := ⟨RX1, "kindOf", "(I)I"⟩
abbrev cX1_isUnder : ByteArray := prog_3_method_8_code
def yX1_isUnder : MethodName := ⟨RX1, "isUnder", "(II)Z"⟩
abbrev cX1_setAllowances : ByteArray := prog_3_method_9_code
def yX1_setAllowances : MethodName := ⟨RX1, "setAllowances", "(II)V"⟩
abbrev cX1_allowanceOf : ByteArray := prog_3_method_10_code
def yX1_allowanceOf : MethodName := ⟨RX1, "allowanceOf", "(I)I"⟩
def RX2 : String := "BenchTimes$Jobs"
def TX2 : u_T := fun k => match k with
  | 0 => ("BenchTimes$Jobs", "partsOf", "[I", true)
  | 1 => ("BenchTimes$Jobs", "elementOf", "[I", true)
  | 2 => ("BenchTimes$Jobs", "oftenOf", "[I", true)
  | 3 => ("BenchTimes$Jobs", "marked", "[Z", true)
  | _ => ("BenchTimes$Jobs", "many", "I", false)
def tyX2 : Nat → FieldType := fun k => match k with
  | 0 => .array .int
  | 1 => .array .int
  | 2 => .array .int
  | 3 => .array .boolean
  | _ => .int
abbrev wsX20 : List Cond := u_ws RX2 TX2 5
theorem nmX2 : ∀ a, a < 5 → ∀ b, b < 5 → a ≠ b → (TX2 a).2.1 ≠ (TX2 b).2.1 := by decide +kernel
theorem tyX2_ok : ∀ k, k < 5 → parseFieldDescriptor (TX2 k).2.2.1 = some (tyX2 k) := by decide +kernel
abbrev cX2_init : ByteArray := prog_4_method_1_code
def yX2_init : MethodName := ⟨RX2, "<init>", "()V"⟩
abbrev cX2_many : ByteArray := prog_4_method_2_code
def yX2_many : MethodName := ⟨RX2, "many", "()I"⟩
abbrev cX2_has : ByteArray := prog_4_method_3_code
def yX2_has : MethodName := ⟨RX2, "has", "(I)Z"⟩
abbrev cX2_isFull : ByteArray := prog_4_method_4_code
def yX2_isFull : MethodName := ⟨RX2, "isFull", "()Z"⟩
abbrev cX2_add : ByteArray := prog_4_method_5_code
def yX2_add : MethodName := ⟨RX2, "add", "()I"⟩
abbrev cX2_partMany : ByteArray := prog_4_method_6_code
def yX2_partMany : MethodName := ⟨RX2, "partMany", "(I)I"⟩
abbrev cX2_isFullOfParts : ByteArray := prog_4_method_7_code
def yX2_isFullOfParts : MethodName := ⟨RX2, "isFullOfParts", "(I)Z"⟩
abbrev cX2_addPart : ByteArray := prog_4_method_8_code
def yX2_addPart : MethodName := ⟨RX2, "addPart", "(III)I"⟩
abbrev cX2_placeOf : ByteArray := prog_4_method_9_code
def yX2_placeOf : MethodName := ⟨RX2, "placeOf", "(II)I"⟩
abbrev cX2_elementAt : ByteArray := prog_4_method_10_code
def yX2_elementAt : MethodName := ⟨RX2, "elementAt", "(II)I"⟩
abbrev cX2_oftenAt : ByteArray := prog_4_method_11_code
def yX2_oftenAt : MethodName := ⟨RX2, "oftenAt", "(II)I"⟩
abbrev cX2_isMarked : ByteArray := prog_4_method_12_code
def yX2_isMarked : MethodName := ⟨RX2, "isMarked", "(II)Z"⟩
abbrev cX2_mark : ByteArray := prog_4_method_13_code
def yX2_mark : MethodName := ⟨RX2, "mark", "(II)V"⟩
abbrev cX2_clearMarks : ByteArray := prog_4_method_14_code
def yX2_clearMarks : MethodName := ⟨RX2, "clearMarks", "(I)V"⟩
def RX3 : String := "BenchTimes$Pays"
def TX3 : u_T := fun k => match k with
  | 0 => ("BenchTimes$Pays", "rows", "LBenchTimes$WorkRows;", true)
  | 1 => ("BenchTimes$Pays", "waits", "LBenchTimes$WaitRows;", true)
  | _ => ("BenchTimes$Pays", "rules", "LBenchTimes$Rules;", true)
def tyX3 : Nat → FieldType := fun k => match k with
  | 0 => .object "BenchTimes$WorkRows"
  | 1 => .object "BenchTimes$WaitRows"
  | _ => .object "BenchTimes$Rules"
abbrev wsX30 : List Cond := u_ws RX3 TX3 3
theorem nmX3 : ∀ a, a < 3 → ∀ b, b < 3 → a ≠ b → (TX3 a).2.1 ≠ (TX3 b).2.1 := by decide +kernel
theorem tyX3_ok : ∀ k, k < 3 → parseFieldDescriptor (TX3 k).2.2.1 = some (tyX3 k) := by decide +kernel
abbrev cX3_init : ByteArray := prog_5_method_1_code
def yX3_init : MethodName := ⟨RX3, "<init>", "(LBenchTimes$WorkRows;LBenchTimes$WaitRows;LBenchTimes$Rules;)V"⟩
abbrev cX3_tellOf : ByteArray := prog_5_method_2_code
def yX3_tellOf : MethodName := ⟨RX3, "tellOf", "(III)I"⟩
abbrev cX3_allOf : ByteArray := prog_5_method_3_code
def yX3_allOf : MethodName := ⟨RX3, "allOf", "(II)I"⟩
abbrev cX3_forWaiting : ByteArray := prog_5_method_4_code
def yX3_forWaiting : MethodName := ⟨RX3, "forWaiting", "(II)I"⟩
abbrev cX3_shareOf : ByteArray := prog_5_method_5_code
def yX3_shareOf : MethodName := ⟨RX3, "shareOf", "(III)I"⟩
def RX4 : String := "BenchTimes$Rates"
def TX4 : u_T := fun k => match k with
  | 0 => ("BenchTimes$Rates", "jobs", "LBenchTimes$Jobs;", true)
  | 1 => ("BenchTimes$Rates", "watch", "LBenchTimes$Watch;", true)
  | 2 => ("BenchTimes$Rates", "jobOf", "[I", true)
  | 3 => ("BenchTimes$Rates", "begins", "[I", true)
  | 4 => ("BenchTimes$Rates", "sums", "[I", true)
  | 5 => ("BenchTimes$Rates", "worths", "[I", true)
  | _ => ("BenchTimes$Rates", "many", "I", false)
def tyX4 : Nat → FieldType := fun k => match k with
  | 0 => .object "BenchTimes$Jobs"
  | 1 => .object "BenchTimes$Watch"
  | 2 => .array .int
  | 3 => .array .int
  | 4 => .array .int
  | 5 => .array .int
  | _ => .int
abbrev wsX40 : List Cond := u_ws RX4 TX4 7
theorem nmX4 : ∀ a, a < 7 → ∀ b, b < 7 → a ≠ b → (TX4 a).2.1 ≠ (TX4 b).2.1 := by decide +kernel
theorem tyX4_ok : ∀ k, k < 7 → parseFieldDescriptor (TX4 k).2.2.1 = some (tyX4 k) := by decide +kernel
abbrev cX4_init : ByteArray := prog_6_method_1_code
def yX4_init : MethodName := ⟨RX4, "<init>", "(LBenchTimes$Jobs;LBenchTimes$Watch;)V"⟩
abbrev cX4_many : ByteArray := prog_6_method_2_code
def yX4_many : MethodName := ⟨RX4, "many", "()I"⟩
abbrev cX4_isFull : ByteArray := prog_6_method_3_code
def yX4_isFull : MethodName := ⟨RX4, "isFull", "()Z"⟩
abbrev cX4_beginOf : ByteArray := prog_6_method_4_code
def yX4_beginOf : MethodName := ⟨RX4, "beginOf", "(I)I"⟩
abbrev cX4_sumOf : ByteArray := prog_6_method_5_code
def yX4_sumOf : MethodName := ⟨RX4, "sumOf", "(I)I"⟩
abbrev cX4_worthOf : ByteArray := prog_6_method_6_code
def yX4_worthOf : MethodName := ⟨RX4, "worthOf", "(II)I"⟩
abbrev cX4_latestOf : ByteArray := prog_6_method_7_code
def yX4_latestOf : MethodName := ⟨RX4, "latestOf", "(I)I"⟩
abbrev cX4_inForce : ByteArray := prog_6_method_8_code
def yX4_inForce : MethodName := ⟨RX4, "inForce", "(II)I"⟩
abbrev cX4_mayMove : ByteArray := prog_6_method_9_code
def yX4_mayMove : MethodName := ⟨RX4, "mayMove", "(II)Z"⟩
abbrev cX4_canMake : ByteArray := prog_6_method_10_code
def yX4_canMake : MethodName := ⟨RX4, "canMake", "(I)Z"⟩
abbrev cX4_make : ByteArray := prog_6_method_11_code
def yX4_make : MethodName := ⟨RX4, "make", "(II)I"⟩
def RX5 : String := "BenchTimes$Rules"
def TX5 : u_T := fun k => match k with
  | 0 => ("BenchTimes$Rules", "values", "[I", true)
  | 1 => ("BenchTimes$Rules", "newValues", "[I", true)
  | 2 => ("BenchTimes$Rules", "bytes", "[I", true)
  | 3 => ("BenchTimes$Rules", "length", "I", false)
  | _ => ("BenchTimes$Rules", "place", "I", false)
def tyX5 : Nat → FieldType := fun k => match k with
  | 0 => .array .int
  | 1 => .array .int
  | 2 => .array .int
  | 3 => .int
  | _ => .int
abbrev wsX50 : List Cond := u_ws RX5 TX5 5
theorem nmX5 : ∀ a, a < 5 → ∀ b, b < 5 → a ≠ b → (TX5 a).2.1 ≠ (TX5 b).2.1 := by decide +kernel
theorem tyX5_ok : ∀ k, k < 5 → parseFieldDescriptor (TX5 k).2.2.1 = some (tyX5 k) := by decide +kernel
abbrev cX5_init : ByteArray := prog_7_method_1_code
def yX5_init : MethodName := ⟨RX5, "<init>", "()V"⟩
abbrev cX5_valueOf : ByteArray := prog_7_method_2_code
def yX5_valueOf : MethodName := ⟨RX5, "valueOf", "(I)I"⟩
abbrev cX5_byteMany : ByteArray := prog_7_method_3_code
def yX5_byteMany : MethodName := ⟨RX5, "byteMany", "()I"⟩
abbrev cX5_isFullOfBytes : ByteArray := prog_7_method_4_code
def yX5_isFullOfBytes : MethodName := ⟨RX5, "isFullOfBytes", "()Z"⟩
abbrev cX5_addByte : ByteArray := prog_7_method_5_code
def yX5_addByte : MethodName := ⟨RX5, "addByte", "(I)I"⟩
abbrev cX5_takeTape : ByteArray := prog_7_method_6_code
def yX5_takeTape : MethodName := ⟨RX5, "takeTape", "()I"⟩
abbrev cX5_takeNewValues : ByteArray := prog_7_method_7_code
def yX5_takeNewValues : MethodName := ⟨RX5, "takeNewValues", "()I"⟩
abbrev cX5_readClauses : ByteArray := prog_7_method_8_code
def yX5_readClauses : MethodName := ⟨RX5, "readClauses", "()Z"⟩
abbrev cX5_readClause : ByteArray := prog_7_method_9_code
def yX5_readClause : MethodName := ⟨RX5, "readClause", "()Z"⟩
abbrev cX5_readWord : ByteArray := prog_7_method_10_code
def yX5_readWord : MethodName := ⟨RX5, "readWord", "()I"⟩
abbrev cX5_alikeWith : ByteArray := prog_7_method_11_code
def yX5_alikeWith : MethodName := ⟨RX5, "alikeWith", "(Ljava/lang/String;)I"⟩
abbrev cX5_readSign : ByteArray := prog_7_method_12_code
def yX5_readSign : MethodName := ⟨RX5, "readSign", "(C)Z"⟩
abbrev cX5_readNumber : ByteArray := prog_7_method_13_code
def yX5_readNumber : MethodName := ⟨RX5, "readNumber", "()I"⟩
abbrev cX5_wordOf : ByteArray := prog_7_method_14_code
def yX5_wordOf : MethodName := ⟨RX5, "wordOf", "(I)Ljava/lang/String;"⟩
def RX6 : String := "BenchTimes$Slowness"
def TX6 : u_T := fun k => match k with
  | 0 => ("BenchTimes$Slowness", "rows", "LBenchTimes$WorkRows;", true)
  | 1 => ("BenchTimes$Slowness", "paces", "[I", true)
  | 2 => ("BenchTimes$Slowness", "watched", "[Z", true)
  | 3 => ("BenchTimes$Slowness", "ways", "[[I", true)
  | 4 => ("BenchTimes$Slowness", "many", "I", false)
  | _ => ("BenchTimes$Slowness", "watchedMany", "I", false)
def tyX6 : Nat → FieldType := fun k => match k with
  | 0 => .object "BenchTimes$WorkRows"
  | 1 => .array .int
  | 2 => .array .boolean
  | 3 => .array (.array .int)
  | 4 => .int
  | _ => .int
abbrev wsX60 : List Cond := u_ws RX6 TX6 6
theorem nmX6 : ∀ a, a < 6 → ∀ b, b < 6 → a ≠ b → (TX6 a).2.1 ≠ (TX6 b).2.1 := by decide +kernel
theorem tyX6_ok : ∀ k, k < 6 → parseFieldDescriptor (TX6 k).2.2.1 = some (tyX6 k) := by decide +kernel
abbrev cX6_init : ByteArray := prog_8_method_1_code
def yX6_init : MethodName := ⟨RX6, "<init>", "(LBenchTimes$WorkRows;)V"⟩
abbrev cX6_gather : ByteArray := prog_8_method_2_code
def yX6_gather : MethodName := ⟨RX6, "gather", "(II)V"⟩
abbrev cX6_canTell : ByteArray := prog_8_method_3_code
def yX6_canTell : MethodName := ⟨RX6, "canTell", "()Z"⟩
abbrev cX6_isBeyondDoubt : ByteArray := prog_8_method_4_code
def yX6_isBeyondDoubt : MethodName := ⟨RX6, "isBeyondDoubt", "()Z"⟩
abbrev cX6_watchedRanks : ByteArray := prog_8_method_5_code
def yX6_watchedRanks : MethodName := ⟨RX6, "watchedRanks", "()I"⟩
abbrev cX6_rankOf : ByteArray := prog_8_method_6_code
def yX6_rankOf : MethodName := ⟨RX6, "rankOf", "(I)I"⟩
abbrev cX6_countWays : ByteArray := prog_8_method_7_code
def yX6_countWays : MethodName := ⟨RX6, "countWays", "()V"⟩
abbrev cX6_addRow : ByteArray := prog_8_method_8_code
def yX6_addRow : MethodName := ⟨RX6, "addRow", "(III)V"⟩
def RX7 : String := "BenchTimes$WaitRows"
def TX7 : u_T := fun k => match k with
  | 0 => ("BenchTimes$WaitRows", "weekOf", "[I", true)
  | 1 => ("BenchTimes$WaitRows", "workerOf", "[I", true)
  | 2 => ("BenchTimes$WaitRows", "minutesOf", "[I", true)
  | 3 => ("BenchTimes$WaitRows", "minutesOfCause", "[I", true)
  | _ => ("BenchTimes$WaitRows", "many", "I", false)
def tyX7 : Nat → FieldType := fun k => match k with
  | 0 => .array .int
  | 1 => .array .int
  | 2 => .array .int
  | 3 => .array .int
  | _ => .int
abbrev wsX70 : List Cond := u_ws RX7 TX7 5
theorem nmX7 : ∀ a, a < 5 → ∀ b, b < 5 → a ≠ b → (TX7 a).2.1 ≠ (TX7 b).2.1 := by decide +kernel
theorem tyX7_ok : ∀ k, k < 5 → parseFieldDescriptor (TX7 k).2.2.1 = some (tyX7 k) := by decide +kernel
abbrev cX7_init : ByteArray := prog_9_method_1_code
def yX7_init : MethodName := ⟨RX7, "<init>", "()V"⟩
abbrev cX7_many : ByteArray := prog_9_method_2_code
def yX7_many : MethodName := ⟨RX7, "many", "()I"⟩
abbrev cX7_isFull : ByteArray := prog_9_method_3_code
def yX7_isFull : MethodName := ⟨RX7, "isFull", "()Z"⟩
abbrev cX7_add : ByteArray := prog_9_method_4_code
def yX7_add : MethodName := ⟨RX7, "add", "(IIII)I"⟩
abbrev cX7_minutesFor : ByteArray := prog_9_method_5_code
def yX7_minutesFor : MethodName := ⟨RX7, "minutesFor", "(I)I"⟩
abbrev cX7_minutesIn : ByteArray := prog_9_method_6_code
def yX7_minutesIn : MethodName := ⟨RX7, "minutesIn", "(II)I"⟩
def RX8 : String := "BenchTimes$Watch"
def TX8 : u_T := fun k => match k with
  | 0 => ("BenchTimes$Watch", "elements", "LBenchTimes$Elements;", true)
  | 1 => ("BenchTimes$Watch", "toldMore", "[I", true)
  | 2 => ("BenchTimes$Watch", "filmsOf", "[I", true)
  | 3 => ("BenchTimes$Watch", "films", "I", false)
  | 4 => ("BenchTimes$Watch", "elementOf", "[I", true)
  | 5 => ("BenchTimes$Watch", "raterOf", "[I", true)
  | 6 => ("BenchTimes$Watch", "paceOf", "[I", true)
  | 7 => ("BenchTimes$Watch", "timeOf", "[I", true)
  | 8 => ("BenchTimes$Watch", "cycles", "I", false)
  | 9 => ("BenchTimes$Watch", "normals", "[I", true)
  | 10 => ("BenchTimes$Watch", "timed", "I", false)
  | 11 => ("BenchTimes$Watch", "kept", "I", false)
  | 12 => ("BenchTimes$Watch", "level", "I", false)
  | 13 => ("BenchTimes$Watch", "standard", "I", false)
  | 14 => ("BenchTimes$Watch", "least", "I", false)
  | _ => ("BenchTimes$Watch", "greatest", "I", false)
def tyX8 : Nat → FieldType := fun k => match k with
  | 0 => .object "BenchTimes$Elements"
  | 1 => .array .int
  | 2 => .array .int
  | 3 => .int
  | 4 => .array .int
  | 5 => .array .int
  | 6 => .array .int
  | 7 => .array .int
  | 8 => .int
  | 9 => .array .int
  | 10 => .int
  | 11 => .int
  | 12 => .int
  | 13 => .int
  | 14 => .int
  | _ => .int
abbrev wsX80 : List Cond := u_ws RX8 TX8 16
theorem nmX8 : ∀ a, a < 16 → ∀ b, b < 16 → a ≠ b → (TX8 a).2.1 ≠ (TX8 b).2.1 := by decide +kernel
theorem tyX8_ok : ∀ k, k < 16 → parseFieldDescriptor (TX8 k).2.2.1 = some (tyX8 k) := by decide +kernel
abbrev cX8_init : ByteArray := prog_10_method_1_code
def yX8_init : MethodName := ⟨RX8, "<init>", "(LBenchTimes$Elements;)V"⟩
abbrev cX8_filmMany : ByteArray := prog_10_method_2_code
def yX8_filmMany : MethodName := ⟨RX8, "filmMany", "()I"⟩
abbrev cX8_cycleMany : ByteArray := prog_10_method_3_code
def yX8_cycleMany : MethodName := ⟨RX8, "cycleMany", "()I"⟩
abbrev cX8_isFullOfFilms : ByteArray := prog_10_method_4_code
def yX8_isFullOfFilms : MethodName := ⟨RX8, "isFullOfFilms", "()Z"⟩
abbrev cX8_isFullOfCycles : ByteArray := prog_10_method_5_code
def yX8_isFullOfCycles : MethodName := ⟨RX8, "isFullOfCycles", "()Z"⟩
abbrev cX8_addFilm : ByteArray := prog_10_method_6_code
def yX8_addFilm : MethodName := ⟨RX8, "addFilm", "(II)I"⟩
abbrev cX8_habitOf : ByteArray := prog_10_method_7_code
def yX8_habitOf : MethodName := ⟨RX8, "habitOf", "(I)I"⟩
abbrev cX8_addCycle : ByteArray := prog_10_method_8_code
def yX8_addCycle : MethodName := ⟨RX8, "addCycle", "(IIII)I"⟩
abbrev cX8_normalOf : ByteArray := prog_10_method_9_code
def yX8_normalOf : MethodName := ⟨RX8, "normalOf", "(I)I"⟩
abbrev cX8_isTimed : ByteArray := prog_10_method_10_code
def yX8_isTimed : MethodName := ⟨RX8, "isTimed", "(I)Z"⟩
abbrev cX8_study : ByteArray := prog_10_method_11_code
def yX8_study : MethodName := ⟨RX8, "study", "(I)V"⟩
abbrev cX8_studied : ByteArray := prog_10_method_12_code
def yX8_studied : MethodName := ⟨RX8, "studied", "(I)I"⟩
abbrev cX8_gatherNormals : ByteArray := prog_10_method_13_code
def yX8_gatherNormals : MethodName := ⟨RX8, "gatherNormals", "(I)V"⟩
abbrev cX8_putInOrder : ByteArray := prog_10_method_14_code
def yX8_putInOrder : MethodName := ⟨RX8, "putInOrder", "(I)V"⟩
abbrev cX8_keepNormals : ByteArray := prog_10_method_15_code
def yX8_keepNormals : MethodName := ⟨RX8, "keepNormals", "()V"⟩
def RX9 : String := "BenchTimes$WorkRows"
def TX9 : u_T := fun k => match k with
  | 0 => ("BenchTimes$WorkRows", "rates", "LBenchTimes$Rates;", true)
  | 1 => ("BenchTimes$WorkRows", "rules", "LBenchTimes$Rules;", true)
  | 2 => ("BenchTimes$WorkRows", "weekOf", "[I", true)
  | 3 => ("BenchTimes$WorkRows", "workerOf", "[I", true)
  | 4 => ("BenchTimes$WorkRows", "jobOf", "[I", true)
  | 5 => ("BenchTimes$WorkRows", "good", "[I", true)
  | 6 => ("BenchTimes$WorkRows", "spoilt", "[I", true)
  | 7 => ("BenchTimes$WorkRows", "minutesOf", "[I", true)
  | 8 => ("BenchTimes$WorkRows", "watched", "[Z", true)
  | 9 => ("BenchTimes$WorkRows", "began", "[I", true)
  | _ => ("BenchTimes$WorkRows", "many", "I", false)
def tyX9 : Nat → FieldType := fun k => match k with
  | 0 => .object "BenchTimes$Rates"
  | 1 => .object "BenchTimes$Rules"
  | 2 => .array .int
  | 3 => .array .int
  | 4 => .array .int
  | 5 => .array .int
  | 6 => .array .int
  | 7 => .array .int
  | 8 => .array .boolean
  | 9 => .array .int
  | _ => .int
abbrev wsX90 : List Cond := u_ws RX9 TX9 11
theorem nmX9 : ∀ a, a < 11 → ∀ b, b < 11 → a ≠ b → (TX9 a).2.1 ≠ (TX9 b).2.1 := by decide +kernel
theorem tyX9_ok : ∀ k, k < 11 → parseFieldDescriptor (TX9 k).2.2.1 = some (tyX9 k) := by decide +kernel
abbrev cX9_init : ByteArray := prog_11_method_1_code
def yX9_init : MethodName := ⟨RX9, "<init>", "(LBenchTimes$Rates;LBenchTimes$Rules;)V"⟩
abbrev cX9_many : ByteArray := prog_11_method_2_code
def yX9_many : MethodName := ⟨RX9, "many", "()I"⟩
abbrev cX9_isFull : ByteArray := prog_11_method_3_code
def yX9_isFull : MethodName := ⟨RX9, "isFull", "()Z"⟩
abbrev cX9_add : ByteArray := prog_11_method_4_code
def yX9_add : MethodName := ⟨RX9, "add", "(IIII)I"⟩
abbrev cX9_swapBegin : ByteArray := prog_11_method_5_code
def yX9_swapBegin : MethodName := ⟨RX9, "swapBegin", "(III)I"⟩
abbrev cX9_workerAt : ByteArray := prog_11_method_6_code
def yX9_workerAt : MethodName := ⟨RX9, "workerAt", "(I)I"⟩
abbrev cX9_jobAt : ByteArray := prog_11_method_7_code
def yX9_jobAt : MethodName := ⟨RX9, "jobAt", "(I)I"⟩
abbrev cX9_goodAt : ByteArray := prog_11_method_8_code
def yX9_goodAt : MethodName := ⟨RX9, "goodAt", "(I)I"⟩
abbrev cX9_minutesAt : ByteArray := prog_11_method_9_code
def yX9_minutesAt : MethodName := ⟨RX9, "minutesAt", "(I)I"⟩
abbrev cX9_isWatched : ByteArray := prog_11_method_10_code
def yX9_isWatched : MethodName := ⟨RX9, "isWatched", "(I)Z"⟩
abbrev cX9_earnedBy : ByteArray := prog_11_method_11_code
def yX9_earnedBy : MethodName := ⟨RX9, "earnedBy", "(I)I"⟩
abbrev cX9_earnedIn : ByteArray := prog_11_method_12_code
def yX9_earnedIn : MethodName := ⟨RX9, "earnedIn", "(II)I"⟩
abbrev cX9_minutesIn : ByteArray := prog_11_method_13_code
def yX9_minutesIn : MethodName := ⟨RX9, "minutesIn", "(II)I"⟩
abbrev cX9_learnersMore : ByteArray := prog_11_method_14_code
def yX9_learnersMore : MethodName := ⟨RX9, "learnersMore", "(II)I"⟩
def RX10 : String := "BenchTimes"
def TX10 : u_T := fun k => match k with
  | 0 => ("BenchTimes", "findings", "[I", true)
  | 1 => ("BenchTimes", "elements", "LBenchTimes$Elements;", true)
  | 2 => ("BenchTimes", "watch", "LBenchTimes$Watch;", true)
  | 3 => ("BenchTimes", "jobs", "LBenchTimes$Jobs;", true)
  | 4 => ("BenchTimes", "rates", "LBenchTimes$Rates;", true)
  | 5 => ("BenchTimes", "rules", "LBenchTimes$Rules;", true)
  | 6 => ("BenchTimes", "rows", "LBenchTimes$WorkRows;", true)
  | 7 => ("BenchTimes", "waits", "LBenchTimes$WaitRows;", true)
  | 8 => ("BenchTimes", "pays", "LBenchTimes$Pays;", true)
  | 9 => ("BenchTimes", "doubt", "LBenchTimes$Doubt;", true)
  | 10 => ("BenchTimes", "slowness", "LBenchTimes$Slowness;", true)
  | 11 => ("BenchTimes", "numbers", "[I", true)
  | 12 => ("BenchTimes", "numberMany", "I", false)
  | _ => ("BenchTimes", "now", "I", false)
def tyX10 : Nat → FieldType := fun k => match k with
  | 0 => .array .int
  | 1 => .object "BenchTimes$Elements"
  | 2 => .object "BenchTimes$Watch"
  | 3 => .object "BenchTimes$Jobs"
  | 4 => .object "BenchTimes$Rates"
  | 5 => .object "BenchTimes$Rules"
  | 6 => .object "BenchTimes$WorkRows"
  | 7 => .object "BenchTimes$WaitRows"
  | 8 => .object "BenchTimes$Pays"
  | 9 => .object "BenchTimes$Doubt"
  | 10 => .object "BenchTimes$Slowness"
  | 11 => .array .int
  | 12 => .int
  | _ => .int
abbrev wsX100 : List Cond := u_ws RX10 TX10 14
theorem nmX10 : ∀ a, a < 14 → ∀ b, b < 14 → a ≠ b → (TX10 a).2.1 ≠ (TX10 b).2.1 := by decide +kernel
theorem tyX10_ok : ∀ k, k < 14 → parseFieldDescriptor (TX10 k).2.2.1 = some (tyX10 k) := by decide +kernel
abbrev cX10_init : ByteArray := prog_1_method_1_code
def yX10_init : MethodName := ⟨RX10, "<init>", "()V"⟩
abbrev cX10_element : ByteArray := prog_1_method_2_code
def yX10_element : MethodName := ⟨RX10, "element", "(I)I"⟩
abbrev cX10_as : ByteArray := prog_1_method_3_code
def yX10_as : MethodName := ⟨RX10, "as", "(II)I"⟩
abbrev cX10_allow : ByteArray := prog_1_method_4_code
def yX10_allow : MethodName := ⟨RX10, "allow", "(II)I"⟩
abbrev cX10_film : ByteArray := prog_1_method_5_code
def yX10_film : MethodName := ⟨RX10, "film", "(III)I"⟩
abbrev cX10_habit : ByteArray := prog_1_method_6_code
def yX10_habit : MethodName := ⟨RX10, "habit", "(I)I"⟩
abbrev cX10_cycle : ByteArray := prog_1_method_7_code
def yX10_cycle : MethodName := ⟨RX10, "cycle", "(IIII)I"⟩
abbrev cX10_normal : ByteArray := prog_1_method_8_code
def yX10_normal : MethodName := ⟨RX10, "normal", "(I)I"⟩
abbrev cX10_of : ByteArray := prog_1_method_9_code
def yX10_of : MethodName := ⟨RX10, "of", "(II)I"⟩
abbrev cX10_job : ByteArray := prog_1_method_10_code
def yX10_job : MethodName := ⟨RX10, "job", "()I"⟩
abbrev cX10_part : ByteArray := prog_1_method_11_code
def yX10_part : MethodName := ⟨RX10, "part", "(III)I"⟩
abbrev cX10_set : ByteArray := prog_1_method_12_code
def yX10_set : MethodName := ⟨RX10, "set", "(I)I"⟩
abbrev cX10_change : ByteArray := prog_1_method_13_code
def yX10_change : MethodName := ⟨RX10, "change", "(I)I"⟩
abbrev cX10_move : ByteArray := prog_1_method_14_code
def yX10_move : MethodName := ⟨RX10, "move", "(I)I"⟩
abbrev cX10_rate : ByteArray := prog_1_method_15_code
def yX10_rate : MethodName := ⟨RX10, "rate", "(II)I"⟩
abbrev cX10_worth : ByteArray := prog_1_method_16_code
def yX10_worth : MethodName := ⟨RX10, "worth", "(III)I"⟩
abbrev cX10_week : ByteArray := prog_1_method_17_code
def yX10_week : MethodName := ⟨RX10, "week", "(I)I"⟩
abbrev cX10_feed : ByteArray := prog_1_method_18_code
def yX10_feed : MethodName := ⟨RX10, "feed", "(I)I"⟩
abbrev cX10_read : ByteArray := prog_1_method_19_code
def yX10_read : MethodName := ⟨RX10, "read", "()I"⟩
abbrev cX10_rule : ByteArray := prog_1_method_20_code
def yX10_rule : MethodName := ⟨RX10, "rule", "(I)I"⟩
abbrev cX10_work : ByteArray := prog_1_method_21_code
def yX10_work : MethodName := ⟨RX10, "work", "(IIII)I"⟩
abbrev cX10_wait : ByteArray := prog_1_method_22_code
def yX10_wait : MethodName := ⟨RX10, "wait", "(IIII)I"⟩
abbrev cX10_learner : ByteArray := prog_1_method_23_code
def yX10_learner : MethodName := ⟨RX10, "learner", "(III)I"⟩
abbrev cX10_earned : ByteArray := prog_1_method_24_code
def yX10_earned : MethodName := ⟨RX10, "earned", "(I)I"⟩
abbrev cX10_pay : ByteArray := prog_1_method_25_code
def yX10_pay : MethodName := ⟨RX10, "pay", "(III)I"⟩
abbrev cX10_cause : ByteArray := prog_1_method_26_code
def yX10_cause : MethodName := ⟨RX10, "cause", "(I)I"⟩
abbrev cX10_pool : ByteArray := prog_1_method_27_code
def yX10_pool : MethodName := ⟨RX10, "pool", "(III)I"⟩
abbrev cX10_efficiency : ByteArray := prog_1_method_28_code
def yX10_efficiency : MethodName := ⟨RX10, "efficiency", "(II)I"⟩
abbrev cX10_looser : ByteArray := prog_1_method_29_code
def yX10_looser : MethodName := ⟨RX10, "looser", "(II)I"⟩
abbrev cX10_order : ByteArray := prog_1_method_30_code
def yX10_order : MethodName := ⟨RX10, "order", "(I)I"⟩
abbrev cX10_slow : ByteArray := prog_1_method_31_code
def yX10_slow : MethodName := ⟨RX10, "slow", "(II)I"⟩
abbrev cX10_tell : ByteArray := prog_1_method_32_code
def yX10_tell : MethodName := ⟨RX10, "tell", "(I)I"⟩
abbrev cX10_check : ByteArray := prog_1_method_33_code
def yX10_check : MethodName := ⟨RX10, "check", "(I)I"⟩
abbrev cX10_count : ByteArray := prog_1_method_34_code
def yX10_count : MethodName := ⟨RX10, "count", "(I)I"⟩
abbrev cX10_found : ByteArray := prog_1_method_35_code
def yX10_found : MethodName := ⟨RX10, "found", "(I)I"⟩
abbrev cX10_finding : ByteArray := prog_1_method_36_code
def yX10_finding : MethodName := ⟨RX10, "finding", "(I)I"⟩
abbrev cX10_orNone : ByteArray := prog_1_method_37_code
def yX10_orNone : MethodName := ⟨RX10, "orNone", "(I)I"⟩
abbrev cX10_newRate : ByteArray := prog_1_method_38_code
def yX10_newRate : MethodName := ⟨RX10, "newRate", "(II)I"⟩
abbrev cX10_isOn : ByteArray := prog_1_method_39_code
def yX10_isOn : MethodName := ⟨RX10, "isOn", "(I)Z"⟩
abbrev cX10_isWithin : ByteArray := prog_1_method_40_code
def yX10_isWithin : MethodName := ⟨RX10, "isWithin", "(III)Z"⟩
abbrev cX10_isWeek : ByteArray := prog_1_method_41_code
def yX10_isWeek : MethodName := ⟨RX10, "isWeek", "(I)Z"⟩
abbrev cX10_isRater : ByteArray := prog_1_method_42_code
def yX10_isRater : MethodName := ⟨RX10, "isRater", "(I)Z"⟩
abbrev cX10_isPace : ByteArray := prog_1_method_43_code
def yX10_isPace : MethodName := ⟨RX10, "isPace", "(I)Z"⟩
abbrev cX10_isWorker : ByteArray := prog_1_method_44_code
def yX10_isWorker : MethodName := ⟨RX10, "isWorker", "(I)Z"⟩
abbrev cX10_isCause : ByteArray := prog_1_method_45_code
def yX10_isCause : MethodName := ⟨RX10, "isCause", "(I)Z"⟩
abbrev cX10_isIn : ByteArray := prog_1_method_46_code
def yX10_isIn : MethodName := ⟨RX10, "isIn", "(II)Z"⟩
def RX11 : String := "BenchTimesModel"
def TX11 : u_T := fun k => match k with
  | 0 => ("BenchTimesModel", "elements", "I", false)
  | 1 => ("BenchTimesModel", "kind", "[I", true)
  | 2 => ("BenchTimesModel", "base", "I", false)
  | 3 => ("BenchTimesModel", "more", "I", false)
  | 4 => ("BenchTimesModel", "films", "I", false)
  | 5 => ("BenchTimesModel", "filmOf", "[I", true)
  | 6 => ("BenchTimesModel", "filmOver", "[I", true)
  | 7 => ("BenchTimesModel", "cycles", "I", false)
  | 8 => ("BenchTimesModel", "cycleOf", "[I", true)
  | 9 => ("BenchTimesModel", "cycleBy", "[I", true)
  | 10 => ("BenchTimesModel", "pace", "[I", true)
  | 11 => ("BenchTimesModel", "time", "[I", true)
  | 12 => ("BenchTimesModel", "jobs", "I", false)
  | 13 => ("BenchTimesModel", "parts", "[I", true)
  | 14 => ("BenchTimesModel", "partOf", "[I", true)
  | 15 => ("BenchTimesModel", "often", "[I", true)
  | 16 => ("BenchTimesModel", "isMarked", "[Z", true)
  | 17 => ("BenchTimesModel", "rates", "I", false)
  | 18 => ("BenchTimesModel", "rateOf", "[I", true)
  | 19 => ("BenchTimesModel", "rateFrom", "[I", true)
  | 20 => ("BenchTimesModel", "worthOf", "[I", true)
  | 21 => ("BenchTimesModel", "week", "I", false)
  | 22 => ("BenchTimesModel", "rules", "[I", true)
  | 23 => ("BenchTimesModel", "tape", "[I", true)
  | 24 => ("BenchTimesModel", "taped", "I", false)
  | 25 => ("BenchTimesModel", "rows", "I", false)
  | 26 => ("BenchTimesModel", "rowWeek", "[I", true)
  | 27 => ("BenchTimesModel", "rowWorker", "[I", true)
  | 28 => ("BenchTimesModel", "rowJob", "[I", true)
  | 29 => ("BenchTimesModel", "good", "[I", true)
  | 30 => ("BenchTimesModel", "spoilt", "[I", true)
  | 31 => ("BenchTimesModel", "minutes", "[I", true)
  | 32 => ("BenchTimesModel", "isWatched", "[Z", true)
  | 33 => ("BenchTimesModel", "waits", "I", false)
  | 34 => ("BenchTimesModel", "waitWeek", "[I", true)
  | 35 => ("BenchTimesModel", "waitWorker", "[I", true)
  | 36 => ("BenchTimesModel", "waitCause", "[I", true)
  | 37 => ("BenchTimesModel", "waitMinutes", "[I", true)
  | 38 => ("BenchTimesModel", "began", "[I", true)
  | 39 => ("BenchTimesModel", "numbers", "I", false)
  | 40 => ("BenchTimesModel", "waiting", "[I", true)
  | 41 => ("BenchTimesModel", "found", "[I", true)
  | 42 => ("BenchTimesModel", "inOrder", "[I", true)
  | 43 => ("BenchTimesModel", "told", "[I", true)
  | 44 => ("BenchTimesModel", "at", "I", false)
  | 45 => ("BenchTimesModel", "hasRows", "[Z", true)
  | 46 => ("BenchTimesModel", "score", "[I", true)
  | 47 => ("BenchTimesModel", "paces", "[I", true)
  | _ => ("BenchTimesModel", "ranks", "[I", true)
def tyX11 : Nat → FieldType := fun k => match k with
  | 0 => .int
  | 1 => .array .int
  | 2 => .int
  | 3 => .int
  | 4 => .int
  | 5 => .array .int
  | 6 => .array .int
  | 7 => .int
  | 8 => .array .int
  | 9 => .array .int
  | 10 => .array .int
  | 11 => .array .int
  | 12 => .int
  | 13 => .array .int
  | 14 => .array .int
  | 15 => .array .int
  | 16 => .array .boolean
  | 17 => .int
  | 18 => .array .int
  | 19 => .array .int
  | 20 => .array .int
  | 21 => .int
  | 22 => .array .int
  | 23 => .array .int
  | 24 => .int
  | 25 => .int
  | 26 => .array .int
  | 27 => .array .int
  | 28 => .array .int
  | 29 => .array .int
  | 30 => .array .int
  | 31 => .array .int
  | 32 => .array .boolean
  | 33 => .int
  | 34 => .array .int
  | 35 => .array .int
  | 36 => .array .int
  | 37 => .array .int
  | 38 => .array .int
  | 39 => .int
  | 40 => .array .int
  | 41 => .array .int
  | 42 => .array .int
  | 43 => .array .int
  | 44 => .int
  | 45 => .array .boolean
  | 46 => .array .int
  | 47 => .array .int
  | _ => .array .int
abbrev wsX110 : List Cond := u_ws RX11 TX11 49
theorem nmX11 : ∀ a, a < 49 → ∀ b, b < 49 → a ≠ b → (TX11 a).2.1 ≠ (TX11 b).2.1 := by decide +kernel
theorem tyX11_ok : ∀ k, k < 49 → parseFieldDescriptor (TX11 k).2.2.1 = some (tyX11 k) := by decide +kernel
abbrev cX11_init : ByteArray := prog_13_method_1_code
def yX11_init : MethodName := ⟨RX11, "<init>", "()V"⟩
abbrev cX11_finding : ByteArray := prog_13_method_2_code
def yX11_finding : MethodName := ⟨RX11, "finding", "(I)I"⟩
abbrev cX11_isIn : ByteArray := prog_13_method_3_code
def yX11_isIn : MethodName := ⟨RX11, "isIn", "(III)Z"⟩
abbrev cX11_isElement : ByteArray := prog_13_method_4_code
def yX11_isElement : MethodName := ⟨RX11, "isElement", "(I)Z"⟩
abbrev cX11_isJob : ByteArray := prog_13_method_5_code
def yX11_isJob : MethodName := ⟨RX11, "isJob", "(I)Z"⟩
abbrev cX11_isWorker : ByteArray := prog_13_method_6_code
def yX11_isWorker : MethodName := ⟨RX11, "isWorker", "(I)Z"⟩
abbrev cX11_isWeek : ByteArray := prog_13_method_7_code
def yX11_isWeek : MethodName := ⟨RX11, "isWeek", "(I)Z"⟩
abbrev cX11_isPace : ByteArray := prog_13_method_8_code
def yX11_isPace : MethodName := ⟨RX11, "isPace", "(I)Z"⟩
abbrev cX11_element : ByteArray := prog_13_method_9_code
def yX11_element : MethodName := ⟨RX11, "element", "(I)I"⟩
abbrev cX11_allowanceOf : ByteArray := prog_13_method_10_code
def yX11_allowanceOf : MethodName := ⟨RX11, "allowanceOf", "(I)I"⟩
abbrev cX11_as : ByteArray := prog_13_method_11_code
def yX11_as : MethodName := ⟨RX11, "as", "(II)I"⟩
abbrev cX11_allow : ByteArray := prog_13_method_12_code
def yX11_allow : MethodName := ⟨RX11, "allow", "(II)I"⟩
abbrev cX11_film : ByteArray := prog_13_method_13_code
def yX11_film : MethodName := ⟨RX11, "film", "(III)I"⟩
abbrev cX11_habitOf : ByteArray := prog_13_method_14_code
def yX11_habitOf : MethodName := ⟨RX11, "habitOf", "(I)I"⟩
abbrev cX11_habit : ByteArray := prog_13_method_15_code
def yX11_habit : MethodName := ⟨RX11, "habit", "(I)I"⟩
abbrev cX11_cycle : ByteArray := prog_13_method_16_code
def yX11_cycle : MethodName := ⟨RX11, "cycle", "(IIII)I"⟩
abbrev cX11_normalOf : ByteArray := prog_13_method_17_code
def yX11_normalOf : MethodName := ⟨RX11, "normalOf", "(I)I"⟩
abbrev cX11_normal : ByteArray := prog_13_method_18_code
def yX11_normal : MethodName := ⟨RX11, "normal", "(I)I"⟩
abbrev cX11_cyclesOf : ByteArray := prog_13_method_19_code
def yX11_cyclesOf : MethodName := ⟨RX11, "cyclesOf", "(I)I"⟩
abbrev cX11_keptOf : ByteArray := prog_13_method_20_code
def yX11_keptOf : MethodName := ⟨RX11, "keptOf", "(II)I"⟩
abbrev cX11_standardOf : ByteArray := prog_13_method_21_code
def yX11_standardOf : MethodName := ⟨RX11, "standardOf", "(I)I"⟩
abbrev cX11_of : ByteArray := prog_13_method_22_code
def yX11_of : MethodName := ⟨RX11, "of", "(II)I"⟩
abbrev cX11_job : ByteArray := prog_13_method_23_code
def yX11_job : MethodName := ⟨RX11, "job", "()I"⟩
abbrev cX11_latestOf : ByteArray := prog_13_method_24_code
def yX11_latestOf : MethodName := ⟨RX11, "latestOf", "(I)I"⟩
abbrev cX11_part : ByteArray := prog_13_method_25_code
def yX11_part : MethodName := ⟨RX11, "part", "(III)I"⟩
abbrev cX11_sumOf : ByteArray := prog_13_method_26_code
def yX11_sumOf : MethodName := ⟨RX11, "sumOf", "(I)I"⟩
abbrev cX11_make : ByteArray := prog_13_method_27_code
def yX11_make : MethodName := ⟨RX11, "make", "(III)I"⟩
abbrev cX11_set : ByteArray := prog_13_method_28_code
def yX11_set : MethodName := ⟨RX11, "set", "(I)I"⟩
abbrev cX11_change : ByteArray := prog_13_method_29_code
def yX11_change : MethodName := ⟨RX11, "change", "(I)I"⟩
abbrev cX11_move : ByteArray := prog_13_method_30_code
def yX11_move : MethodName := ⟨RX11, "move", "(I)I"⟩
abbrev cX11_forceOf : ByteArray := prog_13_method_31_code
def yX11_forceOf : MethodName := ⟨RX11, "forceOf", "(II)I"⟩
abbrev cX11_rate : ByteArray := prog_13_method_32_code
def yX11_rate : MethodName := ⟨RX11, "rate", "(II)I"⟩
abbrev cX11_worth : ByteArray := prog_13_method_33_code
def yX11_worth : MethodName := ⟨RX11, "worth", "(III)I"⟩
abbrev cX11_week : ByteArray := prog_13_method_34_code
def yX11_week : MethodName := ⟨RX11, "week", "(I)I"⟩
abbrev cX11_feed : ByteArray := prog_13_method_35_code
def yX11_feed : MethodName := ⟨RX11, "feed", "(I)I"⟩
abbrev cX11_here : ByteArray := prog_13_method_36_code
def yX11_here : MethodName := ⟨RX11, "here", "()I"⟩
abbrev cX11_wordHere : ByteArray := prog_13_method_37_code
def yX11_wordHere : MethodName := ⟨RX11, "wordHere", "()I"⟩
abbrev cX11_readAll : ByteArray := prog_13_method_38_code
def yX11_readAll : MethodName := ⟨RX11, "readAll", "()I"⟩
abbrev cX11_read : ByteArray := prog_13_method_39_code
def yX11_read : MethodName := ⟨RX11, "read", "()I"⟩
abbrev cX11_rule : ByteArray := prog_13_method_40_code
def yX11_rule : MethodName := ⟨RX11, "rule", "(I)I"⟩
abbrev cX11_work : ByteArray := prog_13_method_41_code
def yX11_work : MethodName := ⟨RX11, "work", "(IIII)I"⟩
abbrev cX11_wait : ByteArray := prog_13_method_42_code
def yX11_wait : MethodName := ⟨RX11, "wait", "(IIII)I"⟩
abbrev cX11_learner : ByteArray := prog_13_method_43_code
def yX11_learner : MethodName := ⟨RX11, "learner", "(III)I"⟩
abbrev cX11_earnedBy : ByteArray := prog_13_method_44_code
def yX11_earnedBy : MethodName := ⟨RX11, "earnedBy", "(I)I"⟩
abbrev cX11_earned : ByteArray := prog_13_method_45_code
def yX11_earned : MethodName := ⟨RX11, "earned", "(I)I"⟩
abbrev cX11_payOf : ByteArray := prog_13_method_46_code
def yX11_payOf : MethodName := ⟨RX11, "payOf", "(III)I"⟩
abbrev cX11_pay : ByteArray := prog_13_method_47_code
def yX11_pay : MethodName := ⟨RX11, "pay", "(III)I"⟩
abbrev cX11_cause : ByteArray := prog_13_method_48_code
def yX11_cause : MethodName := ⟨RX11, "cause", "(I)I"⟩
abbrev cX11_pool : ByteArray := prog_13_method_49_code
def yX11_pool : MethodName := ⟨RX11, "pool", "(III)I"⟩
abbrev cX11_efficiencyOf : ByteArray := prog_13_method_50_code
def yX11_efficiencyOf : MethodName := ⟨RX11, "efficiencyOf", "(II)I"⟩
abbrev cX11_efficiency : ByteArray := prog_13_method_51_code
def yX11_efficiency : MethodName := ⟨RX11, "efficiency", "(II)I"⟩
abbrev cX11_ones : ByteArray := prog_13_method_52_code
def yX11_ones : MethodName := ⟨RX11, "ones", "(I)I"⟩
abbrev cX11_isLooser : ByteArray := prog_13_method_53_code
def yX11_isLooser : MethodName := ⟨RX11, "isLooser", "(II)Z"⟩
abbrev cX11_looser : ByteArray := prog_13_method_54_code
def yX11_looser : MethodName := ⟨RX11, "looser", "(II)I"⟩
abbrev cX11_order : ByteArray := prog_13_method_55_code
def yX11_order : MethodName := ⟨RX11, "order", "(I)I"⟩
abbrev cX11_slow : ByteArray := prog_13_method_56_code
def yX11_slow : MethodName := ⟨RX11, "slow", "(II)I"⟩
abbrev cX11_tell : ByteArray := prog_13_method_57_code
def yX11_tell : MethodName := ⟨RX11, "tell", "(I)I"⟩
abbrev cX11_check : ByteArray := prog_13_method_58_code
def yX11_check : MethodName := ⟨RX11, "check", "(I)I"⟩
abbrev cX11_count : ByteArray := prog_13_method_59_code
def yX11_count : MethodName := ⟨RX11, "count", "(I)I"⟩
abbrev cX11_found : ByteArray := prog_13_method_60_code
def yX11_found : MethodName := ⟨RX11, "found", "(I)I"⟩
def RJ9 : String := "java/lang/Math"
def TJ9 : u_T := fun k => match k with
  | _ => ("", "", "", false)
def tyJ9 : Nat → FieldType := fun k => match k with
  | _ => .int
abbrev wsJ90 : List Cond := u_ws RJ9 TJ9 0
theorem nmJ9 : ∀ a, a < 0 → ∀ b, b < 0 → a ≠ b → (TJ9 a).2.1 ≠ (TJ9 b).2.1 := by decide +kernel
theorem tyJ9_ok : ∀ k, k < 0 → parseFieldDescriptor (TJ9 k).2.2.1 = some (tyJ9 k) := by decide +kernel
abbrev cJ9_abs_0f7a4 : ByteArray := prog_14_method_59_code
def yJ9_abs_0f7a4 : MethodName := ⟨RJ9, "abs", "(I)I"⟩
abbrev cJ9_max_7cf53 : ByteArray := prog_14_method_65_code
def yJ9_max_7cf53 : MethodName := ⟨RJ9, "max", "(II)I"⟩
abbrev cJ9_min_7cf53 : ByteArray := prog_14_method_69_code
def yJ9_min_7cf53 : MethodName := ⟨RJ9, "min", "(II)I"⟩
def RJ0 : String := "java/lang/String"
def TJ0 : u_T := fun k => match k with
  | _ => ("", "", "", false)
def tyJ0 : Nat → FieldType := fun k => match k with
  | _ => .int
abbrev wsJ00 : List Cond := u_ws RJ0 TJ0 0
theorem nmJ0 : ∀ a, a < 0 → ∀ b, b < 0 → a ≠ b → (TJ0 a).2.1 ≠ (TJ0 b).2.1 := by decide +kernel
theorem tyJ0_ok : ∀ k, k < 0 → parseFieldDescriptor (TJ0 k).2.2.1 = some (tyJ0 k) := by decide +kernel
abbrev cJ0_length_8abf5 : ByteArray := prog_15_method_54_code
def yJ0_length_8abf5 : MethodName := ⟨RJ0, "length", "()I"⟩
abbrev cJ0_charAt_5068e : ByteArray := prog_15_method_56_code
def yJ0_charAt_5068e : MethodName := ⟨RJ0, "charAt", "(I)C"⟩
abbrev cJ0_coder_7d493 : ByteArray := prog_15_method_152_code
def yJ0_coder_7d493 : MethodName := ⟨RJ0, "coder", "()B"⟩
abbrev cJ0_isLatin1_aae02 : ByteArray := prog_15_method_154_code
def yJ0_isLatin1_aae02 : MethodName := ⟨RJ0, "isLatin1", "()Z"⟩
abbrev cJ0_checkIndex_df160 : ByteArray := prog_15_method_155_code
def yJ0_checkIndex_df160 : MethodName := ⟨RJ0, "checkIndex", "(II)V"⟩
def RJ1 : String := "java/lang/StringLatin1"
def TJ1 : u_T := fun k => match k with
  | _ => ("", "", "", false)
def tyJ1 : Nat → FieldType := fun k => match k with
  | _ => .int
abbrev wsJ10 : List Cond := u_ws RJ1 TJ1 0
theorem nmJ1 : ∀ a, a < 0 → ∀ b, b < 0 → a ≠ b → (TJ1 a).2.1 ≠ (TJ1 b).2.1 := by decide +kernel
theorem tyJ1_ok : ∀ k, k < 0 → parseFieldDescriptor (TJ1 k).2.2.1 = some (tyJ1 k) := by decide +kernel
abbrev cJ1_charAt_3b067 : ByteArray := prog_16_method_2_code
def yJ1_charAt_3b067 : MethodName := ⟨RJ1, "charAt", "([BI)C"⟩
def RJ2 : String := "java/lang/StringUTF16"
def TJ2 : u_T := fun k => match k with
  | _ => ("", "", "", false)
def tyJ2 : Nat → FieldType := fun k => match k with
  | _ => .int
abbrev wsJ20 : List Cond := u_ws RJ2 TJ2 0
theorem nmJ2 : ∀ a, a < 0 → ∀ b, b < 0 → a ≠ b → (TJ2 a).2.1 ≠ (TJ2 b).2.1 := by decide +kernel
theorem tyJ2_ok : ∀ k, k < 0 → parseFieldDescriptor (TJ2 k).2.2.1 = some (tyJ2 k) := by decide +kernel
abbrev cJ2_getChar_3b067 : ByteArray := prog_17_method_5_code
def yJ2_getChar_3b067 : MethodName := ⟨RJ2, "getChar", "([BI)C"⟩
abbrev cJ2_length_9d52b : ByteArray := prog_17_method_6_code
def yJ2_length_9d52b : MethodName := ⟨RJ2, "length", "([B)I"⟩
abbrev cJ2_charAt_3b067 : ByteArray := prog_17_method_83_code
def yJ2_charAt_3b067 : MethodName := ⟨RJ2, "charAt", "([BI)C"⟩
abbrev cJ2_checkIndex_2214a : ByteArray := prog_17_method_91_code
def yJ2_checkIndex_2214a : MethodName := ⟨RJ2, "checkIndex", "(I[B)V"⟩
def RJ7 : String := "java/util/Arrays"
def TJ7 : u_T := fun k => match k with
  | _ => ("", "", "", false)
def tyJ7 : Nat → FieldType := fun k => match k with
  | _ => .int
abbrev wsJ70 : List Cond := u_ws RJ7 TJ7 0
theorem nmJ7 : ∀ a, a < 0 → ∀ b, b < 0 → a ≠ b → (TJ7 a).2.1 ≠ (TJ7 b).2.1 := by decide +kernel
theorem tyJ7_ok : ∀ k, k < 0 → parseFieldDescriptor (TJ7 k).2.2.1 = some (tyJ7 k) := by decide +kernel
abbrev cJ7_fill_d0a16 : ByteArray := prog_18_method_101_code
def yJ7_fill_d0a16 : MethodName := ⟨RJ7, "fill", "([JJ)V"⟩
abbrev cJ7_fill_53178 : ByteArray := prog_18_method_103_code
def yJ7_fill_53178 : MethodName := ⟨RJ7, "fill", "([II)V"⟩
def RJ3 : String := "jdk/internal/util/Preconditions"
def TJ3 : u_T := fun k => match k with
  | _ => ("", "", "", false)
def tyJ3 : Nat → FieldType := fun k => match k with
  | _ => .int
abbrev wsJ30 : List Cond := u_ws RJ3 TJ3 0
theorem nmJ3 : ∀ a, a < 0 → ∀ b, b < 0 → a ≠ b → (TJ3 a).2.1 ≠ (TJ3 b).2.1 := by decide +kernel
theorem tyJ3_ok : ∀ k, k < 0 → parseFieldDescriptor (TJ3 k).2.2.1 = some (tyJ3 k) := by decide +kernel
abbrev cJ3_checkIndex_8e157 : ByteArray := prog_19_method_11_code
def yJ3_checkIndex_8e157 : MethodName := ⟨RJ3, "checkIndex", "(IILjava/util/function/BiFunction;)I"⟩
def RL : String := "BenchTimesLaw"
abbrev cL_law : ByteArray := code
def yL_law : MethodName := ⟨RL, "law", "([I)Z"⟩
end
section
/-! THE WORLD: every cell of the object and of the reference, and a memory of ints over it -/
abbrev Mem : Type := (Nat → Nat → Int32) × (Nat → Int64)
/-- addresses of the cells; the classes' numbers and slots; the array classes; addresses of the static tables; of the texts -/
abbrev Cx : Type := (Nat → Nat) × va_G × (Nat → ClassId) × (Nat → Nat) × (Nat → Nat) × (Nat → Nat)
def up2 (M : Mem) (q j : Nat) (x : Int32) : Mem := (fun k => if k = q then upd (M.1 q) j x else M.1 k, M.2)
def upL (M : Mem) (j : Nat) (x : Int64) : Mem := (M.1, vp_updL M.2 j x)
abbrev cls : List vw_C := [(RX0, TX0, 4), (RX1, TX1, 4), (RX2, TX2, 5), (RX3, TX3, 3), (RX4, TX4, 7), (RX5, TX5, 5), (RX6, TX6, 6), (RX7, TX7, 5), (RX8, TX8, 16), (RX9, TX9, 11), (RX10, TX10, 14), (RX11, TX11, 49)]
abbrev fs0 (g : Cx) (M : Mem) : List Value := [.ref (g.1 12), .ref (g.1 1), .ref (g.1 2), .ref (g.1 3), .ref (g.1 4), .ref (g.1 5), .ref (g.1 6), .ref (g.1 7), .ref (g.1 8), .ref (g.1 9), .ref (g.1 10), .ref (g.1 13), .int (M.1 0 12), .int (M.1 0 13)]
abbrev fs1 (g : Cx) (M : Mem) : List Value := [.ref (g.1 14), .int (M.1 1 1), .int (M.1 1 2), .int (M.1 1 3)]
abbrev fs2 (g : Cx) (M : Mem) : List Value := [.ref (g.1 1), .ref (g.1 15), .ref (g.1 16), .int (M.1 2 3), .ref (g.1 17), .ref (g.1 18), .ref (g.1 19), .ref (g.1 20), .int (M.1 2 8), .ref (g.1 21), .int (M.1 2 10), .int (M.1 2 11), .int (M.1 2 12), .int (M.1 2 13), .int (M.1 2 14), .int (M.1 2 15)]
abbrev fs3 (g : Cx) (M : Mem) : List Value := [.ref (g.1 22), .ref (g.1 23), .ref (g.1 24), .ref (g.1 25), .int (M.1 3 4)]
abbrev fs4 (g : Cx) (M : Mem) : List Value := [.ref (g.1 3), .ref (g.1 2), .ref (g.1 26), .ref (g.1 27), .ref (g.1 28), .ref (g.1 29), .int (M.1 4 6)]
abbrev fs5 (g : Cx) (M : Mem) : List Value := [.ref (g.1 30), .ref (g.1 31), .ref (g.1 32), .int (M.1 5 3), .int (M.1 5 4)]
abbrev fs6 (g : Cx) (M : Mem) : List Value := [.ref (g.1 4), .ref (g.1 5), .ref (g.1 33), .ref (g.1 34), .ref (g.1 35), .ref (g.1 36), .ref (g.1 37), .ref (g.1 38), .ref (g.1 39), .ref (g.1 40), .int (M.1 6 10)]
abbrev fs7 (g : Cx) (M : Mem) : List Value := [.ref (g.1 41), .ref (g.1 42), .ref (g.1 43), .ref (g.1 44), .int (M.1 7 4)]
abbrev fs8 (g : Cx) (M : Mem) : List Value := [.ref (g.1 6), .ref (g.1 7), .ref (g.1 5)]
abbrev fs9 (g : Cx) (M : Mem) : List Value := [.ref (g.1 6), .ref (g.1 45), .ref (g.1 46), .ref (g.1 47)]
abbrev fs10 (g : Cx) (M : Mem) : List Value := [.ref (g.1 6), .ref (g.1 48), .ref (g.1 49), .ref (g.1 50), .int (M.1 10 4), .int (M.1 10 5)]
abbrev fs11 (g : Cx) (M : Mem) : List Value := [.int (M.1 11 0), .ref (g.1 66), .int (M.1 11 2), .int (M.1 11 3), .int (M.1 11 4), .ref (g.1 67), .ref (g.1 68), .int (M.1 11 7), .ref (g.1 69), .ref (g.1 70), .ref (g.1 71), .ref (g.1 72), .int (M.1 11 12), .ref (g.1 73), .ref (g.1 74), .ref (g.1 75), .ref (g.1 76), .int (M.1 11 17), .ref (g.1 77), .ref (g.1 78), .ref (g.1 79), .int (M.1 11 21), .ref (g.1 80), .ref (g.1 81), .int (M.1 11 24), .int (M.1 11 25), .ref (g.1 82), .ref (g.1 83), .ref (g.1 84), .ref (g.1 85), .ref (g.1 86), .ref (g.1 87), .ref (g.1 88), .int (M.1 11 33), .ref (g.1 89), .ref (g.1 90), .ref (g.1 91), .ref (g.1 92), .ref (g.1 93), .int (M.1 11 39), .ref (g.1 94), .ref (g.1 95), .ref (g.1 96), .ref (g.1 97), .int (M.1 11 44), .ref (g.1 98), .ref (g.1 99), .ref (g.1 100), .ref (g.1 101)]
def wl (g : Cx) (M : Mem) : va_W := [(g.1 0, .inr (10, [.ref (g.1 12), .ref (g.1 1), .ref (g.1 2), .ref (g.1 3), .ref (g.1 4), .ref (g.1 5), .ref (g.1 6), .ref (g.1 7), .ref (g.1 8), .ref (g.1 9), .ref (g.1 10), .ref (g.1 13), .int (M.1 0 12), .int (M.1 0 13)])),
  (g.1 1, .inr (1, [.ref (g.1 14), .int (M.1 1 1), .int (M.1 1 2), .int (M.1 1 3)])),
  (g.1 2, .inr (8, [.ref (g.1 1), .ref (g.1 15), .ref (g.1 16), .int (M.1 2 3), .ref (g.1 17), .ref (g.1 18), .ref (g.1 19), .ref (g.1 20), .int (M.1 2 8), .ref (g.1 21), .int (M.1 2 10), .int (M.1 2 11), .int (M.1 2 12), .int (M.1 2 13), .int (M.1 2 14), .int (M.1 2 15)])),
  (g.1 3, .inr (2, [.ref (g.1 22), .ref (g.1 23), .ref (g.1 24), .ref (g.1 25), .int (M.1 3 4)])),
  (g.1 4, .inr (4, [.ref (g.1 3), .ref (g.1 2), .ref (g.1 26), .ref (g.1 27), .ref (g.1 28), .ref (g.1 29), .int (M.1 4 6)])),
  (g.1 5, .inr (5, [.ref (g.1 30), .ref (g.1 31), .ref (g.1 32), .int (M.1 5 3), .int (M.1 5 4)])),
  (g.1 6, .inr (9, [.ref (g.1 4), .ref (g.1 5), .ref (g.1 33), .ref (g.1 34), .ref (g.1 35), .ref (g.1 36), .ref (g.1 37), .ref (g.1 38), .ref (g.1 39), .ref (g.1 40), .int (M.1 6 10)])),
  (g.1 7, .inr (7, [.ref (g.1 41), .ref (g.1 42), .ref (g.1 43), .ref (g.1 44), .int (M.1 7 4)])),
  (g.1 8, .inr (3, [.ref (g.1 6), .ref (g.1 7), .ref (g.1 5)])),
  (g.1 9, .inr (0, [.ref (g.1 6), .ref (g.1 45), .ref (g.1 46), .ref (g.1 47)])),
  (g.1 10, .inr (6, [.ref (g.1 6), .ref (g.1 48), .ref (g.1 49), .ref (g.1 50), .int (M.1 10 4), .int (M.1 10 5)])),
  (g.1 11, .inr (11, [.int (M.1 11 0), .ref (g.1 66), .int (M.1 11 2), .int (M.1 11 3), .int (M.1 11 4), .ref (g.1 67), .ref (g.1 68), .int (M.1 11 7), .ref (g.1 69), .ref (g.1 70), .ref (g.1 71), .ref (g.1 72), .int (M.1 11 12), .ref (g.1 73), .ref (g.1 74), .ref (g.1 75), .ref (g.1 76), .int (M.1 11 17), .ref (g.1 77), .ref (g.1 78), .ref (g.1 79), .int (M.1 11 21), .ref (g.1 80), .ref (g.1 81), .int (M.1 11 24), .int (M.1 11 25), .ref (g.1 82), .ref (g.1 83), .ref (g.1 84), .ref (g.1 85), .ref (g.1 86), .ref (g.1 87), .ref (g.1 88), .int (M.1 11 33), .ref (g.1 89), .ref (g.1 90), .ref (g.1 91), .ref (g.1 92), .ref (g.1 93), .int (M.1 11 39), .ref (g.1 94), .ref (g.1 95), .ref (g.1 96), .ref (g.1 97), .int (M.1 11 44), .ref (g.1 98), .ref (g.1 99), .ref (g.1 100), .ref (g.1 101)])),
  (g.1 12, .inl (g.2.2.1 0, 6, .inl (M.1 12))),
  (g.1 13, .inl (g.2.2.1 0, 8, .inl (M.1 13))),
  (g.1 14, .inl (g.2.2.1 0, 12, .inl (M.1 14))),
  (g.1 15, .inl (g.2.2.1 0, 4, .inl (M.1 15))),
  (g.1 16, .inl (g.2.2.1 0, 4, .inl (M.1 16))),
  (g.1 17, .inl (g.2.2.1 0, 60, .inl (M.1 17))),
  (g.1 18, .inl (g.2.2.1 0, 60, .inl (M.1 18))),
  (g.1 19, .inl (g.2.2.1 0, 60, .inl (M.1 19))),
  (g.1 20, .inl (g.2.2.1 0, 60, .inl (M.1 20))),
  (g.1 21, .inl (g.2.2.1 0, 60, .inl (M.1 21))),
  (g.1 22, .inl (g.2.2.1 0, 8, .inl (M.1 22))),
  (g.1 23, .inl (g.2.2.1 0, 48, .inl (M.1 23))),
  (g.1 24, .inl (g.2.2.1 0, 48, .inl (M.1 24))),
  (g.1 25, .inl (g.2.2.1 1, 48, .inl (M.1 25))),
  (g.1 26, .inl (g.2.2.1 0, 40, .inl (M.1 26))),
  (g.1 27, .inl (g.2.2.1 0, 40, .inl (M.1 27))),
  (g.1 28, .inl (g.2.2.1 0, 40, .inl (M.1 28))),
  (g.1 29, .inl (g.2.2.1 0, 240, .inl (M.1 29))),
  (g.1 30, .inl (g.2.2.1 0, 5, .inl (M.1 30))),
  (g.1 31, .inl (g.2.2.1 0, 5, .inl (M.1 31))),
  (g.1 32, .inl (g.2.2.1 0, 60, .inl (M.1 32))),
  (g.1 33, .inl (g.2.2.1 0, 100, .inl (M.1 33))),
  (g.1 34, .inl (g.2.2.1 0, 100, .inl (M.1 34))),
  (g.1 35, .inl (g.2.2.1 0, 100, .inl (M.1 35))),
  (g.1 36, .inl (g.2.2.1 0, 100, .inl (M.1 36))),
  (g.1 37, .inl (g.2.2.1 0, 100, .inl (M.1 37))),
  (g.1 38, .inl (g.2.2.1 0, 100, .inl (M.1 38))),
  (g.1 39, .inl (g.2.2.1 1, 100, .inl (M.1 39))),
  (g.1 40, .inl (g.2.2.1 0, 64, .inl (M.1 40))),
  (g.1 41, .inl (g.2.2.1 0, 60, .inl (M.1 41))),
  (g.1 42, .inl (g.2.2.1 0, 60, .inl (M.1 42))),
  (g.1 43, .inl (g.2.2.1 0, 60, .inl (M.1 43))),
  (g.1 44, .inl (g.2.2.1 0, 4, .inl (M.1 44))),
  (g.1 45, .inl (g.2.2.1 2, 64, .inr (.inl M.2))),
  (g.1 46, .inl (g.2.2.1 0, 64, .inl (M.1 46))),
  (g.1 47, .inl (g.2.2.1 0, 8, .inl (M.1 47))),
  (g.1 48, .inl (g.2.2.1 0, 14, .inl (M.1 48))),
  (g.1 49, .inl (g.2.2.1 1, 14, .inl (M.1 49))),
  (g.1 50, .inl (g.2.2.1 3, 15, .inr (.inr (.inr (.inr (fun i => if i < 15 then some (g.1 (51 + i)) else none)))))),
  (g.1 51, .inl (g.2.2.1 0, 183, .inl (M.1 51))),
  (g.1 52, .inl (g.2.2.1 0, 183, .inl (M.1 52))),
  (g.1 53, .inl (g.2.2.1 0, 183, .inl (M.1 53))),
  (g.1 54, .inl (g.2.2.1 0, 183, .inl (M.1 54))),
  (g.1 55, .inl (g.2.2.1 0, 183, .inl (M.1 55))),
  (g.1 56, .inl (g.2.2.1 0, 183, .inl (M.1 56))),
  (g.1 57, .inl (g.2.2.1 0, 183, .inl (M.1 57))),
  (g.1 58, .inl (g.2.2.1 0, 183, .inl (M.1 58))),
  (g.1 59, .inl (g.2.2.1 0, 183, .inl (M.1 59))),
  (g.1 60, .inl (g.2.2.1 0, 183, .inl (M.1 60))),
  (g.1 61, .inl (g.2.2.1 0, 183, .inl (M.1 61))),
  (g.1 62, .inl (g.2.2.1 0, 183, .inl (M.1 62))),
  (g.1 63, .inl (g.2.2.1 0, 183, .inl (M.1 63))),
  (g.1 64, .inl (g.2.2.1 0, 183, .inl (M.1 64))),
  (g.1 65, .inl (g.2.2.1 0, 183, .inl (M.1 65))),
  (g.1 66, .inl (g.2.2.1 0, 12, .inl (M.1 66))),
  (g.1 67, .inl (g.2.2.1 0, 20, .inl (M.1 67))),
  (g.1 68, .inl (g.2.2.1 0, 20, .inl (M.1 68))),
  (g.1 69, .inl (g.2.2.1 0, 60, .inl (M.1 69))),
  (g.1 70, .inl (g.2.2.1 0, 60, .inl (M.1 70))),
  (g.1 71, .inl (g.2.2.1 0, 60, .inl (M.1 71))),
  (g.1 72, .inl (g.2.2.1 0, 60, .inl (M.1 72))),
  (g.1 73, .inl (g.2.2.1 0, 8, .inl (M.1 73))),
  (g.1 74, .inl (g.2.2.1 0, 48, .inl (M.1 74))),
  (g.1 75, .inl (g.2.2.1 0, 48, .inl (M.1 75))),
  (g.1 76, .inl (g.2.2.1 1, 48, .inl (M.1 76))),
  (g.1 77, .inl (g.2.2.1 0, 40, .inl (M.1 77))),
  (g.1 78, .inl (g.2.2.1 0, 40, .inl (M.1 78))),
  (g.1 79, .inl (g.2.2.1 0, 240, .inl (M.1 79))),
  (g.1 80, .inl (g.2.2.1 0, 5, .inl (M.1 80))),
  (g.1 81, .inl (g.2.2.1 0, 60, .inl (M.1 81))),
  (g.1 82, .inl (g.2.2.1 0, 100, .inl (M.1 82))),
  (g.1 83, .inl (g.2.2.1 0, 100, .inl (M.1 83))),
  (g.1 84, .inl (g.2.2.1 0, 100, .inl (M.1 84))),
  (g.1 85, .inl (g.2.2.1 0, 100, .inl (M.1 85))),
  (g.1 86, .inl (g.2.2.1 0, 100, .inl (M.1 86))),
  (g.1 87, .inl (g.2.2.1 0, 100, .inl (M.1 87))),
  (g.1 88, .inl (g.2.2.1 1, 100, .inl (M.1 88))),
  (g.1 89, .inl (g.2.2.1 0, 60, .inl (M.1 89))),
  (g.1 90, .inl (g.2.2.1 0, 60, .inl (M.1 90))),
  (g.1 91, .inl (g.2.2.1 0, 60, .inl (M.1 91))),
  (g.1 92, .inl (g.2.2.1 0, 60, .inl (M.1 92))),
  (g.1 93, .inl (g.2.2.1 0, 64, .inl (M.1 93))),
  (g.1 94, .inl (g.2.2.1 0, 8, .inl (M.1 94))),
  (g.1 95, .inl (g.2.2.1 0, 6, .inl (M.1 95))),
  (g.1 96, .inl (g.2.2.1 0, 60, .inl (M.1 96))),
  (g.1 97, .inl (g.2.2.1 0, 5, .inl (M.1 97))),
  (g.1 98, .inl (g.2.2.1 1, 8, .inl (M.1 98))),
  (g.1 99, .inl (g.2.2.1 0, 8, .inl (M.1 99))),
  (g.1 100, .inl (g.2.2.1 0, 14, .inl (M.1 100))),
  (g.1 101, .inl (g.2.2.1 0, 14, .inl (M.1 101)))]
def inW (g : Cx) : Nat → Prop := fun q => ∃ k : Nat, k < 102 ∧ q = g.1 k
def DJ (g : Cx) : Prop := ∀ i j : Nat, i < 102 → j < 102 → g.1 i = g.1 j → i = j
theorem wl_ad (g : Cx) (M : Mem) : (wl g M).map (fun p => p.1) = (List.range 102).map g.1 := rfl
theorem wl_at {g : Cx} {M : Mem} {k : Nat} {p : Nat × va_E} (h : (wl g M)[k]? = some p) : k < 102 ∧ p.1 = g.1 k := by
  have h1 : ((wl g M).map (fun p => p.1))[k]? = some p.1 := by rw [List.getElem?_map, h]; rfl
  rw [wl_ad, List.getElem?_map] at h1
  by_cases hk : k < 102
  · rw [List.getElem?_range hk] at h1
    exact ⟨hk, (Option.some.inj h1).symm⟩
  · have hn : (List.range 102)[k]? = none := List.getElem?_eq_none (by rw [List.length_range]; omega)
    rw [hn] at h1
    cases h1
theorem wl_D {g : Cx} (h : DJ g) (M : Mem) : va_D (inW g) (wl g M) := by
  refine ⟨fun i j p q hi hj e => ?_, fun k q hk => ?_⟩
  · obtain ⟨h1, h2⟩ := wl_at hi
    obtain ⟨h3, h4⟩ := wl_at hj
    exact h i j h1 h3 (by rw [← h2, ← h4]; exact e)
  · obtain ⟨h1, h2⟩ := wl_at hk
    exact ⟨k, h1, h2⟩
def tysG (g : Cx) : List (ClassId × FieldType) := [(g.2.2.1 0, .int), (g.2.2.1 1, .boolean), (g.2.2.1 2, .long), (g.2.2.1 3, .array .int)]
/-- an int array of n places at cell q -/
def IA (q n : Nat) : Prop := (∀ (g : Cx) (M : Mem), (wl g M)[q]? = some (g.1 q, .inl (g.2.2.1 0, n, .inl (M.1 q)))) ∧ ∀ (g : Cx) (M : Mem) (i : Nat) (x : Int32), (wl g M).set q (g.1 q, .inl (g.2.2.1 0, n, .inl (upd (M.1 q) i x))) = wl g (up2 M q i x)
def ZA (q n : Nat) : Prop := (∀ (g : Cx) (M : Mem), (wl g M)[q]? = some (g.1 q, .inl (g.2.2.1 1, n, .inl (M.1 q)))) ∧ ∀ (g : Cx) (M : Mem) (i : Nat) (x : Int32), (wl g M).set q (g.1 q, .inl (g.2.2.1 1, n, .inl (upd (M.1 q) i x))) = wl g (up2 M q i x)
def LA (q n : Nat) : Prop := (∀ (g : Cx) (M : Mem), (wl g M)[q]? = some (g.1 q, .inl (g.2.2.1 2, n, .inr (.inl M.2)))) ∧ ∀ (g : Cx) (M : Mem) (i : Nat) (x : Int64), (wl g M).set q (g.1 q, .inl (g.2.2.1 2, n, .inr (.inl (vp_updL M.2 i x)))) = wl g (upL M i x)
def OB (q ci : Nat) (fs : Cx → Mem → List Value) : Prop := ∀ (g : Cx) (M : Mem), (wl g M)[q]? = some (g.1 q, .inr (ci, fs g M))
def PF (q ci j : Nat) (fs : Cx → Mem → List Value) : Prop := ∀ (g : Cx) (M : Mem) (x : Int32), (wl g M).set q (g.1 q, .inr (ci, (fs g M).set j (.int x))) = wl g (up2 M q j x)
theorem ob0 : OB 0 10 fs0 := fun _ _ => rfl
theorem pf0_12 : PF 0 10 12 fs0 := fun _ _ _ => rfl
theorem pf0_13 : PF 0 10 13 fs0 := fun _ _ _ => rfl
theorem ob1 : OB 1 1 fs1 := fun _ _ => rfl
theorem pf1_1 : PF 1 1 1 fs1 := fun _ _ _ => rfl
theorem pf1_2 : PF 1 1 2 fs1 := fun _ _ _ => rfl
theorem pf1_3 : PF 1 1 3 fs1 := fun _ _ _ => rfl
theorem ob2 : OB 2 8 fs2 := fun _ _ => rfl
theorem pf2_3 : PF 2 8 3 fs2 := fun _ _ _ => rfl
theorem pf2_8 : PF 2 8 8 fs2 := fun _ _ _ => rfl
theorem pf2_10 : PF 2 8 10 fs2 := fun _ _ _ => rfl
theorem pf2_11 : PF 2 8 11 fs2 := fun _ _ _ => rfl
theorem pf2_12 : PF 2 8 12 fs2 := fun _ _ _ => rfl
theorem pf2_13 : PF 2 8 13 fs2 := fun _ _ _ => rfl
theorem pf2_14 : PF 2 8 14 fs2 := fun _ _ _ => rfl
theorem pf2_15 : PF 2 8 15 fs2 := fun _ _ _ => rfl
theorem ob3 : OB 3 2 fs3 := fun _ _ => rfl
theorem pf3_4 : PF 3 2 4 fs3 := fun _ _ _ => rfl
theorem ob4 : OB 4 4 fs4 := fun _ _ => rfl
theorem pf4_6 : PF 4 4 6 fs4 := fun _ _ _ => rfl
theorem ob5 : OB 5 5 fs5 := fun _ _ => rfl
theorem pf5_3 : PF 5 5 3 fs5 := fun _ _ _ => rfl
theorem pf5_4 : PF 5 5 4 fs5 := fun _ _ _ => rfl
theorem ob6 : OB 6 9 fs6 := fun _ _ => rfl
theorem pf6_10 : PF 6 9 10 fs6 := fun _ _ _ => rfl
theorem ob7 : OB 7 7 fs7 := fun _ _ => rfl
theorem pf7_4 : PF 7 7 4 fs7 := fun _ _ _ => rfl
theorem ob8 : OB 8 3 fs8 := fun _ _ => rfl
theorem ob9 : OB 9 0 fs9 := fun _ _ => rfl
theorem ob10 : OB 10 6 fs10 := fun _ _ => rfl
theorem pf10_4 : PF 10 6 4 fs10 := fun _ _ _ => rfl
theorem pf10_5 : PF 10 6 5 fs10 := fun _ _ _ => rfl
theorem ob11 : OB 11 11 fs11 := fun _ _ => rfl
theorem pf11_0 : PF 11 11 0 fs11 := fun _ _ _ => rfl
theorem pf11_2 : PF 11 11 2 fs11 := fun _ _ _ => rfl
theorem pf11_3 : PF 11 11 3 fs11 := fun _ _ _ => rfl
theorem pf11_4 : PF 11 11 4 fs11 := fun _ _ _ => rfl
theorem pf11_7 : PF 11 11 7 fs11 := fun _ _ _ => rfl
theorem pf11_12 : PF 11 11 12 fs11 := fun _ _ _ => rfl
theorem pf11_17 : PF 11 11 17 fs11 := fun _ _ _ => rfl
theorem pf11_21 : PF 11 11 21 fs11 := fun _ _ _ => rfl
theorem pf11_24 : PF 11 11 24 fs11 := fun _ _ _ => rfl
theorem pf11_25 : PF 11 11 25 fs11 := fun _ _ _ => rfl
theorem pf11_33 : PF 11 11 33 fs11 := fun _ _ _ => rfl
theorem pf11_39 : PF 11 11 39 fs11 := fun _ _ _ => rfl
theorem pf11_44 : PF 11 11 44 fs11 := fun _ _ _ => rfl
theorem ia12 : IA 12 6 := ⟨fun _ _ => rfl, fun _ _ _ _ => rfl⟩
theorem ia13 : IA 13 8 := ⟨fun _ _ => rfl, fun _ _ _ _ => rfl⟩
theorem ia14 : IA 14 12 := ⟨fun _ _ => rfl, fun _ _ _ _ => rfl⟩
theorem ia15 : IA 15 4 := ⟨fun _ _ => rfl, fun _ _ _ _ => rfl⟩
theorem ia16 : IA 16 4 := ⟨fun _ _ => rfl, fun _ _ _ _ => rfl⟩
theorem ia17 : IA 17 60 := ⟨fun _ _ => rfl, fun _ _ _ _ => rfl⟩
theorem ia18 : IA 18 60 := ⟨fun _ _ => rfl, fun _ _ _ _ => rfl⟩
theorem ia19 : IA 19 60 := ⟨fun _ _ => rfl, fun _ _ _ _ => rfl⟩
theorem ia20 : IA 20 60 := ⟨fun _ _ => rfl, fun _ _ _ _ => rfl⟩
theorem ia21 : IA 21 60 := ⟨fun _ _ => rfl, fun _ _ _ _ => rfl⟩
theorem ia22 : IA 22 8 := ⟨fun _ _ => rfl, fun _ _ _ _ => rfl⟩
theorem ia23 : IA 23 48 := ⟨fun _ _ => rfl, fun _ _ _ _ => rfl⟩
theorem ia24 : IA 24 48 := ⟨fun _ _ => rfl, fun _ _ _ _ => rfl⟩
theorem za25 : ZA 25 48 := ⟨fun _ _ => rfl, fun _ _ _ _ => rfl⟩
theorem ia26 : IA 26 40 := ⟨fun _ _ => rfl, fun _ _ _ _ => rfl⟩
theorem ia27 : IA 27 40 := ⟨fun _ _ => rfl, fun _ _ _ _ => rfl⟩
theorem ia28 : IA 28 40 := ⟨fun _ _ => rfl, fun _ _ _ _ => rfl⟩
theorem ia29 : IA 29 240 := ⟨fun _ _ => rfl, fun _ _ _ _ => rfl⟩
theorem ia30 : IA 30 5 := ⟨fun _ _ => rfl, fun _ _ _ _ => rfl⟩
theorem ia31 : IA 31 5 := ⟨fun _ _ => rfl, fun _ _ _ _ => rfl⟩
theorem ia32 : IA 32 60 := ⟨fun _ _ => rfl, fun _ _ _ _ => rfl⟩
theorem ia33 : IA 33 100 := ⟨fun _ _ => rfl, fun _ _ _ _ => rfl⟩
theorem ia34 : IA 34 100 := ⟨fun _ _ => rfl, fun _ _ _ _ => rfl⟩
theorem ia35 : IA 35 100 := ⟨fun _ _ => rfl, fun _ _ _ _ => rfl⟩
theorem ia36 : IA 36 100 := ⟨fun _ _ => rfl, fun _ _ _ _ => rfl⟩
theorem ia37 : IA 37 100 := ⟨fun _ _ => rfl, fun _ _ _ _ => rfl⟩
theorem ia38 : IA 38 100 := ⟨fun _ _ => rfl, fun _ _ _ _ => rfl⟩
theorem za39 : ZA 39 100 := ⟨fun _ _ => rfl, fun _ _ _ _ => rfl⟩
theorem ia40 : IA 40 64 := ⟨fun _ _ => rfl, fun _ _ _ _ => rfl⟩
theorem ia41 : IA 41 60 := ⟨fun _ _ => rfl, fun _ _ _ _ => rfl⟩
theorem ia42 : IA 42 60 := ⟨fun _ _ => rfl, fun _ _ _ _ => rfl⟩
theorem ia43 : IA 43 60 := ⟨fun _ _ => rfl, fun _ _ _ _ => rfl⟩
theorem ia44 : IA 44 4 := ⟨fun _ _ => rfl, fun _ _ _ _ => rfl⟩
theorem la45 : LA 45 64 := ⟨fun _ _ => rfl, fun _ _ _ _ => rfl⟩
theorem ia46 : IA 46 64 := ⟨fun _ _ => rfl, fun _ _ _ _ => rfl⟩
theorem ia47 : IA 47 8 := ⟨fun _ _ => rfl, fun _ _ _ _ => rfl⟩
theorem ia48 : IA 48 14 := ⟨fun _ _ => rfl, fun _ _ _ _ => rfl⟩
theorem za49 : ZA 49 14 := ⟨fun _ _ => rfl, fun _ _ _ _ => rfl⟩
theorem ia51 : IA 51 183 := ⟨fun _ _ => rfl, fun _ _ _ _ => rfl⟩
theorem ia52 : IA 52 183 := ⟨fun _ _ => rfl, fun _ _ _ _ => rfl⟩
theorem ia53 : IA 53 183 := ⟨fun _ _ => rfl, fun _ _ _ _ => rfl⟩
theorem ia54 : IA 54 183 := ⟨fun _ _ => rfl, fun _ _ _ _ => rfl⟩
theorem ia55 : IA 55 183 := ⟨fun _ _ => rfl, fun _ _ _ _ => rfl⟩
theorem ia56 : IA 56 183 := ⟨fun _ _ => rfl, fun _ _ _ _ => rfl⟩
theorem ia57 : IA 57 183 := ⟨fun _ _ => rfl, fun _ _ _ _ => rfl⟩
theorem ia58 : IA 58 183 := ⟨fun _ _ => rfl, fun _ _ _ _ => rfl⟩
theorem ia59 : IA 59 183 := ⟨fun _ _ => rfl, fun _ _ _ _ => rfl⟩
theorem ia60 : IA 60 183 := ⟨fun _ _ => rfl, fun _ _ _ _ => rfl⟩
theorem ia61 : IA 61 183 := ⟨fun _ _ => rfl, fun _ _ _ _ => rfl⟩
theorem ia62 : IA 62 183 := ⟨fun _ _ => rfl, fun _ _ _ _ => rfl⟩
theorem ia63 : IA 63 183 := ⟨fun _ _ => rfl, fun _ _ _ _ => rfl⟩
theorem ia64 : IA 64 183 := ⟨fun _ _ => rfl, fun _ _ _ _ => rfl⟩
theorem ia65 : IA 65 183 := ⟨fun _ _ => rfl, fun _ _ _ _ => rfl⟩
theorem ia66 : IA 66 12 := ⟨fun _ _ => rfl, fun _ _ _ _ => rfl⟩
theorem ia67 : IA 67 20 := ⟨fun _ _ => rfl, fun _ _ _ _ => rfl⟩
theorem ia68 : IA 68 20 := ⟨fun _ _ => rfl, fun _ _ _ _ => rfl⟩
theorem ia69 : IA 69 60 := ⟨fun _ _ => rfl, fun _ _ _ _ => rfl⟩
theorem ia70 : IA 70 60 := ⟨fun _ _ => rfl, fun _ _ _ _ => rfl⟩
theorem ia71 : IA 71 60 := ⟨fun _ _ => rfl, fun _ _ _ _ => rfl⟩
theorem ia72 : IA 72 60 := ⟨fun _ _ => rfl, fun _ _ _ _ => rfl⟩
theorem ia73 : IA 73 8 := ⟨fun _ _ => rfl, fun _ _ _ _ => rfl⟩
theorem ia74 : IA 74 48 := ⟨fun _ _ => rfl, fun _ _ _ _ => rfl⟩
theorem ia75 : IA 75 48 := ⟨fun _ _ => rfl, fun _ _ _ _ => rfl⟩
theorem za76 : ZA 76 48 := ⟨fun _ _ => rfl, fun _ _ _ _ => rfl⟩
theorem ia77 : IA 77 40 := ⟨fun _ _ => rfl, fun _ _ _ _ => rfl⟩
theorem ia78 : IA 78 40 := ⟨fun _ _ => rfl, fun _ _ _ _ => rfl⟩
theorem ia79 : IA 79 240 := ⟨fun _ _ => rfl, fun _ _ _ _ => rfl⟩
theorem ia80 : IA 80 5 := ⟨fun _ _ => rfl, fun _ _ _ _ => rfl⟩
theorem ia81 : IA 81 60 := ⟨fun _ _ => rfl, fun _ _ _ _ => rfl⟩
theorem ia82 : IA 82 100 := ⟨fun _ _ => rfl, fun _ _ _ _ => rfl⟩
theorem ia83 : IA 83 100 := ⟨fun _ _ => rfl, fun _ _ _ _ => rfl⟩
theorem ia84 : IA 84 100 := ⟨fun _ _ => rfl, fun _ _ _ _ => rfl⟩
theorem ia85 : IA 85 100 := ⟨fun _ _ => rfl, fun _ _ _ _ => rfl⟩
theorem ia86 : IA 86 100 := ⟨fun _ _ => rfl, fun _ _ _ _ => rfl⟩
theorem ia87 : IA 87 100 := ⟨fun _ _ => rfl, fun _ _ _ _ => rfl⟩
theorem za88 : ZA 88 100 := ⟨fun _ _ => rfl, fun _ _ _ _ => rfl⟩
theorem ia89 : IA 89 60 := ⟨fun _ _ => rfl, fun _ _ _ _ => rfl⟩
theorem ia90 : IA 90 60 := ⟨fun _ _ => rfl, fun _ _ _ _ => rfl⟩
theorem ia91 : IA 91 60 := ⟨fun _ _ => rfl, fun _ _ _ _ => rfl⟩
theorem ia92 : IA 92 60 := ⟨fun _ _ => rfl, fun _ _ _ _ => rfl⟩
theorem ia93 : IA 93 64 := ⟨fun _ _ => rfl, fun _ _ _ _ => rfl⟩
theorem ia94 : IA 94 8 := ⟨fun _ _ => rfl, fun _ _ _ _ => rfl⟩
theorem ia95 : IA 95 6 := ⟨fun _ _ => rfl, fun _ _ _ _ => rfl⟩
theorem ia96 : IA 96 60 := ⟨fun _ _ => rfl, fun _ _ _ _ => rfl⟩
theorem ia97 : IA 97 5 := ⟨fun _ _ => rfl, fun _ _ _ _ => rfl⟩
theorem za98 : ZA 98 8 := ⟨fun _ _ => rfl, fun _ _ _ _ => rfl⟩
theorem ia99 : IA 99 8 := ⟨fun _ _ => rfl, fun _ _ _ _ => rfl⟩
theorem ia100 : IA 100 14 := ⟨fun _ _ => rfl, fun _ _ _ _ => rfl⟩
theorem ia101 : IA 101 14 := ⟨fun _ _ => rfl, fun _ _ _ _ => rfl⟩
theorem iaW {i : Nat} (h : i < 15) : IA (51 + i) 183 := by
  rcases (show i = 0 ∨ i = 1 ∨ i = 2 ∨ i = 3 ∨ i = 4 ∨ i = 5 ∨ i = 6 ∨ i = 7 ∨ i = 8 ∨ i = 9 ∨ i = 10 ∨ i = 11 ∨ i = 12 ∨ i = 13 ∨ i = 14 by omega) with rfl | rfl | rfl | rfl | rfl | rfl | rfl | rfl | rfl | rfl | rfl | rfl | rfl | rfl | rfl
  · exact ia51
  · exact ia52
  · exact ia53
  · exact ia54
  · exact ia55
  · exact ia56
  · exact ia57
  · exact ia58
  · exact ia59
  · exact ia60
  · exact ia61
  · exact ia62
  · exact ia63
  · exact ia64
  · exact ia65
theorem waW : ∀ (g : Cx) (M : Mem), (wl g M)[50]? = some (g.1 50, .inl (g.2.2.1 3, 15, .inr (.inr (.inr (.inr (fun i => if i < 15 then some (g.1 (51 + i)) else none)))))) := fun _ _ => rfl
end
section
/-! THE JUDGEMENTS: a frame of a method over a memory (AT), a method's contract (CT) -/
def gd : List Cond := lw_tbl.filter goodWord
theorem gd_good {w : Cond} (h : w ∈ gd) : w ∈ gd ∧ ((w.onTables && w.keeps) = true ∨ ∃ ty, w = .arrayClass ty) := ⟨h, good_of_word (List.mem_filter.mp h).2⟩
theorem gd_t {w : Cond} (i : Nat) (h : tables_1[i]? = some w ∧ goodWord w = true) : w ∈ gd := List.mem_filter.mpr ⟨List.mem_append_right _ (List.mem_of_getElem? h.1), h.2⟩
theorem gd_p {w : Cond} (i : Nat) (h : (k2_sels lw_privs)[i]? = some w ∧ goodWord w = true) : w ∈ gd := List.mem_filter.mpr ⟨List.mem_append_left _ (List.mem_of_getElem? h.1), h.2⟩
def tbA (j : Nat) : Int32 := [-1, 0, 1, 0].getD j 0
def tbG (j : Nat) : Int32 := [100, 52, 100, 100, 100].getD j 0
def tbW (j : Nat) : Int32 := [115, 104, 97, 114, 101, 107, 101, 101, 112, 0, 119, 97, 105, 116, 0, 102, 114, 101, 101, 0, 115, 117, 114, 101, 0].getD j 0
def sLen : List Nat := [5, 4, 4, 4, 4]
def sByt : List (List Int32) := [[115, 104, 97, 114, 101], [107, 101, 101, 112], [119, 97, 105, 116], [102, 114, 101, 101], [115, 117, 114, 101]]
def nestW : List Cond := [.methodLinkNest RX1 22 yX10_isWithin "BenchTimes", .methodLinkNest RX2 29 yX10_isWithin "BenchTimes", .methodLinkNest RX5 80 yX10_isWithin "BenchTimes", .methodLinkNest RX9 84 yX10_isWithin "BenchTimes", .methodLinkNest RX3 52 yX10_isIn "BenchTimes"]
/-- statics, texts and links of nest mates: what no method writes -/
def ST (g : Cx) (A : Nat → Prop) (U : State) (H : Heap) : Prop :=
  (va_Z "BenchTimes$Elements" "ABOVE" "[I" (.ref (g.2.2.2.1 0)) A U H ∧ va_T .int (g.2.2.2.1 0) 4 (fun j => .int (tbA j)) A U H) ∧
  (va_Z "BenchTimes$Rules" "GREATEST" "[I" (.ref (g.2.2.2.1 1)) A U H ∧ va_T .int (g.2.2.2.1 1) 5 (fun j => .int (tbG j)) A U H) ∧
  (va_Z "BenchTimesModel" "WORDS" "[I" (.ref (g.2.2.2.1 2)) A U H ∧ va_T .int (g.2.2.2.1 2) 25 (fun j => .int (tbW j)) A U H) ∧
  va_Z "java/lang/String" "COMPACT_STRINGS" "Z" (.int 1) A U H ∧
  vk_S 5 sLen sByt g.2.2.2.2.1 g.2.2.2.2.2 A U H ∧
  (vk_R "BenchTimes$Rules" 84 "share" (g.2.2.2.2.1 0) U ∧ vk_R "BenchTimes$Rules" 86 "keep" (g.2.2.2.2.1 1) U ∧ vk_R "BenchTimes$Rules" 88 "wait" (g.2.2.2.2.1 2) U ∧ vk_R "BenchTimes$Rules" 90 "free" (g.2.2.2.2.1 3) U ∧ vk_R "BenchTimes$Rules" 92 "sure" (g.2.2.2.2.1 4) U) ∧
  (∀ w ∈ nestW, va_Nw w U)
theorem ST.go {g : Cx} {A : Nat → Prop} {s U : State} {H : Heap} (hW : s.WarmedH U.vm) (h : ST g A s s.heap) (hq : ∀ a : Nat, a < s.heap.size → ¬ A a → H[a]? = s.heap[a]?) : ST g A U H := by
  obtain ⟨⟨a1, a2⟩, ⟨b1, b2⟩, ⟨c1, c2⟩, d1, e1, ⟨f1, f2, f3, f4, f5⟩, n1⟩ := h
  have hA := hW.alike
  refine ⟨⟨(a1.kept hq).moved hA, (a2.kept hq).moved hA⟩, ⟨(b1.kept hq).moved hA, (b2.kept hq).moved hA⟩, ⟨(c1.kept hq).moved hA, (c2.kept hq).moved hA⟩, (d1.kept hq).moved hA, (e1.kept hq).moved hA, ⟨f1.warm hW, f2.warm hW, f3.warm hW, f4.warm hW, f5.warm hW⟩, fun w hw => ?_⟩
  have hn := n1 w hw
  simp only [nestW, List.mem_cons, List.not_mem_nil, or_false] at hw
  rcases hw with rfl | rfl | rfl | rfl | rfl <;> exact va_Nw.warmM hW hn
theorem ST.same {g : Cx} {A : Nat → Prop} {u U : State} {H : Heap} (hv : U.vm = u.vm) (h : ST g A u H) : ST g A U H := by
  obtain ⟨⟨a1, a2⟩, ⟨b1, b2⟩, ⟨c1, c2⟩, d1, e1, ⟨f1, f2, f3, f4, f5⟩, n1⟩ := h
  have hA : u.vm.Alike U.vm := by rw [hv]; exact Vm.Alike.refl u.vm
  refine ⟨⟨a1.moved hA, a2.moved hA⟩, ⟨b1.moved hA, b2.moved hA⟩, ⟨c1.moved hA, c2.moved hA⟩, d1.moved hA, e1.moved hA, ⟨f1.same hv, f2.same hv, f3.same hv, f4.same hv, f5.same hv⟩, fun w hw => ?_⟩
  have hn := n1 w hw
  simp only [nestW, List.mem_cons, List.not_mem_nil, or_false] at hw
  rcases hw with rfl | rfl | rfl | rfl | rfl <;> exact va_Nw.same rfl hv.symm hn
def lvA : Nat → List (Option Value) → List (Nat × Value)
  | _, [] => []
  | i, none :: t => lvA (i + 1) t
  | i, some v :: t => (i, v) :: lvA (i + 1) t
def CF (p : Program) (s : State) (m : MethodId) (args : Array Value) (meth : Method) (c : Code) (g : Cx) (own : String) (cc : ByteArray) (nL : Nat) (ret : Option FieldType) : Prop :=
  p.tables.exec = Jvm.exec ∧ c.code = cc ∧ meth.sig.returnType = ret ∧ c.maxLocals = nL ∧ s.vm.findClass own = some m.cls ∧ meth.locks = false ∧ (∀ w ∈ gd, w.before args s = true) ∧ va_K g.2.1 cls (tysG g) s ∧ DJ g ∧ ST g (inW g) s s.heap
def QC (g : Cx) (P : Option Value → Mem → Prop) : Array Value → State → Outcome → State → Prop := fun _ st o t => (∃ (r : Option Value) (M' : Mem), o = .returned r ∧ P r M' ∧ va_P g.2.1 cls (wl g M') t.heap) ∧ va_F (inW g) st t
def AT (l : Launch) (g : Cx) (own : String) (cc : ByteArray) (nL : Nat) (ret : Option FieldType) (R : Room) (P : Option Value → Mem → Prop) (pc : Nat) (lv : List (Option Value)) (st : List Value) (M : Mem) : Prop :=
  ∀ (p : Program) (e : Env) (s : State) (m : MethodId) (args : Array Value) (below : List Frame) (meth : Method) (c : Code) (H : Heap) (locs : List Loc) (ls : Array Slot),
    CF p s m args meth c g own cc nL ret → va_P g.2.1 cls (wl g M) H → va_S (inW g) s.heap H locs → lv_has ls nL (lvA 0 lv) →
    W p l e R s m args below meth c H locs 0 0 (MQ below (QC g P) args s 0 0 (inW g)) (F0 m pc ls st)
abbrev rmM (fr lo : Nat) : Room := { frames := fr, cells := 0, slots := 0, locals := lo }
def CT (l : Launch) (g : Cx) (y : MethodName) (cc : ByteArray) (nL : Nat) (ret : Option FieldType) (fr lo : Nat) (as : List Value) (M : Mem) (P : Option Value → Mem → Prop) : Prop :=
  Met l y (.code y cc nL ret :: gd) (rmM fr lo) (va_Pc as (fun U => va_P g.2.1 cls (wl g M) U.heap ∧ va_K g.2.1 cls (tysG g) U ∧ DJ g ∧ ST g (inW g) U U.heap)) (QC g P) 0 0 (inW g)
theorem CT_of {l : Launch} {g : Cx} {y : MethodName} {cc : ByteArray} {nL : Nat} {ret : Option FieldType} {fr lo : Nat} {as : List Value} {M : Mem} {P : Option Value → Mem → Prop} {lv : List (Option Value)} (hy : plainName y.cls = true) (hlv : lv_args 0 as = lvA 0 lv) (hn : (lg_sl as).length ≤ nL)
    (h : AT l g y.cls cc nL ret (rmM fr lo) P 0 lv [] M) : CT l g y cc nL ret fr lo as M P := by
  refine Met.ofW (cc := cc) (maxL := nL) (ret := ret) hy rfl ?_
  intro p e s m args below meth c s₁ B hml hv
  obtain ⟨rfl, hP, hK, hJ, hT⟩ := hv
  have hts := atoms_spec (ws := Cond.code y cc nL ret :: gd) B.pre
  have hown : s.vm.findClass y.cls = some m.cls := findClass_of_methodNamed B.named
  have hl := lv_entry as (n := nL) hn
  rw [lg_entry_eq]
  rw [hlv] at hl
  exact h p e s m _ below meth c s.heap [] _ ⟨B.exec, B.bytes, B.returns, hml, hown, B.notSynchronized, fun w hw => hts w (List.mem_cons_of_mem _ hw), hK, hJ, hT⟩ hP va_S.rf hl
theorem CT.mono {l : Launch} {g : Cx} {y : MethodName} {cc : ByteArray} {nL : Nat} {ret : Option FieldType} {fr lo : Nat} {as : List Value} {M : Mem} {P P' : Option Value → Mem → Prop} (h : CT l g y cc nL ret fr lo as M P) (hp : ∀ r M', P r M' → P' r M') : CT l g y cc nL ret fr lo as M P' := by
  intro p e ha hc hk s m args below hf hfit hheap happ
  obtain ⟨k, o, h1, h2, h3, ⟨⟨r, M', q1, q2, q3⟩, q4⟩, h5⟩ := h p e ha hc hk s m args below hf hfit hheap happ
  exact ⟨k, o, h1, h2, h3, ⟨⟨r, M', q1, hp r M' q2, q3⟩, q4⟩, h5⟩
def lvLe : List (Option Value) → List (Option Value) → Prop
  | [], _ => True
  | none :: a, b => lvLe a b.tail
  | some v :: a, b => b.head? = some (some v) ∧ lvLe a b.tail
theorem lvLe_0 {b : List (Option Value)} : lvLe [] b := trivial
theorem lvLe_n {a b : List (Option Value)} {x : Option Value} (h : lvLe a b) : lvLe (none :: a) (x :: b) := h
theorem lvLe_s {a b : List (Option Value)} {v : Value} (h : lvLe a b) : lvLe (some v :: a) (some v :: b) := ⟨rfl, h⟩
theorem lvA_le : ∀ (a b : List (Option Value)) (i : Nat), lvLe a b → ∀ q ∈ lvA i a, q ∈ lvA i b
  | [], _, _, _, q, hq => by cases hq
  | none :: a, b, i, h, q, hq => by
    cases b with
    | nil =>
      have h1 := lvA_le a [] (i + 1) h q hq
      cases h1
    | cons x t =>
      have h1 := lvA_le a t (i + 1) h q hq
      cases x with
      | none => exact h1
      | some w => exact List.mem_cons_of_mem _ h1
  | some v :: a, b, i, h, q, hq => by
    cases b with
    | nil => exact absurd h.1 (by simp)
    | cons x t =>
      obtain ⟨hx, ht⟩ := h
      cases (Option.some.inj hx : x = some v)
      rcases List.mem_cons.mp hq with rfl | h2
      · exact List.mem_cons_self
      · exact List.mem_cons_of_mem _ (lvA_le a t (i + 1) ht q h2)
theorem lvA_at : ∀ (a : List (Option Value)) (i k : Nat) (v : Value), a[k]? = some (some v) → (i + k, v) ∈ lvA i a
  | [], _, k, _, h => by simp at h
  | x :: t, i, 0, v, h => by
    have hx : x = some v := by simpa using h
    subst hx
    exact List.mem_cons_self
  | x :: t, i, k + 1, v, h => by
    have h1 := lvA_at t (i + 1) k v (by simpa using h)
    rw [show i + (k + 1) = i + 1 + k by omega]
    cases x with
    | none => exact h1
    | some w => exact List.mem_cons_of_mem _ h1
/-- what stands in the list behind a store: the new value, and what was there and isn't touched -/
theorem lvA_in : ∀ (a : List (Option Value)) (i : Nat) (q : Nat × Value), q ∈ lvA i a → i ≤ q.1 ∧ a[q.1 - i]? = some (some q.2)
  | [], _, q, h => by cases h
  | x :: t, i, q, h => by
    cases x with
    | none =>
      obtain ⟨h1, h2⟩ := lvA_in t (i + 1) q h
      refine ⟨by omega, ?_⟩
      rw [show q.1 - i = (q.1 - (i + 1)) + 1 by omega]
      simpa using h2
    | some w =>
      rcases List.mem_cons.mp h with rfl | h
      · exact ⟨Nat.le_refl _, by simp⟩
      · obtain ⟨h1, h2⟩ := lvA_in t (i + 1) q h
        refine ⟨by omega, ?_⟩
        rw [show q.1 - i = (q.1 - (i + 1)) + 1 by omega]
        simpa using h2
def okp : Option Value → Bool
  | some v => v.category != 2
  | none => true
theorem lv_keep1 {lv : List (Option Value)} {k : Nat} {v : Value} (hp : ∀ x, k ≠ 0 → lv[k - 1]? = some x → okp x = true) : ∀ q ∈ lvA 0 (lv.set k (some v)), q ∈ (k, v) :: (lvA 0 lv).filter (fun q => !(q.1 == k) && !(q.1 + 1 == k && q.2.category == 2)) := by
  intro q hq
  obtain ⟨-, h⟩ := lvA_in _ 0 q hq
  rw [Nat.sub_zero] at h
  by_cases hk : q.1 = k
  · have hl : k < lv.length := by
      have := (List.getElem?_eq_some_iff.mp h).1
      rw [List.length_set] at this
      omega
    rw [hk, List.getElem?_set_self hl] at h
    have hv : v = q.2 := by simpa using h
    rw [show q = (k, v) from Prod.ext hk hv.symm]
    exact List.mem_cons_self
  · rw [List.getElem?_set_ne (Ne.symm hk)] at h
    refine List.mem_cons_of_mem _ (List.mem_filter.mpr ⟨?_, ?_⟩)
    · have := lvA_at lv 0 q.1 q.2 h
      simpa using this
    · by_cases hk1 : q.1 + 1 = k
      · have h2 := hp (some q.2) (by omega) (by rw [show k - 1 = q.1 by omega]; exact h)
        simp only [okp] at h2
        have h3 : (q.1 == k) = false := by simpa using hk
        have h4 : (q.2.category == 2) = false := by simpa using h2
        simp [h3, h4]
      · have h3 : (q.1 == k) = false := by simpa using hk
        have h4 : (q.1 + 1 == k) = false := by simpa using hk1
        simp [h3, h4]
theorem lv_keep2 {lv : List (Option Value)} {k : Nat} {v : Value} (hp : ∀ x, k ≠ 0 → lv[k - 1]? = some x → okp x = true) : ∀ q ∈ lvA 0 ((lv.set k (some v)).set (k + 1) none), q ∈ (k, v) :: (lvA 0 lv).filter (fun q => !(q.1 == k) && (!(q.1 == k + 1) && !(q.1 + 1 == k && q.2.category == 2))) := by
  intro q hq
  obtain ⟨-, h⟩ := lvA_in _ 0 q hq
  rw [Nat.sub_zero] at h
  by_cases hk2 : q.1 = k + 1
  · exfalso
    have hl := (List.getElem?_eq_some_iff.mp h).1
    rw [List.length_set, hk2] at hl
    rw [hk2, List.getElem?_set_self hl] at h
    cases h
  rw [List.getElem?_set_ne (Ne.symm hk2)] at h
  by_cases hk : q.1 = k
  · have hl : k < lv.length := by
      have := (List.getElem?_eq_some_iff.mp h).1
      rw [List.length_set] at this
      omega
    rw [hk, List.getElem?_set_self hl] at h
    have hv : v = q.2 := by simpa using h
    rw [show q = (k, v) from Prod.ext hk hv.symm]
    exact List.mem_cons_self
  · rw [List.getElem?_set_ne (Ne.symm hk)] at h
    refine List.mem_cons_of_mem _ (List.mem_filter.mpr ⟨?_, ?_⟩)
    · have := lvA_at lv 0 q.1 q.2 h
      simpa using this
    · have h3 : (q.1 == k) = false := by simpa using hk
      have h5 : (q.1 == k + 1) = false := by simpa using hk2
      by_cases hk1 : q.1 + 1 = k
      · have h2 := hp (some q.2) (by omega) (by rw [show k - 1 = q.1 by omega]; exact h)
        simp only [okp] at h2
        have h4 : (q.2.category == 2) = false := by simpa using h2
        simp [h3, h4, h5]
      · have h4 : (q.1 + 1 == k) = false := by simpa using hk1
        simp [h3, h4, h5]
theorem lv_more {ls : Array Slot} {nL : Nat} {a b : List (Nat × Value)} (h : lv_has ls nL b) (hs : ∀ q ∈ a, q ∈ b) : lv_has ls nL a := ⟨h.1, h.2.1, fun q hq => h.2.2 q (hs q hq)⟩
end
section
/-! ROWS of AT: an instruction each -/
def di (cc : ByteArray) (pc : Nat) (i : Instr) (len n : Nat) : Prop := decode cc pc = .ok (i, len) ∧ pc + len = n
def dj (cc : ByteArray) (pc : Nat) (mk : Int → Instr) (n tgt : Nat) : Prop := ∃ off : Int, decode cc pc = .ok (mk off, 3) ∧ pc + 3 = n ∧ (pc : Int) + off = (tgt : Int)
def FW (own : String) (idx ci j : Nat) : Prop := ∃ (C : String) (T : u_T) (N : Nat), cls[ci]? = some (C, T, N) ∧ j < N ∧ Cond.fieldLink own idx (T j).1 (T j).2.1 (T j).2.2.1 ∈ gd ∧ (∀ w ∈ u_ws C T N, w ∈ gd)
def PW (own : String) (idx ci j : Nat) : Prop := ∃ (C : String) (T : u_T) (N : Nat) (ty0 : Nat → FieldType), cls[ci]? = some (C, T, N) ∧ j < N ∧ Cond.fieldLink own idx (T j).1 (T j).2.1 (T j).2.2.1 ∈ gd ∧ (∀ w ∈ u_ws C T N, w ∈ gd) ∧ (∀ k, k < N → parseFieldDescriptor (T k).2.2.1 = some (ty0 k)) ∧ (∀ a, a < N → ∀ b, b < N → a ≠ b → (T a).2.1 ≠ (T b).2.1) ∧ (T j).2.2.2 = false ∧ parseFieldDescriptor (T j).2.2.1 = some .int
section ROWS
variable {l : Launch} {g : Cx} {own : String} {cc : ByteArray} {nL : Nat} {ret : Option FieldType} {R : Room} {P : Option Value → Mem → Prop} {pc n : Nat} {lv : List (Option Value)} {st : List Value} {M : Mem}
theorem A_iconst {z : Int} {v : Int32} (hd : di cc pc (.iconst z) 1 n) (hv : Int32.ofInt z = v) (k : AT l g own cc nL ret R P n lv (.int v :: st) M) : AT l g own cc nL ret R P pc lv (st) M := fun p e s m args below meth c H locs ls C hP hS hl => by
  obtain ⟨hd, rfl⟩ := hd
  exact lv_iconst C.1 C.2.1 hd hv (k p e s m args below meth c H locs ls C hP hS hl)
theorem A_bipush {z : Int} {v : Int32} (hd : di cc pc (.bipush z) 2 n) (hv : (Int8.ofInt z).toInt32 = v) (k : AT l g own cc nL ret R P n lv (.int v :: st) M) : AT l g own cc nL ret R P pc lv (st) M := fun p e s m args below meth c H locs ls C hP hS hl => by
  obtain ⟨hd, rfl⟩ := hd
  exact lv_bipush C.1 C.2.1 hd hv (k p e s m args below meth c H locs ls C hP hS hl)
theorem A_sipush {z : Int} {v : Int32} (hd : di cc pc (.sipush z) 3 n) (hv : (Int16.ofInt z).toInt32 = v) (k : AT l g own cc nL ret R P n lv (.int v :: st) M) : AT l g own cc nL ret R P pc lv (st) M := fun p e s m args below meth c H locs ls C hP hS hl => by
  obtain ⟨hd, rfl⟩ := hd
  exact lv_sipush C.1 C.2.1 hd hv (k p e s m args below meth c H locs ls C hP hS hl)
theorem A_lconst {z : Fin 2} {v : Int64} (hd : di cc pc (.lconst z) 1 n) (hv : Int64.ofNat (z : Nat) = v) (k : AT l g own cc nL ret R P n lv (.long v :: st) M) : AT l g own cc nL ret R P pc lv (st) M := fun p e s m args below meth c H locs ls C hP hS hl => by
  obtain ⟨hd, rfl⟩ := hd
  exact lv_lconst C.1 C.2.1 hd hv (k p e s m args below meth c H locs ls C hP hS hl)
theorem A_iload_n {i : Fin 4} {x : Int32} (hd : di cc pc (.iload_n i) 1 n) (hi : lv[(i : Nat)]? = some (some (.int x))) (k : AT l g own cc nL ret R P n lv (.int x :: st) M) : AT l g own cc nL ret R P pc lv st M := fun p e s m args below meth c H locs ls C hP hS hl => by
  obtain ⟨hd, rfl⟩ := hd
  have hq := hl.2.2 _ (lvA_at lv 0 _ _ hi)
  rw [Nat.zero_add] at hq
  exact lv_iload_n C.1 C.2.1 hd rfl hq (k p e s m args below meth c H locs ls C hP hS hl)
theorem A_iload {i : Nat} {x : Int32} (hd : di cc pc (.iload i) 2 n) (hi : lv[i]? = some (some (.int x))) (k : AT l g own cc nL ret R P n lv (.int x :: st) M) : AT l g own cc nL ret R P pc lv st M := fun p e s m args below meth c H locs ls C hP hS hl => by
  obtain ⟨hd, rfl⟩ := hd
  have hq := hl.2.2 _ (lvA_at lv 0 _ _ hi)
  rw [Nat.zero_add] at hq
  exact lv_iload C.1 C.2.1 hd hq (k p e s m args below meth c H locs ls C hP hS hl)
theorem A_lload_n {i : Fin 4} {x : Int64} (hd : di cc pc (.lload_n i) 1 n) (hi : lv[(i : Nat)]? = some (some (.long x))) (k : AT l g own cc nL ret R P n lv (.long x :: st) M) : AT l g own cc nL ret R P pc lv st M := fun p e s m args below meth c H locs ls C hP hS hl => by
  obtain ⟨hd, rfl⟩ := hd
  have hq := hl.2.2 _ (lvA_at lv 0 _ _ hi)
  rw [Nat.zero_add] at hq
  exact lv_lload_n C.1 C.2.1 hd rfl hq (k p e s m args below meth c H locs ls C hP hS hl)
theorem A_lload {i : Nat} {x : Int64} (hd : di cc pc (.lload i) 2 n) (hi : lv[i]? = some (some (.long x))) (k : AT l g own cc nL ret R P n lv (.long x :: st) M) : AT l g own cc nL ret R P pc lv st M := fun p e s m args below meth c H locs ls C hP hS hl => by
  obtain ⟨hd, rfl⟩ := hd
  have hq := hl.2.2 _ (lvA_at lv 0 _ _ hi)
  rw [Nat.zero_add] at hq
  exact lv_lload C.1 C.2.1 hd hq (k p e s m args below meth c H locs ls C hP hS hl)
theorem A_aload_n {i : Fin 4} {x : Nat} (hd : di cc pc (.aload_n i) 1 n) (hi : lv[(i : Nat)]? = some (some (.ref x))) (k : AT l g own cc nL ret R P n lv (.ref x :: st) M) : AT l g own cc nL ret R P pc lv st M := fun p e s m args below meth c H locs ls C hP hS hl => by
  obtain ⟨hd, rfl⟩ := hd
  have hq := hl.2.2 _ (lvA_at lv 0 _ _ hi)
  rw [Nat.zero_add] at hq
  exact lv_aload_n C.1 C.2.1 hd rfl hq (k p e s m args below meth c H locs ls C hP hS hl)
theorem A_aload {i : Nat} {x : Nat} (hd : di cc pc (.aload i) 2 n) (hi : lv[i]? = some (some (.ref x))) (k : AT l g own cc nL ret R P n lv (.ref x :: st) M) : AT l g own cc nL ret R P pc lv st M := fun p e s m args below meth c H locs ls C hP hS hl => by
  obtain ⟨hd, rfl⟩ := hd
  have hq := hl.2.2 _ (lvA_at lv 0 _ _ hi)
  rw [Nat.zero_add] at hq
  exact lv_aload C.1 C.2.1 hd hq (k p e s m args below meth c H locs ls C hP hS hl)
theorem A_istore_n {i : Fin 4} {x : Int32} (hd : di cc pc (.istore_n i) 1 n) (hn : (i : Nat) < nL) (hp : ∀ x, (i : Nat) ≠ 0 → lv[(i : Nat) - 1]? = some x → okp x = true) (k : AT l g own cc nL ret R P n (lv.set (i : Nat) (some (.int x))) st M) : AT l g own cc nL ret R P pc lv (.int x :: st) M := fun p e s m args below meth c H locs ls C hP hS hl => by
  obtain ⟨hd, rfl⟩ := hd
  exact lv_istore_n C.1 C.2.1 hd rfl hl hn rfl (fun ls2 hl2 => k p e s m args below meth c H locs ls2 C hP hS (lv_more hl2 (lv_keep1 hp)))
theorem A_istore {i : Nat} {x : Int32} (hd : di cc pc (.istore i) 2 n) (hn : i < nL) (hp : ∀ x, i ≠ 0 → lv[i - 1]? = some x → okp x = true) (k : AT l g own cc nL ret R P n (lv.set i (some (.int x))) st M) : AT l g own cc nL ret R P pc lv (.int x :: st) M := fun p e s m args below meth c H locs ls C hP hS hl => by
  obtain ⟨hd, rfl⟩ := hd
  exact lv_istore C.1 C.2.1 hd hl hn rfl (fun ls2 hl2 => k p e s m args below meth c H locs ls2 C hP hS (lv_more hl2 (lv_keep1 hp)))
theorem A_lstore_n {i : Fin 4} {x : Int64} (hd : di cc pc (.lstore_n i) 1 n) (hn : (i : Nat) + 1 < nL) (hp : ∀ x, (i : Nat) ≠ 0 → lv[(i : Nat) - 1]? = some x → okp x = true) (k : AT l g own cc nL ret R P n ((lv.set (i : Nat) (some (.long x))).set ((i : Nat) + 1) none) st M) : AT l g own cc nL ret R P pc lv (.long x :: st) M := fun p e s m args below meth c H locs ls C hP hS hl => by
  obtain ⟨hd, rfl⟩ := hd
  exact lv_lstore_n C.1 C.2.1 hd rfl hl hn rfl (fun ls2 hl2 => k p e s m args below meth c H locs ls2 C hP hS (lv_more hl2 (lv_keep2 hp)))
theorem A_lstore {i : Nat} {x : Int64} (hd : di cc pc (.lstore i) 2 n) (hn : i + 1 < nL) (hp : ∀ x, i ≠ 0 → lv[i - 1]? = some x → okp x = true) (k : AT l g own cc nL ret R P n ((lv.set i (some (.long x))).set (i + 1) none) st M) : AT l g own cc nL ret R P pc lv (.long x :: st) M := fun p e s m args below meth c H locs ls C hP hS hl => by
  obtain ⟨hd, rfl⟩ := hd
  exact lv_lstore C.1 C.2.1 hd hl hn rfl (fun ls2 hl2 => k p e s m args below meth c H locs ls2 C hP hS (lv_more hl2 (lv_keep2 hp)))
theorem A_astore_n {i : Fin 4} {x : Nat} (hd : di cc pc (.astore_n i) 1 n) (hn : (i : Nat) < nL) (hp : ∀ x, (i : Nat) ≠ 0 → lv[(i : Nat) - 1]? = some x → okp x = true) (k : AT l g own cc nL ret R P n (lv.set (i : Nat) (some (.ref x))) st M) : AT l g own cc nL ret R P pc lv (.ref x :: st) M := fun p e s m args below meth c H locs ls C hP hS hl => by
  obtain ⟨hd, rfl⟩ := hd
  exact lv_astore_n C.1 C.2.1 hd rfl hl hn rfl (fun ls2 hl2 => k p e s m args below meth c H locs ls2 C hP hS (lv_more hl2 (lv_keep1 hp)))
theorem A_iinc {i : Nat} {z : Int} {x d : Int32} (hd : di cc pc (.iinc i z) 3 n) (hi : lv[i]? = some (some (.int x))) (hv : Int32.ofInt z = d) (hn : i < nL) (hp : ∀ x, i ≠ 0 → lv[i - 1]? = some x → okp x = true) (k : AT l g own cc nL ret R P n (lv.set i (some (.int (x + d)))) st M) : AT l g own cc nL ret R P pc lv st M := fun p e s m args below meth c H locs ls C hP hS hl => by
  obtain ⟨hd, rfl⟩ := hd
  have hq := lvA_at lv 0 _ _ hi
  rw [Nat.zero_add] at hq
  obtain ⟨k0, hk0⟩ := List.getElem?_of_mem hq
  exact lv_iinc C.1 C.2.1 hd hl hk0 (by rw [hv]) hn rfl (fun ls2 hl2 => k p e s m args below meth c H locs ls2 C hP hS (lv_more hl2 (lv_keep1 hp)))
theorem A_iadd {x y : Int32} (hd : di cc pc (.iadd) 1 n) (k : AT l g own cc nL ret R P n lv (.int (x + y) :: st) M) : AT l g own cc nL ret R P pc lv (.int y :: .int x :: st) M := fun p e s m args below meth c H locs ls C hP hS hl => by
  obtain ⟨hd, rfl⟩ := hd
  exact lv_iadd C.1 C.2.1 hd (k p e s m args below meth c H locs ls C hP hS hl)
theorem A_isub {x y : Int32} (hd : di cc pc (.isub) 1 n) (k : AT l g own cc nL ret R P n lv (.int (x - y) :: st) M) : AT l g own cc nL ret R P pc lv (.int y :: .int x :: st) M := fun p e s m args below meth c H locs ls C hP hS hl => by
  obtain ⟨hd, rfl⟩ := hd
  exact lv_isub C.1 C.2.1 hd (k p e s m args below meth c H locs ls C hP hS hl)
theorem A_imul {x y : Int32} (hd : di cc pc (.imul) 1 n) (k : AT l g own cc nL ret R P n lv (.int (x * y) :: st) M) : AT l g own cc nL ret R P pc lv (.int y :: .int x :: st) M := fun p e s m args below meth c H locs ls C hP hS hl => by
  obtain ⟨hd, rfl⟩ := hd
  exact lv_imul C.1 C.2.1 hd (k p e s m args below meth c H locs ls C hP hS hl)
theorem A_iand {x y : Int32} (hd : di cc pc (.iand) 1 n) (k : AT l g own cc nL ret R P n lv (.int (x &&& y) :: st) M) : AT l g own cc nL ret R P pc lv (.int y :: .int x :: st) M := fun p e s m args below meth c H locs ls C hP hS hl => by
  obtain ⟨hd, rfl⟩ := hd
  exact lv_iand C.1 C.2.1 hd (k p e s m args below meth c H locs ls C hP hS hl)
theorem A_ior {x y : Int32} (hd : di cc pc (.ior) 1 n) (k : AT l g own cc nL ret R P n lv (.int (x ||| y) :: st) M) : AT l g own cc nL ret R P pc lv (.int y :: .int x :: st) M := fun p e s m args below meth c H locs ls C hP hS hl => by
  obtain ⟨hd, rfl⟩ := hd
  exact lv_ior C.1 C.2.1 hd (k p e s m args below meth c H locs ls C hP hS hl)
theorem A_ishl {x y : Int32} (hd : di cc pc (.ishl) 1 n) (k : AT l g own cc nL ret R P n lv (.int (x <<< (y &&& 31)) :: st) M) : AT l g own cc nL ret R P pc lv (.int y :: .int x :: st) M := fun p e s m args below meth c H locs ls C hP hS hl => by
  obtain ⟨hd, rfl⟩ := hd
  exact lv_ishl C.1 C.2.1 hd (k p e s m args below meth c H locs ls C hP hS hl)
theorem A_ishr {x y : Int32} (hd : di cc pc (.ishr) 1 n) (k : AT l g own cc nL ret R P n lv (.int (x >>> (y &&& 31)) :: st) M) : AT l g own cc nL ret R P pc lv (.int y :: .int x :: st) M := fun p e s m args below meth c H locs ls C hP hS hl => by
  obtain ⟨hd, rfl⟩ := hd
  exact lv_ishr C.1 C.2.1 hd (k p e s m args below meth c H locs ls C hP hS hl)
theorem A_idiv {x y : Int32} (hd : di cc pc (.idiv) 1 n) (hne : ¬ y = 0) (k : AT l g own cc nL ret R P n lv (.int (x / y) :: st) M) : AT l g own cc nL ret R P pc lv (.int y :: .int x :: st) M := fun p e s m args below meth c H locs ls C hP hS hl => by
  obtain ⟨hd, rfl⟩ := hd
  exact lv_idiv C.1 C.2.1 hd hne (k p e s m args below meth c H locs ls C hP hS hl)
theorem A_irem {x y : Int32} (hd : di cc pc (.irem) 1 n) (hne : ¬ y = 0) (k : AT l g own cc nL ret R P n lv (.int (x - x / y * y) :: st) M) : AT l g own cc nL ret R P pc lv (.int y :: .int x :: st) M := fun p e s m args below meth c H locs ls C hP hS hl => by
  obtain ⟨hd, rfl⟩ := hd
  exact lv_irem C.1 C.2.1 hd hne (k p e s m args below meth c H locs ls C hP hS hl)
theorem A_ineg {x : Int32} (hd : di cc pc (.ineg) 1 n) (k : AT l g own cc nL ret R P n lv (.int (-x) :: st) M) : AT l g own cc nL ret R P pc lv (.int x :: st) M := fun p e s m args below meth c H locs ls C hP hS hl => by
  obtain ⟨hd, rfl⟩ := hd
  exact lv_ineg C.1 C.2.1 hd (k p e s m args below meth c H locs ls C hP hS hl)
theorem A_ladd {x y : Int64} (hd : di cc pc (.ladd) 1 n) (k : AT l g own cc nL ret R P n lv (.long (x + y) :: st) M) : AT l g own cc nL ret R P pc lv (.long y :: .long x :: st) M := fun p e s m args below meth c H locs ls C hP hS hl => by
  obtain ⟨hd, rfl⟩ := hd
  exact lv_ladd C.1 C.2.1 hd (k p e s m args below meth c H locs ls C hP hS hl)
theorem A_lsub {x y : Int64} (hd : di cc pc (.lsub) 1 n) (k : AT l g own cc nL ret R P n lv (.long (x - y) :: st) M) : AT l g own cc nL ret R P pc lv (.long y :: .long x :: st) M := fun p e s m args below meth c H locs ls C hP hS hl => by
  obtain ⟨hd, rfl⟩ := hd
  exact lv_lsub C.1 C.2.1 hd (k p e s m args below meth c H locs ls C hP hS hl)
theorem A_lmul {x y : Int64} (hd : di cc pc (.lmul) 1 n) (k : AT l g own cc nL ret R P n lv (.long (x * y) :: st) M) : AT l g own cc nL ret R P pc lv (.long y :: .long x :: st) M := fun p e s m args below meth c H locs ls C hP hS hl => by
  obtain ⟨hd, rfl⟩ := hd
  exact lv_lmul C.1 C.2.1 hd (k p e s m args below meth c H locs ls C hP hS hl)
theorem A_ldiv {x y : Int64} (hd : di cc pc (.ldiv) 1 n) (hne : ¬ y = 0) (k : AT l g own cc nL ret R P n lv (.long (x / y) :: st) M) : AT l g own cc nL ret R P pc lv (.long y :: .long x :: st) M := fun p e s m args below meth c H locs ls C hP hS hl => by
  obtain ⟨hd, rfl⟩ := hd
  exact lv_ldiv C.1 C.2.1 hd hne (k p e s m args below meth c H locs ls C hP hS hl)
theorem A_i2l {x : Int32} (hd : di cc pc (.i2l) 1 n) (k : AT l g own cc nL ret R P n lv (.long x.toInt64 :: st) M) : AT l g own cc nL ret R P pc lv (.int x :: st) M := fun p e s m args below meth c H locs ls C hP hS hl => by
  obtain ⟨hd, rfl⟩ := hd
  exact lv_i2l C.1 C.2.1 hd rfl (k p e s m args below meth c H locs ls C hP hS hl)
theorem A_l2i {x : Int64} (hd : di cc pc (.l2i) 1 n) (k : AT l g own cc nL ret R P n lv (.int x.toInt32 :: st) M) : AT l g own cc nL ret R P pc lv (.long x :: st) M := fun p e s m args below meth c H locs ls C hP hS hl => by
  obtain ⟨hd, rfl⟩ := hd
  exact lv_l2i C.1 C.2.1 hd rfl (k p e s m args below meth c H locs ls C hP hS hl)
theorem A_i2c {x : Int32} (hd : di cc pc (.i2c) 1 n) (k : AT l g own cc nL ret R P n lv (.int (x.toUInt32 % 65536).toInt32 :: st) M) : AT l g own cc nL ret R P pc lv (.int x :: st) M := fun p e s m args below meth c H locs ls C hP hS hl => by
  obtain ⟨hd, rfl⟩ := hd
  exact lv_i2c C.1 C.2.1 hd rfl (k p e s m args below meth c H locs ls C hP hS hl)
theorem A_lcmp {x y : Int64} (hd : di cc pc (.lcmp) 1 n) (k : AT l g own cc nL ret R P n lv (.int (lg_cmp x y) :: st) M) : AT l g own cc nL ret R P pc lv (.long y :: .long x :: st) M := fun p e s m args below meth c H locs ls C hP hS hl => by
  obtain ⟨hd, rfl⟩ := hd
  exact W.lcmp C.1 C.2.1 hd (k p e s m args below meth c H locs ls C hP hS hl)
theorem A_dup {v : Value} (hd : di cc pc (.dup) 1 n) (hv : v.category = 1) (k : AT l g own cc nL ret R P n lv (v :: v :: st) M) : AT l g own cc nL ret R P pc lv (v :: st) M := fun p e s m args below meth c H locs ls C hP hS hl => by
  obtain ⟨hd, rfl⟩ := hd
  exact lv_dup C.1 C.2.1 hd hv (k p e s m args below meth c H locs ls C hP hS hl)
theorem A_pop {v : Value} (hd : di cc pc (.pop) 1 n) (hv : v.category = 1) (k : AT l g own cc nL ret R P n lv (st) M) : AT l g own cc nL ret R P pc lv (v :: st) M := fun p e s m args below meth c H locs ls C hP hS hl => by
  obtain ⟨hd, rfl⟩ := hd
  exact lv_pop C.1 C.2.1 hd hv (k p e s m args below meth c H locs ls C hP hS hl)
theorem A_dup2 {v w : Value} (hd : di cc pc (.dup2) 1 n) (hv : v.category = 1) (hw : w.category = 1) (k : AT l g own cc nL ret R P n lv (v :: w :: v :: w :: st) M) : AT l g own cc nL ret R P pc lv (v :: w :: st) M := fun p e s m args below meth c H locs ls C hP hS hl => by
  obtain ⟨hd, rfl⟩ := hd
  exact lv_dup2_11 C.1 C.2.1 hd hv hw (k p e s m args below meth c H locs ls C hP hS hl)
theorem A_ldc {idx : Nat} {v : Int32} (hd : di cc pc (.ldc idx) 2 n) (hw : Cond.constant own idx v ∈ gd) (k : AT l g own cc nL ret R P n lv (.int v :: st) M) : AT l g own cc nL ret R P pc lv (st) M := fun p e s m args below meth c H locs ls C hP hS hl => by
  obtain ⟨hd, rfl⟩ := hd
  exact lv_ldc C.1 C.2.1 C.2.2.2.2.1 (C.2.2.2.2.2.2.1 _ hw) hd (k p e s m args below meth c H locs ls C hP hS hl)
theorem A_ldcw {idx : Nat} {v : Int32} (hd : di cc pc (.ldc_w idx) 3 n) (hw : Cond.constant own idx v ∈ gd) (k : AT l g own cc nL ret R P n lv (.int v :: st) M) : AT l g own cc nL ret R P pc lv (st) M := fun p e s m args below meth c H locs ls C hP hS hl => by
  obtain ⟨hd, rfl⟩ := hd
  exact lv_ldcw C.1 C.2.1 C.2.2.2.2.1 (C.2.2.2.2.2.2.1 _ hw) hd (k p e s m args below meth c H locs ls C hP hS hl)
theorem A_ldc2 {idx : Nat} {v : Int64} (hd : di cc pc (.ldc2_w idx) 3 n) (hw : Cond.constantLong own idx v ∈ gd) (k : AT l g own cc nL ret R P n lv (.long v :: st) M) : AT l g own cc nL ret R P pc lv (st) M := fun p e s m args below meth c H locs ls C hP hS hl => by
  obtain ⟨hd, rfl⟩ := hd
  exact lv_ldc2 C.1 C.2.1 C.2.2.2.2.1 (C.2.2.2.2.2.2.1 _ hw) hd (k p e s m args below meth c H locs ls C hP hS hl)
theorem A_icmp_eq {x y : Int32} {tgt : Nat} (hd : dj cc pc (.if_icmp .eq) n tgt) (kt : x = y → AT l g own cc nL ret R P tgt lv st M) (kf : ¬ x = y → AT l g own cc nL ret R P n lv st M) : AT l g own cc nL ret R P pc lv (.int y :: .int x :: st) M := fun p e s m args below meth c H locs ls C hP hS hl => by
  obtain ⟨off, hd, rfl, ht⟩ := hd
  exact lv_icmp_eq C.1 C.2.1 hd ht (fun h => kt h p e s m args below meth c H locs ls C hP hS hl) (fun h => kf h p e s m args below meth c H locs ls C hP hS hl)
theorem A_icmp_ne {x y : Int32} {tgt : Nat} (hd : dj cc pc (.if_icmp .ne) n tgt) (kt : ¬ x = y → AT l g own cc nL ret R P tgt lv st M) (kf : x = y → AT l g own cc nL ret R P n lv st M) : AT l g own cc nL ret R P pc lv (.int y :: .int x :: st) M := fun p e s m args below meth c H locs ls C hP hS hl => by
  obtain ⟨off, hd, rfl, ht⟩ := hd
  exact lv_icmp_ne C.1 C.2.1 hd ht (fun h => kt h p e s m args below meth c H locs ls C hP hS hl) (fun h => kf h p e s m args below meth c H locs ls C hP hS hl)
theorem A_icmp_lt {x y : Int32} {tgt : Nat} (hd : dj cc pc (.if_icmp .lt) n tgt) (kt : x < y → AT l g own cc nL ret R P tgt lv st M) (kf : ¬ x < y → AT l g own cc nL ret R P n lv st M) : AT l g own cc nL ret R P pc lv (.int y :: .int x :: st) M := fun p e s m args below meth c H locs ls C hP hS hl => by
  obtain ⟨off, hd, rfl, ht⟩ := hd
  exact lv_icmp_lt C.1 C.2.1 hd ht (fun h => kt h p e s m args below meth c H locs ls C hP hS hl) (fun h => kf h p e s m args below meth c H locs ls C hP hS hl)
theorem A_icmp_ge {x y : Int32} {tgt : Nat} (hd : dj cc pc (.if_icmp .ge) n tgt) (kt : y ≤ x → AT l g own cc nL ret R P tgt lv st M) (kf : ¬ y ≤ x → AT l g own cc nL ret R P n lv st M) : AT l g own cc nL ret R P pc lv (.int y :: .int x :: st) M := fun p e s m args below meth c H locs ls C hP hS hl => by
  obtain ⟨off, hd, rfl, ht⟩ := hd
  exact lv_icmp_ge C.1 C.2.1 hd ht (fun h => kt h p e s m args below meth c H locs ls C hP hS hl) (fun h => kf h p e s m args below meth c H locs ls C hP hS hl)
theorem A_icmp_gt {x y : Int32} {tgt : Nat} (hd : dj cc pc (.if_icmp .gt) n tgt) (kt : y < x → AT l g own cc nL ret R P tgt lv st M) (kf : ¬ y < x → AT l g own cc nL ret R P n lv st M) : AT l g own cc nL ret R P pc lv (.int y :: .int x :: st) M := fun p e s m args below meth c H locs ls C hP hS hl => by
  obtain ⟨off, hd, rfl, ht⟩ := hd
  exact lv_icmp_gt C.1 C.2.1 hd ht (fun h => kt h p e s m args below meth c H locs ls C hP hS hl) (fun h => kf h p e s m args below meth c H locs ls C hP hS hl)
theorem A_icmp_le {x y : Int32} {tgt : Nat} (hd : dj cc pc (.if_icmp .le) n tgt) (kt : x ≤ y → AT l g own cc nL ret R P tgt lv st M) (kf : ¬ x ≤ y → AT l g own cc nL ret R P n lv st M) : AT l g own cc nL ret R P pc lv (.int y :: .int x :: st) M := fun p e s m args below meth c H locs ls C hP hS hl => by
  obtain ⟨off, hd, rfl, ht⟩ := hd
  exact lv_icmp_le C.1 C.2.1 hd ht (fun h => kt h p e s m args below meth c H locs ls C hP hS hl) (fun h => kf h p e s m args below meth c H locs ls C hP hS hl)
theorem A_if_eq {x : Int32} {tgt : Nat} (hd : dj cc pc (.ifCond .eq) n tgt) (kt : x = 0 → AT l g own cc nL ret R P tgt lv st M) (kf : ¬ x = 0 → AT l g own cc nL ret R P n lv st M) : AT l g own cc nL ret R P pc lv (.int x :: st) M := fun p e s m args below meth c H locs ls C hP hS hl => by
  obtain ⟨off, hd, rfl, ht⟩ := hd
  exact lv_if_eq C.1 C.2.1 hd ht (fun h => kt h p e s m args below meth c H locs ls C hP hS hl) (fun h => kf h p e s m args below meth c H locs ls C hP hS hl)
theorem A_if_ne {x : Int32} {tgt : Nat} (hd : dj cc pc (.ifCond .ne) n tgt) (kt : ¬ x = 0 → AT l g own cc nL ret R P tgt lv st M) (kf : x = 0 → AT l g own cc nL ret R P n lv st M) : AT l g own cc nL ret R P pc lv (.int x :: st) M := fun p e s m args below meth c H locs ls C hP hS hl => by
  obtain ⟨off, hd, rfl, ht⟩ := hd
  exact lv_if_ne C.1 C.2.1 hd ht (fun h => kt h p e s m args below meth c H locs ls C hP hS hl) (fun h => kf h p e s m args below meth c H locs ls C hP hS hl)
theorem A_if_lt {x : Int32} {tgt : Nat} (hd : dj cc pc (.ifCond .lt) n tgt) (kt : x < 0 → AT l g own cc nL ret R P tgt lv st M) (kf : ¬ x < 0 → AT l g own cc nL ret R P n lv st M) : AT l g own cc nL ret R P pc lv (.int x :: st) M := fun p e s m args below meth c H locs ls C hP hS hl => by
  obtain ⟨off, hd, rfl, ht⟩ := hd
  exact lv_if_lt C.1 C.2.1 hd ht (fun h => kt h p e s m args below meth c H locs ls C hP hS hl) (fun h => kf h p e s m args below meth c H locs ls C hP hS hl)
theorem A_if_ge {x : Int32} {tgt : Nat} (hd : dj cc pc (.ifCond .ge) n tgt) (kt : 0 ≤ x → AT l g own cc nL ret R P tgt lv st M) (kf : ¬ 0 ≤ x → AT l g own cc nL ret R P n lv st M) : AT l g own cc nL ret R P pc lv (.int x :: st) M := fun p e s m args below meth c H locs ls C hP hS hl => by
  obtain ⟨off, hd, rfl, ht⟩ := hd
  exact lv_if_ge C.1 C.2.1 hd ht (fun h => kt h p e s m args below meth c H locs ls C hP hS hl) (fun h => kf h p e s m args below meth c H locs ls C hP hS hl)
theorem A_if_gt {x : Int32} {tgt : Nat} (hd : dj cc pc (.ifCond .gt) n tgt) (kt : 0 < x → AT l g own cc nL ret R P tgt lv st M) (kf : ¬ 0 < x → AT l g own cc nL ret R P n lv st M) : AT l g own cc nL ret R P pc lv (.int x :: st) M := fun p e s m args below meth c H locs ls C hP hS hl => by
  obtain ⟨off, hd, rfl, ht⟩ := hd
  exact lv_if_gt C.1 C.2.1 hd ht (fun h => kt h p e s m args below meth c H locs ls C hP hS hl) (fun h => kf h p e s m args below meth c H locs ls C hP hS hl)
theorem A_if_le {x : Int32} {tgt : Nat} (hd : dj cc pc (.ifCond .le) n tgt) (kt : x ≤ 0 → AT l g own cc nL ret R P tgt lv st M) (kf : ¬ x ≤ 0 → AT l g own cc nL ret R P n lv st M) : AT l g own cc nL ret R P pc lv (.int x :: st) M := fun p e s m args below meth c H locs ls C hP hS hl => by
  obtain ⟨off, hd, rfl, ht⟩ := hd
  exact lv_if_le C.1 C.2.1 hd ht (fun h => kt h p e s m args below meth c H locs ls C hP hS hl) (fun h => kf h p e s m args below meth c H locs ls C hP hS hl)
theorem A_goto {tgt : Nat} (hd : dj cc pc .goto n tgt) (k : AT l g own cc nL ret R P tgt lv st M) : AT l g own cc nL ret R P pc lv st M := fun p e s m args below meth c H locs ls C hP hS hl => by
  obtain ⟨off, hd, rfl, ht⟩ := hd
  exact lv_goto C.1 C.2.1 hd ht (k p e s m args below meth c H locs ls C hP hS hl)
theorem A_le {lv' : List (Option Value)} (h : lvLe lv' lv) (k : AT l g own cc nL ret R P pc lv' st M) : AT l g own cc nL ret R P pc lv st M := fun p e s m args below meth c H locs ls C hP hS hl => k p e s m args below meth c H locs ls C hP hS (lv_more hl (lvA_le _ _ 0 h))
def dts (cc : ByteArray) (pc : Nat) (lo hi : Int) (dfl : Nat) (tg : List Nat) : Prop := ∃ (d : Int) (offs : Array Int) (len : Nat), decode cc pc = .ok (.tableswitch d lo hi offs, len) ∧ (pc : Int) + d = (dfl : Int) ∧ offs.toList.map (fun z => (pc : Int) + z) = tg.map (fun t : Nat => (t : Int))
theorem A_tsIn {x : Int32} {lo hi : Int} {dfl tgt k0 : Nat} {tg : List Nat} (hd : dts cc pc lo hi dfl tg) (hx : ¬ x.toInt < lo ∧ ¬ hi < x.toInt ∧ (x.toInt - lo).toNat = k0) (ht : tg[k0]? = some tgt) (k : AT l g own cc nL ret R P tgt lv st M) : AT l g own cc nL ret R P pc lv (.int x :: st) M := fun p e s m args below meth c H locs ls C hP hS hl => by
  obtain ⟨d, offs, len, hd, h0, h1⟩ := hd
  have h2 : (offs.toList.map (fun z => (pc : Int) + z))[k0]? = some (tgt : Int) := by rw [h1, List.getElem?_map, ht]; rfl
  rw [List.getElem?_map] at h2
  cases ho : offs.toList[k0]? with
  | none => rw [ho] at h2; cases h2
  | some off =>
    rw [ho] at h2
    exact lv_tableIn C.1 C.2.1 hd hx.1 hx.2.1 (by rw [hx.2.2, ← Array.getElem?_toList]; exact ho) (Option.some.inj h2) (k p e s m args below meth c H locs ls C hP hS hl)
theorem A_tsOut {x : Int32} {lo hi : Int} {dfl : Nat} {tg : List Nat} (hd : dts cc pc lo hi dfl tg) (hx : x.toInt < lo ∨ hi < x.toInt) (k : AT l g own cc nL ret R P dfl lv st M) : AT l g own cc nL ret R P pc lv (.int x :: st) M := fun p e s m args below meth c H locs ls C hP hS hl => by
  obtain ⟨d, offs, len, hd, h0, h1⟩ := hd
  exact lv_tableOut C.1 C.2.1 hd hx h0 (k p e s m args below meth c H locs ls C hP hS hl)
theorem tsw_out {x : Int32} {lo hi : Int} (h : ∀ k : Int, lo ≤ k → k ≤ hi → ¬ x = Int32.ofInt k) : x.toInt < lo ∨ hi < x.toInt := by
  rcases Int.lt_or_le x.toInt lo with h1 | h1
  · exact Or.inl h1
  · rcases Int.lt_or_le hi x.toInt with h2 | h2
    · exact Or.inr h2
    · exact absurd (Int32.ofInt_toInt x).symm (h x.toInt h1 h2)
theorem A_getf {idx ci j q : Nat} {fs : Cx → Mem → List Value} {v : Value} (hd : di cc pc (.getfield idx) 3 n) (hf : FW own idx ci j) (hq : OB q ci fs) (hv : (fs g M)[j]? = some v) (k : AT l g own cc nL ret R P n lv (v :: st) M) : AT l g own cc nL ret R P pc lv (.ref (g.1 q) :: st) M := fun p e s m args below meth c H locs ls C hP hS hl => by
  obtain ⟨hd, rfl⟩ := hd
  obtain ⟨CC, T, N, h1, h2, h3, h4⟩ := hf
  exact va_get (D := g.2.1) (cl := cls) C.1 C.2.1 C.2.2.2.2.2.2.1 h4 C.2.2.2.2.1 C.2.2.2.2.2.2.2.1 hP q (hq g M) h1 j h2 (C.2.2.2.2.2.2.1 _ h3) (fun _ h => h) hv hd (k p e s m args below meth c H locs ls C hP hS hl)
theorem A_putf {idx ci j q : Nat} {fs : Cx → Mem → List Value} {x : Int32} (hd : di cc pc (.putfield idx) 3 n) (hf : PW own idx ci j) (hq : OB q ci fs) (hs : PF q ci j fs) (hj : j < (fs g M).length) (k : AT l g own cc nL ret R P n lv st (up2 M q j x)) : AT l g own cc nL ret R P pc lv (.int x :: .ref (g.1 q) :: st) M := fun p e s m args below meth c H locs ls C hP hS hl => by
  obtain ⟨hd, rfl⟩ := hd
  obtain ⟨CC, T, N, ty0, h1, h2, h3, h4, h5, h6, h7, h8⟩ := hf
  refine va_put (D := g.2.1) (cl := cls) (ty := .int) C.1 C.2.1 C.2.2.2.2.2.2.1 h4 ty0 h5 h6 C.2.2.2.2.1 C.2.2.2.2.2.2.2.1 hP (wl_D C.2.2.2.2.2.2.2.2.1 M) hS q (hq g M) h1 j h2 (C.2.2.2.2.2.2.1 _ h3) (fun _ h => h) h7 h8 rfl rfl hj hd (fun H1 locs1 hP1 hD1 hS1 => ?_)
  rw [hs g M x] at hP1
  exact k p e s m args below meth c H1 locs1 ls C hP1 hS1 hl
theorem A_iald {q N : Nat} {i : Int32} (hd : di cc pc .iaload 1 n) (hq : IA q N) (hi : vp_in i N) (k : AT l g own cc nL ret R P n lv (.int (M.1 q i.toNatClampNeg) :: st) M) : AT l g own cc nL ret R P pc lv (.int i :: .ref (g.1 q) :: st) M := fun p e s m args below meth c H locs ls C hP hS hl => by
  obtain ⟨hd, rfl⟩ := hd
  exact va_iald C.1 C.2.1 C.2.2.2.2.2.2.2.1 hP q 0 (hq.1 g M) rfl hi hd (k p e s m args below meth c H locs ls C hP hS hl)
theorem A_zald {q N : Nat} {i : Int32} (hd : di cc pc .baload 1 n) (hq : ZA q N) (hi : vp_in i N) (k : AT l g own cc nL ret R P n lv (.int (M.1 q i.toNatClampNeg) :: st) M) : AT l g own cc nL ret R P pc lv (.int i :: .ref (g.1 q) :: st) M := fun p e s m args below meth c H locs ls C hP hS hl => by
  obtain ⟨hd, rfl⟩ := hd
  exact va_zald C.1 C.2.1 C.2.2.2.2.2.2.2.1 hP q 1 (hq.1 g M) rfl hi hd (k p e s m args below meth c H locs ls C hP hS hl)
theorem A_lald {q N : Nat} {i : Int32} (hd : di cc pc .laload 1 n) (hq : LA q N) (hi : vp_in i N) (k : AT l g own cc nL ret R P n lv (.long (M.2 i.toNatClampNeg) :: st) M) : AT l g own cc nL ret R P pc lv (.int i :: .ref (g.1 q) :: st) M := fun p e s m args below meth c H locs ls C hP hS hl => by
  obtain ⟨hd, rfl⟩ := hd
  exact va_lald C.1 C.2.1 C.2.2.2.2.2.2.2.1 hP q 2 (hq.1 g M) rfl hi hd (k p e s m args below meth c H locs ls C hP hS hl)
theorem A_iast {q N : Nat} {i x : Int32} (hd : di cc pc .iastore 1 n) (hq : IA q N) (hi : vp_in i N) (k : AT l g own cc nL ret R P n lv st (up2 M q i.toNatClampNeg x)) : AT l g own cc nL ret R P pc lv (.int x :: .int i :: .ref (g.1 q) :: st) M := fun p e s m args below meth c H locs ls C hP hS hl => by
  obtain ⟨hd, rfl⟩ := hd
  refine va_iast C.1 C.2.1 C.2.2.2.2.2.2.2.1 hP (wl_D C.2.2.2.2.2.2.2.2.1 M) hS q 0 (hq.1 g M) rfl hi hd (fun H1 locs1 hP1 hD1 hS1 => ?_)
  rw [hq.2 g M] at hP1
  exact k p e s m args below meth c H1 locs1 ls C hP1 hS1 hl
theorem A_zast {q N : Nat} {i x : Int32} (hd : di cc pc .bastore 1 n) (hq : ZA q N) (hi : vp_in i N) (k : AT l g own cc nL ret R P n lv st (up2 M q i.toNatClampNeg (x &&& 1))) : AT l g own cc nL ret R P pc lv (.int x :: .int i :: .ref (g.1 q) :: st) M := fun p e s m args below meth c H locs ls C hP hS hl => by
  obtain ⟨hd, rfl⟩ := hd
  refine va_zast C.1 C.2.1 C.2.2.2.2.2.2.2.1 hP (wl_D C.2.2.2.2.2.2.2.2.1 M) hS q 1 (hq.1 g M) rfl hi hd (fun H1 locs1 hP1 hD1 hS1 => ?_)
  rw [hq.2 g M] at hP1
  exact k p e s m args below meth c H1 locs1 ls C hP1 hS1 hl
theorem A_last {q N : Nat} {i : Int32} {x : Int64} (hd : di cc pc .lastore 1 n) (hq : LA q N) (hi : vp_in i N) (k : AT l g own cc nL ret R P n lv st (upL M i.toNatClampNeg x)) : AT l g own cc nL ret R P pc lv (.long x :: .int i :: .ref (g.1 q) :: st) M := fun p e s m args below meth c H locs ls C hP hS hl => by
  obtain ⟨hd, rfl⟩ := hd
  refine va_last C.1 C.2.1 C.2.2.2.2.2.2.2.1 hP (wl_D C.2.2.2.2.2.2.2.2.1 M) hS q 2 (hq.1 g M) rfl hi hd (fun H1 locs1 hP1 hD1 hS1 => ?_)
  rw [hq.2 g M] at hP1
  exact k p e s m args below meth c H1 locs1 ls C hP1 hS1 hl
theorem A_alen {q N : Nat} {v : Int32} (hd : di cc pc .arraylength 1 n) (hq : IA q N) (hv : Int32.ofNat N = v) (k : AT l g own cc nL ret R P n lv (.int v :: st) M) : AT l g own cc nL ret R P pc lv (.ref (g.1 q) :: st) M := fun p e s m args below meth c H locs ls C hP hS hl => by
  obtain ⟨hd, rfl⟩ := hd
  exact va_alen C.1 C.2.1 C.2.2.2.2.2.2.2.1 hP q 0 (hq.1 g M) (ty := .int) rfl hv hd (k p e s m args below meth c H locs ls C hP hS hl)
theorem A_alenL {q N : Nat} {v : Int32} (hd : di cc pc .arraylength 1 n) (hq : LA q N) (hv : Int32.ofNat N = v) (k : AT l g own cc nL ret R P n lv (.int v :: st) M) : AT l g own cc nL ret R P pc lv (.ref (g.1 q) :: st) M := fun p e s m args below meth c H locs ls C hP hS hl => by
  obtain ⟨hd, rfl⟩ := hd
  exact va_alen C.1 C.2.1 C.2.2.2.2.2.2.2.1 hP q 2 (hq.1 g M) (ty := .long) rfl hv hd (k p e s m args below meth c H locs ls C hP hS hl)
/-- a row of the table of ways -/
theorem A_aald {i : Int32} (hd : di cc pc .aaload 1 n) (hi : vp_in i 15) (k : AT l g own cc nL ret R P n lv (.ref (g.1 (51 + i.toNatClampNeg)) :: st) M) : AT l g own cc nL ret R P pc lv (.int i :: .ref (g.1 50) :: st) M := fun p e s m args below meth c H locs ls C hP hS hl => by
  obtain ⟨hd, rfl⟩ := hd
  have hlt : i.toNatClampNeg < 15 := Nat.not_le.mp fun q => hi (Or.inr q)
  have hK := C.2.2.2.2.2.2.2.1
  have hv : va_rf ((fun i => if i < 15 then some (g.1 (51 + i)) else none) i.toNatClampNeg) = .ref (g.1 (51 + i.toNatClampNeg)) := by
    show va_rf (if i.toNatClampNeg < 15 then some (g.1 (51 + i.toNatClampNeg)) else none) = _
    rw [if_pos hlt]; rfl
  have hk := k p e s m args below meth c H locs ls C hP hS hl
  rw [← hv] at hk
  exact W.aald (v := va_rf ((fun i => if i < 15 then some (g.1 (51 + i)) else none) i.toNatClampNeg)) (ty := .array .int) C.1 C.2.1 (hP 50 _ (waW g M)) ((hK.2 3 _ rfl).1 15 (fun j => va_rf ((fun i => if i < 15 then some (g.1 (51 + i)) else none) j))) rfl (fun q => by cases q) (by show ¬ (i < 0 ∨ (arrV _ _ _).slots.size ≤ _); rw [arrV_size]; exact hi) (by show (arrV _ _ _).slots[_]? = _; rw [arrV_read _ _ hlt]) rfl rfl hd hk
/-- a static that nobody writes -/
theorem A_gets {idx : Nat} {Cn nm d : String} {v : Value} (hd : di cc pc (.getstatic idx) 3 n) (hw : Cond.fieldLink own idx Cn nm d ∈ gd) (hz : ∀ (A : Nat → Prop) (U : State) (H : Heap), ST g A U H → va_Z Cn nm d v A U H) (k : AT l g own cc nL ret R P n lv (v :: st) M) : AT l g own cc nL ret R P pc lv st M := fun p e s m args below meth c H locs ls C hP hS hl => by
  obtain ⟨hd, rfl⟩ := hd
  exact va_gets C.1 C.2.1 (hz _ _ _ C.2.2.2.2.2.2.2.2.2) hS C.2.2.2.2.1 (C.2.2.2.2.2.2.1 _ hw) (fun _ h => h) hd (k p e s m args below meth c H locs ls C hP hS hl)
theorem A_tald {t N : Nat} {f : Nat → Int32} {i : Int32} (hd : di cc pc .iaload 1 n) (hz : ∀ (A : Nat → Prop) (U : State) (H : Heap), ST g A U H → va_T .int t N (fun j => .int (f j)) A U H) (hi : vp_in i N) (k : AT l g own cc nL ret R P n lv (.int (f i.toNatClampNeg) :: st) M) : AT l g own cc nL ret R P pc lv (.int i :: .ref t :: st) M := fun p e s m args below meth c H locs ls C hP hS hl => by
  obtain ⟨hd, rfl⟩ := hd
  exact va_ti C.1 C.2.1 (hz _ _ _ C.2.2.2.2.2.2.2.2.2) hS hi rfl hd (k p e s m args below meth c H locs ls C hP hS hl)
theorem A_tlen {t N : Nat} {f : Nat → Int32} {v : Int32} (hd : di cc pc .arraylength 1 n) (hz : ∀ (A : Nat → Prop) (U : State) (H : Heap), ST g A U H → va_T .int t N (fun j => .int (f j)) A U H) (hv : Int32.ofNat N = v) (k : AT l g own cc nL ret R P n lv (.int v :: st) M) : AT l g own cc nL ret R P pc lv (.ref t :: st) M := fun p e s m args below meth c H locs ls C hP hS hl => by
  obtain ⟨hd, rfl⟩ := hd
  exact va_tlen C.1 C.2.1 (hz _ _ _ C.2.2.2.2.2.2.2.2.2) hS hv hd (k p e s m args below meth c H locs ls C hP hS hl)
theorem A_iret {v : Int32} (hd : di cc pc .ireturn 1 n) (h : P (some (.int v)) M) : AT l g own cc nL (some .int) R P pc lv [.int v] M := fun p e s m args below meth c H locs ls C hP hS hl => by
  obtain ⟨hd, rfl⟩ := hd
  exact W.iret C.1 C.2.1 C.2.2.1 (fun t ht hW => ⟨⟨_, M, rfl, h, by rw [ht]; exact hP⟩, hS.F ht⟩) hS.2.2 hd (hlocks := C.2.2.2.2.2.1)
theorem A_zret {v : Int32} (hd : di cc pc .ireturn 1 n) (hv : v &&& 1 = v) (h : P (some (.int v)) M) : AT l g own cc nL (some .boolean) R P pc lv [.int v] M := fun p e s m args below meth c H locs ls C hP hS hl => by
  obtain ⟨hd, rfl⟩ := hd
  exact W.zret C.1 C.2.1 C.2.2.1 (by show Value.int (v &&& 1) = _; rw [hv]) (fun t ht hW => ⟨⟨_, M, rfl, h, by rw [ht]; exact hP⟩, hS.F ht⟩) hS.2.2 hd (hlocks := C.2.2.2.2.2.1)
theorem A_cret {v : Int32} {ty : FieldType} (hd : di cc pc .ireturn 1 n) (hv : narrow ty (.int v) = .int v) (h : P (some (.int v)) M) : AT l g own cc nL (some ty) R P pc lv [.int v] M := fun p e s m args below meth c H locs ls C hP hS hl => by
  obtain ⟨hd, rfl⟩ := hd
  exact W.zret C.1 C.2.1 C.2.2.1 hv (fun t ht hW => ⟨⟨_, M, rfl, h, by rw [ht]; exact hP⟩, hS.F ht⟩) hS.2.2 hd (hlocks := C.2.2.2.2.2.1)
theorem A_vret (hd : di cc pc .return_ 1 n) (h : P none M) : AT l g own cc nL (none) R P pc lv [] M := fun p e s m args below meth c H locs ls C hP hS hl => by
  obtain ⟨hd, rfl⟩ := hd
  exact W.vret C.1 C.2.1 C.2.2.1 (fun t ht hW => ⟨⟨_, M, rfl, h, by rw [ht]; exact hP⟩, hS.F ht⟩) hS.2.2 hd (hlocks := C.2.2.2.2.2.1)
theorem A_aret {x : Nat} {nm : String} (hd : di cc pc .areturn 1 n) (h : P (some (.ref x)) M) : AT l g own cc nL (some (.object nm)) R P pc lv [.ref x] M := fun p e s m args below meth c H locs ls C hP hS hl => by
  obtain ⟨hd, rfl⟩ := hd
  exact W.aret C.1 C.2.1 C.2.2.1 (Or.inl ⟨_, rfl⟩) (Or.inr ⟨_, rfl⟩) (fun t ht hW => ⟨⟨_, M, rfl, h, by rw [ht]; exact hP⟩, hS.F ht⟩) hS.2.2 hd (hlocks := C.2.2.2.2.2.1)
end ROWS
section STO
variable {l : Launch} {g : Cx} {own : String} {cc : ByteArray} {nL : Nat} {ret : Option FieldType} {R : Room} {P : Option Value → Mem → Prop} {pc n : Nat} {lv : List (Option Value)} {st : List Value} {M : Mem}
theorem A_istore0 {a0 : Option Value} {t : List (Option Value)} {x : Int32} (hd : di cc pc (.istore 0) 2 n) (hn : 0 < nL) (k : AT l g own cc nL ret R P n (some (.int x) :: t) st M) : AT l g own cc nL ret R P pc (a0 :: t) (.int x :: st) M := A_istore hd hn (fun x h0 _ => absurd rfl h0) k
theorem A_istoren0 {a0 : Option Value} {t : List (Option Value)} {x : Int32} (hd : di cc pc (.istore_n 0) 1 n) (hn : 0 < nL) (k : AT l g own cc nL ret R P n (some (.int x) :: t) st M) : AT l g own cc nL ret R P pc (a0 :: t) (.int x :: st) M := A_istore_n hd hn (fun x h0 _ => absurd rfl h0) k
theorem A_astoren0 {a0 : Option Value} {t : List (Option Value)} {x : Nat} (hd : di cc pc (.astore_n 0) 1 n) (hn : 0 < nL) (k : AT l g own cc nL ret R P n (some (.ref x) :: t) st M) : AT l g own cc nL ret R P pc (a0 :: t) (.ref x :: st) M := A_astore_n hd hn (fun x h0 _ => absurd rfl h0) k
theorem A_iinc0 {t : List (Option Value)} {z : Int} {x d : Int32} (hd : di cc pc (.iinc 0 z) 3 n) (hv : Int32.ofInt z = d) (hn : 0 < nL) (k : AT l g own cc nL ret R P n (some (.int (x + d)) :: t) st M) : AT l g own cc nL ret R P pc (some (.int x) :: t) st M := A_iinc hd rfl hv hn (fun x h0 _ => absurd rfl h0) k
theorem A_lstore0 {a0 b : Option Value} {t : List (Option Value)} {x : Int64} (hd : di cc pc (.lstore 0) 2 n) (hn : 0 + 1 < nL) (k : AT l g own cc nL ret R P n (some (.long x) :: none :: t) st M) : AT l g own cc nL ret R P pc (a0 :: b :: t) (.long x :: st) M := A_lstore hd hn (fun x h0 _ => absurd rfl h0) k
theorem A_lstoren0 {a0 b : Option Value} {t : List (Option Value)} {x : Int64} (hd : di cc pc (.lstore_n 0) 1 n) (hn : 0 + 1 < nL) (k : AT l g own cc nL ret R P n (some (.long x) :: none :: t) st M) : AT l g own cc nL ret R P pc (a0 :: b :: t) (.long x :: st) M := A_lstore_n hd hn (fun x h0 _ => absurd rfl h0) k
theorem A_istore1 {a0 a1 : Option Value} {t : List (Option Value)} {x : Int32} (hd : di cc pc (.istore 1) 2 n) (hn : 1 < nL) (hp : okp a0 = true) (k : AT l g own cc nL ret R P n (a0 :: some (.int x) :: t) st M) : AT l g own cc nL ret R P pc (a0 :: a1 :: t) (.int x :: st) M := A_istore hd hn (fun x _ h => (Option.some.inj h : a0 = x) ▸ hp) k
theorem A_istoren1 {a0 a1 : Option Value} {t : List (Option Value)} {x : Int32} (hd : di cc pc (.istore_n 1) 1 n) (hn : 1 < nL) (hp : okp a0 = true) (k : AT l g own cc nL ret R P n (a0 :: some (.int x) :: t) st M) : AT l g own cc nL ret R P pc (a0 :: a1 :: t) (.int x :: st) M := A_istore_n hd hn (fun x _ h => (Option.some.inj h : a0 = x) ▸ hp) k
theorem A_astoren1 {a0 a1 : Option Value} {t : List (Option Value)} {x : Nat} (hd : di cc pc (.astore_n 1) 1 n) (hn : 1 < nL) (hp : okp a0 = true) (k : AT l g own cc nL ret R P n (a0 :: some (.ref x) :: t) st M) : AT l g own cc nL ret R P pc (a0 :: a1 :: t) (.ref x :: st) M := A_astore_n hd hn (fun x _ h => (Option.some.inj h : a0 = x) ▸ hp) k
theorem A_iinc1 {a0 : Option Value} {t : List (Option Value)} {z : Int} {x d : Int32} (hd : di cc pc (.iinc 1 z) 3 n) (hv : Int32.ofInt z = d) (hn : 1 < nL) (hp : okp a0 = true) (k : AT l g own cc nL ret R P n (a0 :: some (.int (x + d)) :: t) st M) : AT l g own cc nL ret R P pc (a0 :: some (.int x) :: t) st M := A_iinc hd rfl hv hn (fun x _ h => (Option.some.inj h : a0 = x) ▸ hp) k
theorem A_lstore1 {a0 a1 b : Option Value} {t : List (Option Value)} {x : Int64} (hd : di cc pc (.lstore 1) 2 n) (hn : 1 + 1 < nL) (hp : okp a0 = true) (k : AT l g own cc nL ret R P n (a0 :: some (.long x) :: none :: t) st M) : AT l g own cc nL ret R P pc (a0 :: a1 :: b :: t) (.long x :: st) M := A_lstore hd hn (fun x _ h => (Option.some.inj h : a0 = x) ▸ hp) k
theorem A_lstoren1 {a0 a1 b : Option Value} {t : List (Option Value)} {x : Int64} (hd : di cc pc (.lstore_n 1) 1 n) (hn : 1 + 1 < nL) (hp : okp a0 = true) (k : AT l g own cc nL ret R P n (a0 :: some (.long x) :: none :: t) st M) : AT l g own cc nL ret R P pc (a0 :: a1 :: b :: t) (.long x :: st) M := A_lstore_n hd hn (fun x _ h => (Option.some.inj h : a0 = x) ▸ hp) k
theorem A_istore2 {a0 a1 a2 : Option Value} {t : List (Option Value)} {x : Int32} (hd : di cc pc (.istore 2) 2 n) (hn : 2 < nL) (hp : okp a1 = true) (k : AT l g own cc nL ret R P n (a0 :: a1 :: some (.int x) :: t) st M) : AT l g own cc nL ret R P pc (a0 :: a1 :: a2 :: t) (.int x :: st) M := A_istore hd hn (fun x _ h => (Option.some.inj h : a1 = x) ▸ hp) k
theorem A_istoren2 {a0 a1 a2 : Option Value} {t : List (Option Value)} {x : Int32} (hd : di cc pc (.istore_n 2) 1 n) (hn : 2 < nL) (hp : okp a1 = true) (k : AT l g own cc nL ret R P n (a0 :: a1 :: some (.int x) :: t) st M) : AT l g own cc nL ret R P pc (a0 :: a1 :: a2 :: t) (.int x :: st) M := A_istore_n hd hn (fun x _ h => (Option.some.inj h : a1 = x) ▸ hp) k
theorem A_astoren2 {a0 a1 a2 : Option Value} {t : List (Option Value)} {x : Nat} (hd : di cc pc (.astore_n 2) 1 n) (hn : 2 < nL) (hp : okp a1 = true) (k : AT l g own cc nL ret R P n (a0 :: a1 :: some (.ref x) :: t) st M) : AT l g own cc nL ret R P pc (a0 :: a1 :: a2 :: t) (.ref x :: st) M := A_astore_n hd hn (fun x _ h => (Option.some.inj h : a1 = x) ▸ hp) k
theorem A_iinc2 {a0 a1 : Option Value} {t : List (Option Value)} {z : Int} {x d : Int32} (hd : di cc pc (.iinc 2 z) 3 n) (hv : Int32.ofInt z = d) (hn : 2 < nL) (hp : okp a1 = true) (k : AT l g own cc nL ret R P n (a0 :: a1 :: some (.int (x + d)) :: t) st M) : AT l g own cc nL ret R P pc (a0 :: a1 :: some (.int x) :: t) st M := A_iinc hd rfl hv hn (fun x _ h => (Option.some.inj h : a1 = x) ▸ hp) k
theorem A_lstore2 {a0 a1 a2 b : Option Value} {t : List (Option Value)} {x : Int64} (hd : di cc pc (.lstore 2) 2 n) (hn : 2 + 1 < nL) (hp : okp a1 = true) (k : AT l g own cc nL ret R P n (a0 :: a1 :: some (.long x) :: none :: t) st M) : AT l g own cc nL ret R P pc (a0 :: a1 :: a2 :: b :: t) (.long x :: st) M := A_lstore hd hn (fun x _ h => (Option.some.inj h : a1 = x) ▸ hp) k
theorem A_lstoren2 {a0 a1 a2 b : Option Value} {t : List (Option Value)} {x : Int64} (hd : di cc pc (.lstore_n 2) 1 n) (hn : 2 + 1 < nL) (hp : okp a1 = true) (k : AT l g own cc nL ret R P n (a0 :: a1 :: some (.long x) :: none :: t) st M) : AT l g own cc nL ret R P pc (a0 :: a1 :: a2 :: b :: t) (.long x :: st) M := A_lstore_n hd hn (fun x _ h => (Option.some.inj h : a1 = x) ▸ hp) k
theorem A_istore3 {a0 a1 a2 a3 : Option Value} {t : List (Option Value)} {x : Int32} (hd : di cc pc (.istore 3) 2 n) (hn : 3 < nL) (hp : okp a2 = true) (k : AT l g own cc nL ret R P n (a0 :: a1 :: a2 :: some (.int x) :: t) st M) : AT l g own cc nL ret R P pc (a0 :: a1 :: a2 :: a3 :: t) (.int x :: st) M := A_istore hd hn (fun x _ h => (Option.some.inj h : a2 = x) ▸ hp) k
theorem A_istoren3 {a0 a1 a2 a3 : Option Value} {t : List (Option Value)} {x : Int32} (hd : di cc pc (.istore_n 3) 1 n) (hn : 3 < nL) (hp : okp a2 = true) (k : AT l g own cc nL ret R P n (a0 :: a1 :: a2 :: some (.int x) :: t) st M) : AT l g own cc nL ret R P pc (a0 :: a1 :: a2 :: a3 :: t) (.int x :: st) M := A_istore_n hd hn (fun x _ h => (Option.some.inj h : a2 = x) ▸ hp) k
theorem A_astoren3 {a0 a1 a2 a3 : Option Value} {t : List (Option Value)} {x : Nat} (hd : di cc pc (.astore_n 3) 1 n) (hn : 3 < nL) (hp : okp a2 = true) (k : AT l g own cc nL ret R P n (a0 :: a1 :: a2 :: some (.ref x) :: t) st M) : AT l g own cc nL ret R P pc (a0 :: a1 :: a2 :: a3 :: t) (.ref x :: st) M := A_astore_n hd hn (fun x _ h => (Option.some.inj h : a2 = x) ▸ hp) k
theorem A_iinc3 {a0 a1 a2 : Option Value} {t : List (Option Value)} {z : Int} {x d : Int32} (hd : di cc pc (.iinc 3 z) 3 n) (hv : Int32.ofInt z = d) (hn : 3 < nL) (hp : okp a2 = true) (k : AT l g own cc nL ret R P n (a0 :: a1 :: a2 :: some (.int (x + d)) :: t) st M) : AT l g own cc nL ret R P pc (a0 :: a1 :: a2 :: some (.int x) :: t) st M := A_iinc hd rfl hv hn (fun x _ h => (Option.some.inj h : a2 = x) ▸ hp) k
theorem A_lstore3 {a0 a1 a2 a3 b : Option Value} {t : List (Option Value)} {x : Int64} (hd : di cc pc (.lstore 3) 2 n) (hn : 3 + 1 < nL) (hp : okp a2 = true) (k : AT l g own cc nL ret R P n (a0 :: a1 :: a2 :: some (.long x) :: none :: t) st M) : AT l g own cc nL ret R P pc (a0 :: a1 :: a2 :: a3 :: b :: t) (.long x :: st) M := A_lstore hd hn (fun x _ h => (Option.some.inj h : a2 = x) ▸ hp) k
theorem A_lstoren3 {a0 a1 a2 a3 b : Option Value} {t : List (Option Value)} {x : Int64} (hd : di cc pc (.lstore_n 3) 1 n) (hn : 3 + 1 < nL) (hp : okp a2 = true) (k : AT l g own cc nL ret R P n (a0 :: a1 :: a2 :: some (.long x) :: none :: t) st M) : AT l g own cc nL ret R P pc (a0 :: a1 :: a2 :: a3 :: b :: t) (.long x :: st) M := A_lstore_n hd hn (fun x _ h => (Option.some.inj h : a2 = x) ▸ hp) k
theorem A_istore4 {a0 a1 a2 a3 a4 : Option Value} {t : List (Option Value)} {x : Int32} (hd : di cc pc (.istore 4) 2 n) (hn : 4 < nL) (hp : okp a3 = true) (k : AT l g own cc nL ret R P n (a0 :: a1 :: a2 :: a3 :: some (.int x) :: t) st M) : AT l g own cc nL ret R P pc (a0 :: a1 :: a2 :: a3 :: a4 :: t) (.int x :: st) M := A_istore hd hn (fun x _ h => (Option.some.inj h : a3 = x) ▸ hp) k
theorem A_iinc4 {a0 a1 a2 a3 : Option Value} {t : List (Option Value)} {z : Int} {x d : Int32} (hd : di cc pc (.iinc 4 z) 3 n) (hv : Int32.ofInt z = d) (hn : 4 < nL) (hp : okp a3 = true) (k : AT l g own cc nL ret R P n (a0 :: a1 :: a2 :: a3 :: some (.int (x + d)) :: t) st M) : AT l g own cc nL ret R P pc (a0 :: a1 :: a2 :: a3 :: some (.int x) :: t) st M := A_iinc hd rfl hv hn (fun x _ h => (Option.some.inj h : a3 = x) ▸ hp) k
theorem A_lstore4 {a0 a1 a2 a3 a4 b : Option Value} {t : List (Option Value)} {x : Int64} (hd : di cc pc (.lstore 4) 2 n) (hn : 4 + 1 < nL) (hp : okp a3 = true) (k : AT l g own cc nL ret R P n (a0 :: a1 :: a2 :: a3 :: some (.long x) :: none :: t) st M) : AT l g own cc nL ret R P pc (a0 :: a1 :: a2 :: a3 :: a4 :: b :: t) (.long x :: st) M := A_lstore hd hn (fun x _ h => (Option.some.inj h : a3 = x) ▸ hp) k
theorem A_istore5 {a0 a1 a2 a3 a4 a5 : Option Value} {t : List (Option Value)} {x : Int32} (hd : di cc pc (.istore 5) 2 n) (hn : 5 < nL) (hp : okp a4 = true) (k : AT l g own cc nL ret R P n (a0 :: a1 :: a2 :: a3 :: a4 :: some (.int x) :: t) st M) : AT l g own cc nL ret R P pc (a0 :: a1 :: a2 :: a3 :: a4 :: a5 :: t) (.int x :: st) M := A_istore hd hn (fun x _ h => (Option.some.inj h : a4 = x) ▸ hp) k
theorem A_iinc5 {a0 a1 a2 a3 a4 : Option Value} {t : List (Option Value)} {z : Int} {x d : Int32} (hd : di cc pc (.iinc 5 z) 3 n) (hv : Int32.ofInt z = d) (hn : 5 < nL) (hp : okp a4 = true) (k : AT l g own cc nL ret R P n (a0 :: a1 :: a2 :: a3 :: a4 :: some (.int (x + d)) :: t) st M) : AT l g own cc nL ret R P pc (a0 :: a1 :: a2 :: a3 :: a4 :: some (.int x) :: t) st M := A_iinc hd rfl hv hn (fun x _ h => (Option.some.inj h : a4 = x) ▸ hp) k
theorem A_lstore5 {a0 a1 a2 a3 a4 a5 b : Option Value} {t : List (Option Value)} {x : Int64} (hd : di cc pc (.lstore 5) 2 n) (hn : 5 + 1 < nL) (hp : okp a4 = true) (k : AT l g own cc nL ret R P n (a0 :: a1 :: a2 :: a3 :: a4 :: some (.long x) :: none :: t) st M) : AT l g own cc nL ret R P pc (a0 :: a1 :: a2 :: a3 :: a4 :: a5 :: b :: t) (.long x :: st) M := A_lstore hd hn (fun x _ h => (Option.some.inj h : a4 = x) ▸ hp) k
theorem A_istore6 {a0 a1 a2 a3 a4 a5 a6 : Option Value} {t : List (Option Value)} {x : Int32} (hd : di cc pc (.istore 6) 2 n) (hn : 6 < nL) (hp : okp a5 = true) (k : AT l g own cc nL ret R P n (a0 :: a1 :: a2 :: a3 :: a4 :: a5 :: some (.int x) :: t) st M) : AT l g own cc nL ret R P pc (a0 :: a1 :: a2 :: a3 :: a4 :: a5 :: a6 :: t) (.int x :: st) M := A_istore hd hn (fun x _ h => (Option.some.inj h : a5 = x) ▸ hp) k
theorem A_iinc6 {a0 a1 a2 a3 a4 a5 : Option Value} {t : List (Option Value)} {z : Int} {x d : Int32} (hd : di cc pc (.iinc 6 z) 3 n) (hv : Int32.ofInt z = d) (hn : 6 < nL) (hp : okp a5 = true) (k : AT l g own cc nL ret R P n (a0 :: a1 :: a2 :: a3 :: a4 :: a5 :: some (.int (x + d)) :: t) st M) : AT l g own cc nL ret R P pc (a0 :: a1 :: a2 :: a3 :: a4 :: a5 :: some (.int x) :: t) st M := A_iinc hd rfl hv hn (fun x _ h => (Option.some.inj h : a5 = x) ▸ hp) k
theorem A_lstore6 {a0 a1 a2 a3 a4 a5 a6 b : Option Value} {t : List (Option Value)} {x : Int64} (hd : di cc pc (.lstore 6) 2 n) (hn : 6 + 1 < nL) (hp : okp a5 = true) (k : AT l g own cc nL ret R P n (a0 :: a1 :: a2 :: a3 :: a4 :: a5 :: some (.long x) :: none :: t) st M) : AT l g own cc nL ret R P pc (a0 :: a1 :: a2 :: a3 :: a4 :: a5 :: a6 :: b :: t) (.long x :: st) M := A_lstore hd hn (fun x _ h => (Option.some.inj h : a5 = x) ▸ hp) k
theorem A_istore7 {a0 a1 a2 a3 a4 a5 a6 a7 : Option Value} {t : List (Option Value)} {x : Int32} (hd : di cc pc (.istore 7) 2 n) (hn : 7 < nL) (hp : okp a6 = true) (k : AT l g own cc nL ret R P n (a0 :: a1 :: a2 :: a3 :: a4 :: a5 :: a6 :: some (.int x) :: t) st M) : AT l g own cc nL ret R P pc (a0 :: a1 :: a2 :: a3 :: a4 :: a5 :: a6 :: a7 :: t) (.int x :: st) M := A_istore hd hn (fun x _ h => (Option.some.inj h : a6 = x) ▸ hp) k
theorem A_iinc7 {a0 a1 a2 a3 a4 a5 a6 : Option Value} {t : List (Option Value)} {z : Int} {x d : Int32} (hd : di cc pc (.iinc 7 z) 3 n) (hv : Int32.ofInt z = d) (hn : 7 < nL) (hp : okp a6 = true) (k : AT l g own cc nL ret R P n (a0 :: a1 :: a2 :: a3 :: a4 :: a5 :: a6 :: some (.int (x + d)) :: t) st M) : AT l g own cc nL ret R P pc (a0 :: a1 :: a2 :: a3 :: a4 :: a5 :: a6 :: some (.int x) :: t) st M := A_iinc hd rfl hv hn (fun x _ h => (Option.some.inj h : a6 = x) ▸ hp) k
theorem A_lstore7 {a0 a1 a2 a3 a4 a5 a6 a7 b : Option Value} {t : List (Option Value)} {x : Int64} (hd : di cc pc (.lstore 7) 2 n) (hn : 7 + 1 < nL) (hp : okp a6 = true) (k : AT l g own cc nL ret R P n (a0 :: a1 :: a2 :: a3 :: a4 :: a5 :: a6 :: some (.long x) :: none :: t) st M) : AT l g own cc nL ret R P pc (a0 :: a1 :: a2 :: a3 :: a4 :: a5 :: a6 :: a7 :: b :: t) (.long x :: st) M := A_lstore hd hn (fun x _ h => (Option.some.inj h : a6 = x) ▸ hp) k
theorem A_istore8 {a0 a1 a2 a3 a4 a5 a6 a7 a8 : Option Value} {t : List (Option Value)} {x : Int32} (hd : di cc pc (.istore 8) 2 n) (hn : 8 < nL) (hp : okp a7 = true) (k : AT l g own cc nL ret R P n (a0 :: a1 :: a2 :: a3 :: a4 :: a5 :: a6 :: a7 :: some (.int x) :: t) st M) : AT l g own cc nL ret R P pc (a0 :: a1 :: a2 :: a3 :: a4 :: a5 :: a6 :: a7 :: a8 :: t) (.int x :: st) M := A_istore hd hn (fun x _ h => (Option.some.inj h : a7 = x) ▸ hp) k
theorem A_iinc8 {a0 a1 a2 a3 a4 a5 a6 a7 : Option Value} {t : List (Option Value)} {z : Int} {x d : Int32} (hd : di cc pc (.iinc 8 z) 3 n) (hv : Int32.ofInt z = d) (hn : 8 < nL) (hp : okp a7 = true) (k : AT l g own cc nL ret R P n (a0 :: a1 :: a2 :: a3 :: a4 :: a5 :: a6 :: a7 :: some (.int (x + d)) :: t) st M) : AT l g own cc nL ret R P pc (a0 :: a1 :: a2 :: a3 :: a4 :: a5 :: a6 :: a7 :: some (.int x) :: t) st M := A_iinc hd rfl hv hn (fun x _ h => (Option.some.inj h : a7 = x) ▸ hp) k
theorem A_lstore8 {a0 a1 a2 a3 a4 a5 a6 a7 a8 b : Option Value} {t : List (Option Value)} {x : Int64} (hd : di cc pc (.lstore 8) 2 n) (hn : 8 + 1 < nL) (hp : okp a7 = true) (k : AT l g own cc nL ret R P n (a0 :: a1 :: a2 :: a3 :: a4 :: a5 :: a6 :: a7 :: some (.long x) :: none :: t) st M) : AT l g own cc nL ret R P pc (a0 :: a1 :: a2 :: a3 :: a4 :: a5 :: a6 :: a7 :: a8 :: b :: t) (.long x :: st) M := A_lstore hd hn (fun x _ h => (Option.some.inj h : a7 = x) ▸ hp) k
theorem A_istore9 {a0 a1 a2 a3 a4 a5 a6 a7 a8 a9 : Option Value} {t : List (Option Value)} {x : Int32} (hd : di cc pc (.istore 9) 2 n) (hn : 9 < nL) (hp : okp a8 = true) (k : AT l g own cc nL ret R P n (a0 :: a1 :: a2 :: a3 :: a4 :: a5 :: a6 :: a7 :: a8 :: some (.int x) :: t) st M) : AT l g own cc nL ret R P pc (a0 :: a1 :: a2 :: a3 :: a4 :: a5 :: a6 :: a7 :: a8 :: a9 :: t) (.int x :: st) M := A_istore hd hn (fun x _ h => (Option.some.inj h : a8 = x) ▸ hp) k
theorem A_iinc9 {a0 a1 a2 a3 a4 a5 a6 a7 a8 : Option Value} {t : List (Option Value)} {z : Int} {x d : Int32} (hd : di cc pc (.iinc 9 z) 3 n) (hv : Int32.ofInt z = d) (hn : 9 < nL) (hp : okp a8 = true) (k : AT l g own cc nL ret R P n (a0 :: a1 :: a2 :: a3 :: a4 :: a5 :: a6 :: a7 :: a8 :: some (.int (x + d)) :: t) st M) : AT l g own cc nL ret R P pc (a0 :: a1 :: a2 :: a3 :: a4 :: a5 :: a6 :: a7 :: a8 :: some (.int x) :: t) st M := A_iinc hd rfl hv hn (fun x _ h => (Option.some.inj h : a8 = x) ▸ hp) k
theorem A_lstore9 {a0 a1 a2 a3 a4 a5 a6 a7 a8 a9 b : Option Value} {t : List (Option Value)} {x : Int64} (hd : di cc pc (.lstore 9) 2 n) (hn : 9 + 1 < nL) (hp : okp a8 = true) (k : AT l g own cc nL ret R P n (a0 :: a1 :: a2 :: a3 :: a4 :: a5 :: a6 :: a7 :: a8 :: some (.long x) :: none :: t) st M) : AT l g own cc nL ret R P pc (a0 :: a1 :: a2 :: a3 :: a4 :: a5 :: a6 :: a7 :: a8 :: a9 :: b :: t) (.long x :: st) M := A_lstore hd hn (fun x _ h => (Option.some.inj h : a8 = x) ▸ hp) k
theorem A_istore10 {a0 a1 a2 a3 a4 a5 a6 a7 a8 a9 a10 : Option Value} {t : List (Option Value)} {x : Int32} (hd : di cc pc (.istore 10) 2 n) (hn : 10 < nL) (hp : okp a9 = true) (k : AT l g own cc nL ret R P n (a0 :: a1 :: a2 :: a3 :: a4 :: a5 :: a6 :: a7 :: a8 :: a9 :: some (.int x) :: t) st M) : AT l g own cc nL ret R P pc (a0 :: a1 :: a2 :: a3 :: a4 :: a5 :: a6 :: a7 :: a8 :: a9 :: a10 :: t) (.int x :: st) M := A_istore hd hn (fun x _ h => (Option.some.inj h : a9 = x) ▸ hp) k
theorem A_iinc10 {a0 a1 a2 a3 a4 a5 a6 a7 a8 a9 : Option Value} {t : List (Option Value)} {z : Int} {x d : Int32} (hd : di cc pc (.iinc 10 z) 3 n) (hv : Int32.ofInt z = d) (hn : 10 < nL) (hp : okp a9 = true) (k : AT l g own cc nL ret R P n (a0 :: a1 :: a2 :: a3 :: a4 :: a5 :: a6 :: a7 :: a8 :: a9 :: some (.int (x + d)) :: t) st M) : AT l g own cc nL ret R P pc (a0 :: a1 :: a2 :: a3 :: a4 :: a5 :: a6 :: a7 :: a8 :: a9 :: some (.int x) :: t) st M := A_iinc hd rfl hv hn (fun x _ h => (Option.some.inj h : a9 = x) ▸ hp) k
theorem A_lstore10 {a0 a1 a2 a3 a4 a5 a6 a7 a8 a9 a10 b : Option Value} {t : List (Option Value)} {x : Int64} (hd : di cc pc (.lstore 10) 2 n) (hn : 10 + 1 < nL) (hp : okp a9 = true) (k : AT l g own cc nL ret R P n (a0 :: a1 :: a2 :: a3 :: a4 :: a5 :: a6 :: a7 :: a8 :: a9 :: some (.long x) :: none :: t) st M) : AT l g own cc nL ret R P pc (a0 :: a1 :: a2 :: a3 :: a4 :: a5 :: a6 :: a7 :: a8 :: a9 :: a10 :: b :: t) (.long x :: st) M := A_lstore hd hn (fun x _ h => (Option.some.inj h : a9 = x) ▸ hp) k
theorem A_istore11 {a0 a1 a2 a3 a4 a5 a6 a7 a8 a9 a10 a11 : Option Value} {t : List (Option Value)} {x : Int32} (hd : di cc pc (.istore 11) 2 n) (hn : 11 < nL) (hp : okp a10 = true) (k : AT l g own cc nL ret R P n (a0 :: a1 :: a2 :: a3 :: a4 :: a5 :: a6 :: a7 :: a8 :: a9 :: a10 :: some (.int x) :: t) st M) : AT l g own cc nL ret R P pc (a0 :: a1 :: a2 :: a3 :: a4 :: a5 :: a6 :: a7 :: a8 :: a9 :: a10 :: a11 :: t) (.int x :: st) M := A_istore hd hn (fun x _ h => (Option.some.inj h : a10 = x) ▸ hp) k
theorem A_iinc11 {a0 a1 a2 a3 a4 a5 a6 a7 a8 a9 a10 : Option Value} {t : List (Option Value)} {z : Int} {x d : Int32} (hd : di cc pc (.iinc 11 z) 3 n) (hv : Int32.ofInt z = d) (hn : 11 < nL) (hp : okp a10 = true) (k : AT l g own cc nL ret R P n (a0 :: a1 :: a2 :: a3 :: a4 :: a5 :: a6 :: a7 :: a8 :: a9 :: a10 :: some (.int (x + d)) :: t) st M) : AT l g own cc nL ret R P pc (a0 :: a1 :: a2 :: a3 :: a4 :: a5 :: a6 :: a7 :: a8 :: a9 :: a10 :: some (.int x) :: t) st M := A_iinc hd rfl hv hn (fun x _ h => (Option.some.inj h : a10 = x) ▸ hp) k
theorem A_lstore11 {a0 a1 a2 a3 a4 a5 a6 a7 a8 a9 a10 a11 b : Option Value} {t : List (Option Value)} {x : Int64} (hd : di cc pc (.lstore 11) 2 n) (hn : 11 + 1 < nL) (hp : okp a10 = true) (k : AT l g own cc nL ret R P n (a0 :: a1 :: a2 :: a3 :: a4 :: a5 :: a6 :: a7 :: a8 :: a9 :: a10 :: some (.long x) :: none :: t) st M) : AT l g own cc nL ret R P pc (a0 :: a1 :: a2 :: a3 :: a4 :: a5 :: a6 :: a7 :: a8 :: a9 :: a10 :: a11 :: b :: t) (.long x :: st) M := A_lstore hd hn (fun x _ h => (Option.some.inj h : a10 = x) ▸ hp) k
theorem A_istore12 {a0 a1 a2 a3 a4 a5 a6 a7 a8 a9 a10 a11 a12 : Option Value} {t : List (Option Value)} {x : Int32} (hd : di cc pc (.istore 12) 2 n) (hn : 12 < nL) (hp : okp a11 = true) (k : AT l g own cc nL ret R P n (a0 :: a1 :: a2 :: a3 :: a4 :: a5 :: a6 :: a7 :: a8 :: a9 :: a10 :: a11 :: some (.int x) :: t) st M) : AT l g own cc nL ret R P pc (a0 :: a1 :: a2 :: a3 :: a4 :: a5 :: a6 :: a7 :: a8 :: a9 :: a10 :: a11 :: a12 :: t) (.int x :: st) M := A_istore hd hn (fun x _ h => (Option.some.inj h : a11 = x) ▸ hp) k
theorem A_iinc12 {a0 a1 a2 a3 a4 a5 a6 a7 a8 a9 a10 a11 : Option Value} {t : List (Option Value)} {z : Int} {x d : Int32} (hd : di cc pc (.iinc 12 z) 3 n) (hv : Int32.ofInt z = d) (hn : 12 < nL) (hp : okp a11 = true) (k : AT l g own cc nL ret R P n (a0 :: a1 :: a2 :: a3 :: a4 :: a5 :: a6 :: a7 :: a8 :: a9 :: a10 :: a11 :: some (.int (x + d)) :: t) st M) : AT l g own cc nL ret R P pc (a0 :: a1 :: a2 :: a3 :: a4 :: a5 :: a6 :: a7 :: a8 :: a9 :: a10 :: a11 :: some (.int x) :: t) st M := A_iinc hd rfl hv hn (fun x _ h => (Option.some.inj h : a11 = x) ▸ hp) k
theorem A_lstore12 {a0 a1 a2 a3 a4 a5 a6 a7 a8 a9 a10 a11 a12 b : Option Value} {t : List (Option Value)} {x : Int64} (hd : di cc pc (.lstore 12) 2 n) (hn : 12 + 1 < nL) (hp : okp a11 = true) (k : AT l g own cc nL ret R P n (a0 :: a1 :: a2 :: a3 :: a4 :: a5 :: a6 :: a7 :: a8 :: a9 :: a10 :: a11 :: some (.long x) :: none :: t) st M) : AT l g own cc nL ret R P pc (a0 :: a1 :: a2 :: a3 :: a4 :: a5 :: a6 :: a7 :: a8 :: a9 :: a10 :: a11 :: a12 :: b :: t) (.long x :: st) M := A_lstore hd hn (fun x _ h => (Option.some.inj h : a11 = x) ▸ hp) k
theorem A_istore13 {a0 a1 a2 a3 a4 a5 a6 a7 a8 a9 a10 a11 a12 a13 : Option Value} {t : List (Option Value)} {x : Int32} (hd : di cc pc (.istore 13) 2 n) (hn : 13 < nL) (hp : okp a12 = true) (k : AT l g own cc nL ret R P n (a0 :: a1 :: a2 :: a3 :: a4 :: a5 :: a6 :: a7 :: a8 :: a9 :: a10 :: a11 :: a12 :: some (.int x) :: t) st M) : AT l g own cc nL ret R P pc (a0 :: a1 :: a2 :: a3 :: a4 :: a5 :: a6 :: a7 :: a8 :: a9 :: a10 :: a11 :: a12 :: a13 :: t) (.int x :: st) M := A_istore hd hn (fun x _ h => (Option.some.inj h : a12 = x) ▸ hp) k
theorem A_iinc13 {a0 a1 a2 a3 a4 a5 a6 a7 a8 a9 a10 a11 a12 : Option Value} {t : List (Option Value)} {z : Int} {x d : Int32} (hd : di cc pc (.iinc 13 z) 3 n) (hv : Int32.ofInt z = d) (hn : 13 < nL) (hp : okp a12 = true) (k : AT l g own cc nL ret R P n (a0 :: a1 :: a2 :: a3 :: a4 :: a5 :: a6 :: a7 :: a8 :: a9 :: a10 :: a11 :: a12 :: some (.int (x + d)) :: t) st M) : AT l g own cc nL ret R P pc (a0 :: a1 :: a2 :: a3 :: a4 :: a5 :: a6 :: a7 :: a8 :: a9 :: a10 :: a11 :: a12 :: some (.int x) :: t) st M := A_iinc hd rfl hv hn (fun x _ h => (Option.some.inj h : a12 = x) ▸ hp) k
theorem A_lstore13 {a0 a1 a2 a3 a4 a5 a6 a7 a8 a9 a10 a11 a12 a13 b : Option Value} {t : List (Option Value)} {x : Int64} (hd : di cc pc (.lstore 13) 2 n) (hn : 13 + 1 < nL) (hp : okp a12 = true) (k : AT l g own cc nL ret R P n (a0 :: a1 :: a2 :: a3 :: a4 :: a5 :: a6 :: a7 :: a8 :: a9 :: a10 :: a11 :: a12 :: some (.long x) :: none :: t) st M) : AT l g own cc nL ret R P pc (a0 :: a1 :: a2 :: a3 :: a4 :: a5 :: a6 :: a7 :: a8 :: a9 :: a10 :: a11 :: a12 :: a13 :: b :: t) (.long x :: st) M := A_lstore hd hn (fun x _ h => (Option.some.inj h : a12 = x) ▸ hp) k
theorem A_istore14 {a0 a1 a2 a3 a4 a5 a6 a7 a8 a9 a10 a11 a12 a13 a14 : Option Value} {t : List (Option Value)} {x : Int32} (hd : di cc pc (.istore 14) 2 n) (hn : 14 < nL) (hp : okp a13 = true) (k : AT l g own cc nL ret R P n (a0 :: a1 :: a2 :: a3 :: a4 :: a5 :: a6 :: a7 :: a8 :: a9 :: a10 :: a11 :: a12 :: a13 :: some (.int x) :: t) st M) : AT l g own cc nL ret R P pc (a0 :: a1 :: a2 :: a3 :: a4 :: a5 :: a6 :: a7 :: a8 :: a9 :: a10 :: a11 :: a12 :: a13 :: a14 :: t) (.int x :: st) M := A_istore hd hn (fun x _ h => (Option.some.inj h : a13 = x) ▸ hp) k
theorem A_iinc14 {a0 a1 a2 a3 a4 a5 a6 a7 a8 a9 a10 a11 a12 a13 : Option Value} {t : List (Option Value)} {z : Int} {x d : Int32} (hd : di cc pc (.iinc 14 z) 3 n) (hv : Int32.ofInt z = d) (hn : 14 < nL) (hp : okp a13 = true) (k : AT l g own cc nL ret R P n (a0 :: a1 :: a2 :: a3 :: a4 :: a5 :: a6 :: a7 :: a8 :: a9 :: a10 :: a11 :: a12 :: a13 :: some (.int (x + d)) :: t) st M) : AT l g own cc nL ret R P pc (a0 :: a1 :: a2 :: a3 :: a4 :: a5 :: a6 :: a7 :: a8 :: a9 :: a10 :: a11 :: a12 :: a13 :: some (.int x) :: t) st M := A_iinc hd rfl hv hn (fun x _ h => (Option.some.inj h : a13 = x) ▸ hp) k
theorem A_lstore14 {a0 a1 a2 a3 a4 a5 a6 a7 a8 a9 a10 a11 a12 a13 a14 b : Option Value} {t : List (Option Value)} {x : Int64} (hd : di cc pc (.lstore 14) 2 n) (hn : 14 + 1 < nL) (hp : okp a13 = true) (k : AT l g own cc nL ret R P n (a0 :: a1 :: a2 :: a3 :: a4 :: a5 :: a6 :: a7 :: a8 :: a9 :: a10 :: a11 :: a12 :: a13 :: some (.long x) :: none :: t) st M) : AT l g own cc nL ret R P pc (a0 :: a1 :: a2 :: a3 :: a4 :: a5 :: a6 :: a7 :: a8 :: a9 :: a10 :: a11 :: a12 :: a13 :: a14 :: b :: t) (.long x :: st) M := A_lstore hd hn (fun x _ h => (Option.some.inj h : a13 = x) ▸ hp) k
theorem A_istore15 {a0 a1 a2 a3 a4 a5 a6 a7 a8 a9 a10 a11 a12 a13 a14 a15 : Option Value} {t : List (Option Value)} {x : Int32} (hd : di cc pc (.istore 15) 2 n) (hn : 15 < nL) (hp : okp a14 = true) (k : AT l g own cc nL ret R P n (a0 :: a1 :: a2 :: a3 :: a4 :: a5 :: a6 :: a7 :: a8 :: a9 :: a10 :: a11 :: a12 :: a13 :: a14 :: some (.int x) :: t) st M) : AT l g own cc nL ret R P pc (a0 :: a1 :: a2 :: a3 :: a4 :: a5 :: a6 :: a7 :: a8 :: a9 :: a10 :: a11 :: a12 :: a13 :: a14 :: a15 :: t) (.int x :: st) M := A_istore hd hn (fun x _ h => (Option.some.inj h : a14 = x) ▸ hp) k
theorem A_iinc15 {a0 a1 a2 a3 a4 a5 a6 a7 a8 a9 a10 a11 a12 a13 a14 : Option Value} {t : List (Option Value)} {z : Int} {x d : Int32} (hd : di cc pc (.iinc 15 z) 3 n) (hv : Int32.ofInt z = d) (hn : 15 < nL) (hp : okp a14 = true) (k : AT l g own cc nL ret R P n (a0 :: a1 :: a2 :: a3 :: a4 :: a5 :: a6 :: a7 :: a8 :: a9 :: a10 :: a11 :: a12 :: a13 :: a14 :: some (.int (x + d)) :: t) st M) : AT l g own cc nL ret R P pc (a0 :: a1 :: a2 :: a3 :: a4 :: a5 :: a6 :: a7 :: a8 :: a9 :: a10 :: a11 :: a12 :: a13 :: a14 :: some (.int x) :: t) st M := A_iinc hd rfl hv hn (fun x _ h => (Option.some.inj h : a14 = x) ▸ hp) k
theorem A_lstore15 {a0 a1 a2 a3 a4 a5 a6 a7 a8 a9 a10 a11 a12 a13 a14 a15 b : Option Value} {t : List (Option Value)} {x : Int64} (hd : di cc pc (.lstore 15) 2 n) (hn : 15 + 1 < nL) (hp : okp a14 = true) (k : AT l g own cc nL ret R P n (a0 :: a1 :: a2 :: a3 :: a4 :: a5 :: a6 :: a7 :: a8 :: a9 :: a10 :: a11 :: a12 :: a13 :: a14 :: some (.long x) :: none :: t) st M) : AT l g own cc nL ret R P pc (a0 :: a1 :: a2 :: a3 :: a4 :: a5 :: a6 :: a7 :: a8 :: a9 :: a10 :: a11 :: a12 :: a13 :: a14 :: a15 :: b :: t) (.long x :: st) M := A_lstore hd hn (fun x _ h => (Option.some.inj h : a14 = x) ▸ hp) k
end STO
end
section
/-! CALLS: a callee's contract at the caller's frame -/
theorem A_core {p : Program} {l : Launch} {e : Env} {R : Room} {s : State} {m : MethodId} {args : Array Value} {below : List Frame} {meth : Method} {c : Code} {H : Heap} {locs : List Loc} {Q : State → Prop} {g : Cx} {P' : Option Value → Mem → Prop} {pc : Nat} {ls : Array Slot} {rest st0 : List Value} {a : Array Value}
    (hr : va_Run p l e R s m args below meth c H locs 0 0 0 0 (F0 m pc ls st0) rest (QC g P' a) (inW g)) (hS : va_S (inW g) s.heap H locs)
    (kk : ∀ (v : Option Value) (M' : Mem) (H1 : Heap) (locs1 : List Loc), P' v M' → va_P g.2.1 cls (wl g M') H1 → va_S (inW g) s.heap H1 locs1 → W p l e R s m args below meth c H1 locs1 0 0 Q (F0 m (pc + 3) ls (v.toList ++ rest))) : W p l e R s m args below meth c H locs 0 0 Q (F0 m pc ls st0) := by
  intro T hT X
  obtain ⟨v, st₀, t, T', L, h0, X', hL, e1, e2, ⟨⟨r, M', hv, hp, hb⟩, hz, hk⟩, st⟩ := hr T hT X
  cases hv
  rw [h0] at hz hk
  obtain ⟨t2, a1, b1⟩ := kk v M' T'.heap (locs ++ L) hp (by rw [e1]; exact hb)
    ⟨Nat.le_trans hS.1 (by rw [e1]; exact hz), fun q h1 h2 => by rw [e1, hk q (Nat.lt_of_lt_of_le h1 hS.1) h2]; exact hS.2.1 q h1 h2, fun q hq => by
      rcases List.mem_append.mp hq with h | h
      · exact hS.2.2 q h
      · exact hL q h⟩ T' rfl X'
  exact ⟨t2, st t2 a1, b1⟩
theorem A_blind {g : Cx} {M : Mem} {as : List Value} : FrameBlind (va_Pc as (fun U => va_P g.2.1 cls (wl g M) U.heap ∧ va_K g.2.1 cls (tysG g) U ∧ DJ g ∧ ST g (inW g) U U.heap)) := fun a U gf mk q => by
  obtain ⟨q0, q1, q2, q3, q4⟩ := q
  exact ⟨q0, q1, va_K.moved (u := U) (U := U.calling gf mk a) (Vm.Alike.refl U.vm) q2, q3, ST.same (u := U) rfl q4⟩
theorem A_pre {g : Cx} {M : Mem} {as : List Value} {s : State} {H : Heap} {locs : List Loc} (hK : va_K g.2.1 cls (tysG g) s) (hJ : DJ g) (hT : ST g (inW g) s s.heap) (hP : va_P g.2.1 cls (wl g M) H) (hS : va_S (inW g) s.heap H locs) : ∀ U : State, U.heap = H → s.WarmedH U.vm → va_Pc as (fun U => va_P g.2.1 cls (wl g M) U.heap ∧ va_K g.2.1 cls (tysG g) U ∧ DJ g ∧ ST g (inW g) U U.heap) as.toArray U := fun U hU hW =>
  ⟨rfl, by rw [hU]; exact hP, va_K.moved hW.alike hK, hJ, by rw [hU]; exact hT.go hW hS.2.1⟩
def MB (y : MethodName) (cy : ByteArray) (ny : Nat) (ry : Option FieldType) (n : Nat) : Prop := Cond.initialized y.cls ∈ gd ∧ Cond.code y cy ny ry ∈ gd ∧ (y.cls ≠ "java/lang/invoke/MethodHandle" ∧ y.cls ≠ "java/lang/invoke/VarHandle" ∧ (parseMethodDescriptor y.desc).map (fun d => d.parameters.length) = some n)
def MI (y : MethodName) : Prop := Cond.instanceMethod y ∈ gd ∧ Cond.selects y.cls y y ∈ gd
section CALLS
variable {l : Launch} {g : Cx} {own : String} {cc : ByteArray} {nL : Nat} {ret : Option FieldType} {R : Room} {P : Option Value → Mem → Prop} {pc n : Nat} {lv : List (Option Value)} {st : List Value} {M : Mem}
variable {y : MethodName} {cy : ByteArray} {ny : Nat} {ry : Option FieldType} {fr lo : Nat} {as rest : List Value} {P' : Option Value → Mem → Prop}
theorem A_callV {idx : Nat} {b : Nat} (hd : di cc pc (.invokevirtual idx) 3 n) (hl0 : Cond.methodLink own idx y ∈ gd) (hb0 : MB y cy ny ry as.length) (hi : MI y)
    (hrc : ∀ (s : State) (H : Heap), va_K g.2.1 cls (tysG g) s → va_P g.2.1 cls (wl g M) H → ∃ cellB : Cell, H[b]? = some cellB ∧ cellB.vm.isStatics = false ∧ s.vm.findClass y.cls = some cellB.cls)
    (hR : fr + 1 ≤ R.frames ∧ 8 + (ny + 11) + lo ≤ R.locals) (hst : (rest.map fun v => v.category).sum ≤ 8) (hC : CT l g y cy ny ry fr lo (.ref b :: as) M P')
    (k : ∀ (v : Option Value) (M' : Mem), P' v M' → AT l g own cc nL ret R P n lv (v.toList ++ rest) M') : AT l g own cc nL ret R P pc lv (as.reverse ++ .ref b :: rest) M := fun p e s m args below meth c H locs ls C hP hS hl => by
  obtain ⟨hd, rfl⟩ := hd
  have hts := C.2.2.2.2.2.2.1
  have hG : GoodIn gd (wsV own idx y.cls y (Cond.code y cy ny ry :: gd)) := by
    intro w hw
    unfold wsV at hw
    simp only [List.mem_append, List.mem_cons, List.not_mem_nil, or_false] at hw
    rcases hw with (rfl | rfl | rfl | rfl) | (rfl | hw)
    · exact gd_good hl0
    · exact gd_good hi.1
    · exact gd_good hi.2
    · exact gd_good hb0.1
    · exact gd_good hb0.2.1
    · exact gd_good hw
  refine A_core (va_runV (As := as) (rest := rest) (Ts := gd) (C := y.cls) ⟨C.1, C.2.1, C.2.2.2.1, C.2.2.2.2.1, hts⟩ hC (cwV as.length hts hG rfl rfl rfl ⟨rfl, hb0.2.2⟩ hR) ⟨A_blind, hrc s H C.2.2.2.2.2.2.2.1 hP, A_pre (as := .ref b :: as) C.2.2.2.2.2.2.2.1 C.2.2.2.2.2.2.2.2.1 C.2.2.2.2.2.2.2.2.2 hP hS⟩ rfl rfl hl.1 rfl (lv_room hst) hd ⟨Nat.zero_le _, Nat.zero_le _⟩) hS (fun v M' H1 locs1 h1 h2 h3 => ?_)
  exact k v M' h1 p e s m args below meth c H1 locs1 ls C h2 h3 hl
theorem A_rc {q ci : Nat} {fs : Cx → Mem → List Value} {r : vw_C} (hq : OB q ci fs) (hc : cls[ci]? = some r) : ∀ (s : State) (H : Heap), va_K g.2.1 cls (tysG g) s → va_P g.2.1 cls (wl g M) H → ∃ cellB : Cell, H[g.1 q]? = some cellB ∧ cellB.vm.isStatics = false ∧ s.vm.findClass r.1 = some cellB.cls := fun s H hK hP => va_recv hK hP hc (hq g M)
theorem A_callS {idx : Nat} (hd : di cc pc (.invokestatic idx) 3 n) (hl0 : Cond.methodLink own idx y ∈ gd) (hb0 : MB y cy ny ry as.length) (hi : Cond.static y ∈ gd)
    (hR : fr + 1 ≤ R.frames ∧ 8 + (ny + 11) + lo ≤ R.locals) (hst : (rest.map fun v => v.category).sum ≤ 8) (hC : CT l g y cy ny ry fr lo as M P')
    (k : ∀ (v : Option Value) (M' : Mem), P' v M' → AT l g own cc nL ret R P n lv (v.toList ++ rest) M') : AT l g own cc nL ret R P pc lv (as.reverse ++ rest) M := fun p e s m args below meth c H locs ls C hP hS hl => by
  obtain ⟨hd, rfl⟩ := hd
  have hts := C.2.2.2.2.2.2.1
  have hG : GoodIn gd (va_wsS own idx y (Cond.code y cy ny ry :: gd)) := by
    intro w hw
    unfold va_wsS at hw
    simp only [List.mem_append, List.mem_cons, List.not_mem_nil, or_false] at hw
    rcases hw with (rfl | rfl | rfl) | (rfl | hw)
    · exact gd_good hl0
    · exact gd_good hi
    · exact gd_good hb0.1
    · exact gd_good hb0.2.1
    · exact gd_good hw
  refine A_core (va_runS (As := as) (rest := rest) (Ts := gd) ⟨C.1, C.2.1, C.2.2.2.1, C.2.2.2.2.1, hts⟩ hC (va_cwS as.length hts hG rfl rfl rfl hb0.2.2 hR) ⟨A_blind, A_pre C.2.2.2.2.2.2.2.1 C.2.2.2.2.2.2.2.2.1 C.2.2.2.2.2.2.2.2.2 hP hS⟩ rfl rfl hl.1 rfl (lv_room hst) hd ⟨Nat.zero_le _, Nat.zero_le _⟩) hS (fun v M' H1 locs1 h1 h2 h3 => ?_)
  exact k v M' h1 p e s m args below meth c H1 locs1 ls C h2 h3 hl
theorem A_callN {idx : Nat} {host : String} (hd : di cc pc (.invokestatic idx) 3 n) (hl0 : Cond.methodLinkNest own idx y host ∈ nestW) (hb0 : MB y cy ny ry as.length) (hi : Cond.static y ∈ gd)
    (hR : fr + 1 ≤ R.frames ∧ 8 + (ny + 11) + lo ≤ R.locals) (hst : (rest.map fun v => v.category).sum ≤ 8) (hC : CT l g y cy ny ry fr lo as M P')
    (k : ∀ (v : Option Value) (M' : Mem), P' v M' → AT l g own cc nL ret R P n lv (v.toList ++ rest) M') : AT l g own cc nL ret R P pc lv (as.reverse ++ rest) M := fun p e s m args below meth c H locs ls C hP hS hl => by
  obtain ⟨hd, rfl⟩ := hd
  have hts := C.2.2.2.2.2.2.1
  have hT := C.2.2.2.2.2.2.2.2.2
  have hG : GoodIn gd (Cond.code y cy ny ry :: gd) := by
    intro w hw
    rcases List.mem_cons.mp hw with rfl | hw
    · exact gd_good hb0.2.1
    · exact gd_good hw
  refine A_core (va_runSN (As := as) (rest := rest) (Ts := gd) ⟨C.1, C.2.1, C.2.2.2.1, C.2.2.2.2.1, hts⟩ hC ⟨va_cnB as.length hts hG rfl rfl rfl (hT.2.2.2.2.2.2 _ hl0) (hts _ hb0.1) hb0.2.2 hR, hts _ hi, trivial⟩ ⟨A_blind, A_pre C.2.2.2.2.2.2.2.1 C.2.2.2.2.2.2.2.2.1 C.2.2.2.2.2.2.2.2.2 hP hS⟩ rfl rfl hl.1 rfl (lv_room hst) hd ⟨Nat.zero_le _, Nat.zero_le _⟩) hS (fun v M' H1 locs1 h1 h2 h3 => ?_)
  exact k v M' h1 p e s m args below meth c H1 locs1 ls C h2 h3 hl
theorem A_callV0 {idx q ci : Nat} {fs : Cx → Mem → List Value} {r : vw_C} (hd : di cc pc (.invokevirtual idx) 3 n) (hl0 : Cond.methodLink own idx y ∈ gd) (hb0 : MB y cy ny ry 0) (hi : MI y) (hq : OB q ci fs) (hc : cls[ci]? = some r) (hr : r.1 = y.cls) (hR : fr + 1 ≤ R.frames ∧ 8 + (ny + 11) + lo ≤ R.locals) (hst : (rest.map fun v => v.category).sum ≤ 8) (hC : CT l g y cy ny ry fr lo (.ref (g.1 q) :: []) M P') (k : ∀ (v : Option Value) (M' : Mem), P' v M' → AT l g own cc nL ret R P n lv (v.toList ++ rest) M') : AT l g own cc nL ret R P pc lv (.ref (g.1 q) :: rest) M := A_callV (as := []) hd hl0 hb0 hi (hr ▸ A_rc hq hc) hR hst hC k
theorem A_callS0 {idx : Nat} (hd : di cc pc (.invokestatic idx) 3 n) (hl0 : Cond.methodLink own idx y ∈ gd) (hb0 : MB y cy ny ry 0) (hi : Cond.static y ∈ gd) (hR : fr + 1 ≤ R.frames ∧ 8 + (ny + 11) + lo ≤ R.locals) (hst : (rest.map fun v => v.category).sum ≤ 8) (hC : CT l g y cy ny ry fr lo [] M P') (k : ∀ (v : Option Value) (M' : Mem), P' v M' → AT l g own cc nL ret R P n lv (v.toList ++ rest) M') : AT l g own cc nL ret R P pc lv (rest) M := A_callS (as := []) hd hl0 hb0 hi hR hst hC k
theorem A_callN0 {idx : Nat} {host : String} (hd : di cc pc (.invokestatic idx) 3 n) (hl0 : Cond.methodLinkNest own idx y host ∈ nestW) (hb0 : MB y cy ny ry 0) (hi : Cond.static y ∈ gd) (hR : fr + 1 ≤ R.frames ∧ 8 + (ny + 11) + lo ≤ R.locals) (hst : (rest.map fun v => v.category).sum ≤ 8) (hC : CT l g y cy ny ry fr lo [] M P') (k : ∀ (v : Option Value) (M' : Mem), P' v M' → AT l g own cc nL ret R P n lv (v.toList ++ rest) M') : AT l g own cc nL ret R P pc lv (rest) M := A_callN (as := []) hd hl0 hb0 hi hR hst hC k
theorem A_callV1 {idx q ci : Nat} {fs : Cx → Mem → List Value} {r : vw_C} {x1 : Value} (hd : di cc pc (.invokevirtual idx) 3 n) (hl0 : Cond.methodLink own idx y ∈ gd) (hb0 : MB y cy ny ry 1) (hi : MI y) (hq : OB q ci fs) (hc : cls[ci]? = some r) (hr : r.1 = y.cls) (hR : fr + 1 ≤ R.frames ∧ 8 + (ny + 11) + lo ≤ R.locals) (hst : (rest.map fun v => v.category).sum ≤ 8) (hC : CT l g y cy ny ry fr lo (.ref (g.1 q) :: [x1]) M P') (k : ∀ (v : Option Value) (M' : Mem), P' v M' → AT l g own cc nL ret R P n lv (v.toList ++ rest) M') : AT l g own cc nL ret R P pc lv (x1 :: .ref (g.1 q) :: rest) M := A_callV (as := [x1]) hd hl0 hb0 hi (hr ▸ A_rc hq hc) hR hst hC k
theorem A_callS1 {idx : Nat} {x1 : Value} (hd : di cc pc (.invokestatic idx) 3 n) (hl0 : Cond.methodLink own idx y ∈ gd) (hb0 : MB y cy ny ry 1) (hi : Cond.static y ∈ gd) (hR : fr + 1 ≤ R.frames ∧ 8 + (ny + 11) + lo ≤ R.locals) (hst : (rest.map fun v => v.category).sum ≤ 8) (hC : CT l g y cy ny ry fr lo [x1] M P') (k : ∀ (v : Option Value) (M' : Mem), P' v M' → AT l g own cc nL ret R P n lv (v.toList ++ rest) M') : AT l g own cc nL ret R P pc lv (x1 :: rest) M := A_callS (as := [x1]) hd hl0 hb0 hi hR hst hC k
theorem A_callN1 {idx : Nat} {host : String} {x1 : Value} (hd : di cc pc (.invokestatic idx) 3 n) (hl0 : Cond.methodLinkNest own idx y host ∈ nestW) (hb0 : MB y cy ny ry 1) (hi : Cond.static y ∈ gd) (hR : fr + 1 ≤ R.frames ∧ 8 + (ny + 11) + lo ≤ R.locals) (hst : (rest.map fun v => v.category).sum ≤ 8) (hC : CT l g y cy ny ry fr lo [x1] M P') (k : ∀ (v : Option Value) (M' : Mem), P' v M' → AT l g own cc nL ret R P n lv (v.toList ++ rest) M') : AT l g own cc nL ret R P pc lv (x1 :: rest) M := A_callN (as := [x1]) hd hl0 hb0 hi hR hst hC k
theorem A_callV2 {idx q ci : Nat} {fs : Cx → Mem → List Value} {r : vw_C} {x1 x2 : Value} (hd : di cc pc (.invokevirtual idx) 3 n) (hl0 : Cond.methodLink own idx y ∈ gd) (hb0 : MB y cy ny ry 2) (hi : MI y) (hq : OB q ci fs) (hc : cls[ci]? = some r) (hr : r.1 = y.cls) (hR : fr + 1 ≤ R.frames ∧ 8 + (ny + 11) + lo ≤ R.locals) (hst : (rest.map fun v => v.category).sum ≤ 8) (hC : CT l g y cy ny ry fr lo (.ref (g.1 q) :: [x1, x2]) M P') (k : ∀ (v : Option Value) (M' : Mem), P' v M' → AT l g own cc nL ret R P n lv (v.toList ++ rest) M') : AT l g own cc nL ret R P pc lv (x2 :: x1 :: .ref (g.1 q) :: rest) M := A_callV (as := [x1, x2]) hd hl0 hb0 hi (hr ▸ A_rc hq hc) hR hst hC k
theorem A_callS2 {idx : Nat} {x1 x2 : Value} (hd : di cc pc (.invokestatic idx) 3 n) (hl0 : Cond.methodLink own idx y ∈ gd) (hb0 : MB y cy ny ry 2) (hi : Cond.static y ∈ gd) (hR : fr + 1 ≤ R.frames ∧ 8 + (ny + 11) + lo ≤ R.locals) (hst : (rest.map fun v => v.category).sum ≤ 8) (hC : CT l g y cy ny ry fr lo [x1, x2] M P') (k : ∀ (v : Option Value) (M' : Mem), P' v M' → AT l g own cc nL ret R P n lv (v.toList ++ rest) M') : AT l g own cc nL ret R P pc lv (x2 :: x1 :: rest) M := A_callS (as := [x1, x2]) hd hl0 hb0 hi hR hst hC k
theorem A_callN2 {idx : Nat} {host : String} {x1 x2 : Value} (hd : di cc pc (.invokestatic idx) 3 n) (hl0 : Cond.methodLinkNest own idx y host ∈ nestW) (hb0 : MB y cy ny ry 2) (hi : Cond.static y ∈ gd) (hR : fr + 1 ≤ R.frames ∧ 8 + (ny + 11) + lo ≤ R.locals) (hst : (rest.map fun v => v.category).sum ≤ 8) (hC : CT l g y cy ny ry fr lo [x1, x2] M P') (k : ∀ (v : Option Value) (M' : Mem), P' v M' → AT l g own cc nL ret R P n lv (v.toList ++ rest) M') : AT l g own cc nL ret R P pc lv (x2 :: x1 :: rest) M := A_callN (as := [x1, x2]) hd hl0 hb0 hi hR hst hC k
theorem A_callV3 {idx q ci : Nat} {fs : Cx → Mem → List Value} {r : vw_C} {x1 x2 x3 : Value} (hd : di cc pc (.invokevirtual idx) 3 n) (hl0 : Cond.methodLink own idx y ∈ gd) (hb0 : MB y cy ny ry 3) (hi : MI y) (hq : OB q ci fs) (hc : cls[ci]? = some r) (hr : r.1 = y.cls) (hR : fr + 1 ≤ R.frames ∧ 8 + (ny + 11) + lo ≤ R.locals) (hst : (rest.map fun v => v.category).sum ≤ 8) (hC : CT l g y cy ny ry fr lo (.ref (g.1 q) :: [x1, x2, x3]) M P') (k : ∀ (v : Option Value) (M' : Mem), P' v M' → AT l g own cc nL ret R P n lv (v.toList ++ rest) M') : AT l g own cc nL ret R P pc lv (x3 :: x2 :: x1 :: .ref (g.1 q) :: rest) M := A_callV (as := [x1, x2, x3]) hd hl0 hb0 hi (hr ▸ A_rc hq hc) hR hst hC k
theorem A_callS3 {idx : Nat} {x1 x2 x3 : Value} (hd : di cc pc (.invokestatic idx) 3 n) (hl0 : Cond.methodLink own idx y ∈ gd) (hb0 : MB y cy ny ry 3) (hi : Cond.static y ∈ gd) (hR : fr + 1 ≤ R.frames ∧ 8 + (ny + 11) + lo ≤ R.locals) (hst : (rest.map fun v => v.category).sum ≤ 8) (hC : CT l g y cy ny ry fr lo [x1, x2, x3] M P') (k : ∀ (v : Option Value) (M' : Mem), P' v M' → AT l g own cc nL ret R P n lv (v.toList ++ rest) M') : AT l g own cc nL ret R P pc lv (x3 :: x2 :: x1 :: rest) M := A_callS (as := [x1, x2, x3]) hd hl0 hb0 hi hR hst hC k
theorem A_callN3 {idx : Nat} {host : String} {x1 x2 x3 : Value} (hd : di cc pc (.invokestatic idx) 3 n) (hl0 : Cond.methodLinkNest own idx y host ∈ nestW) (hb0 : MB y cy ny ry 3) (hi : Cond.static y ∈ gd) (hR : fr + 1 ≤ R.frames ∧ 8 + (ny + 11) + lo ≤ R.locals) (hst : (rest.map fun v => v.category).sum ≤ 8) (hC : CT l g y cy ny ry fr lo [x1, x2, x3] M P') (k : ∀ (v : Option Value) (M' : Mem), P' v M' → AT l g own cc nL ret R P n lv (v.toList ++ rest) M') : AT l g own cc nL ret R P pc lv (x3 :: x2 :: x1 :: rest) M := A_callN (as := [x1, x2, x3]) hd hl0 hb0 hi hR hst hC k
theorem A_callV4 {idx q ci : Nat} {fs : Cx → Mem → List Value} {r : vw_C} {x1 x2 x3 x4 : Value} (hd : di cc pc (.invokevirtual idx) 3 n) (hl0 : Cond.methodLink own idx y ∈ gd) (hb0 : MB y cy ny ry 4) (hi : MI y) (hq : OB q ci fs) (hc : cls[ci]? = some r) (hr : r.1 = y.cls) (hR : fr + 1 ≤ R.frames ∧ 8 + (ny + 11) + lo ≤ R.locals) (hst : (rest.map fun v => v.category).sum ≤ 8) (hC : CT l g y cy ny ry fr lo (.ref (g.1 q) :: [x1, x2, x3, x4]) M P') (k : ∀ (v : Option Value) (M' : Mem), P' v M' → AT l g own cc nL ret R P n lv (v.toList ++ rest) M') : AT l g own cc nL ret R P pc lv (x4 :: x3 :: x2 :: x1 :: .ref (g.1 q) :: rest) M := A_callV (as := [x1, x2, x3, x4]) hd hl0 hb0 hi (hr ▸ A_rc hq hc) hR hst hC k
theorem A_callS4 {idx : Nat} {x1 x2 x3 x4 : Value} (hd : di cc pc (.invokestatic idx) 3 n) (hl0 : Cond.methodLink own idx y ∈ gd) (hb0 : MB y cy ny ry 4) (hi : Cond.static y ∈ gd) (hR : fr + 1 ≤ R.frames ∧ 8 + (ny + 11) + lo ≤ R.locals) (hst : (rest.map fun v => v.category).sum ≤ 8) (hC : CT l g y cy ny ry fr lo [x1, x2, x3, x4] M P') (k : ∀ (v : Option Value) (M' : Mem), P' v M' → AT l g own cc nL ret R P n lv (v.toList ++ rest) M') : AT l g own cc nL ret R P pc lv (x4 :: x3 :: x2 :: x1 :: rest) M := A_callS (as := [x1, x2, x3, x4]) hd hl0 hb0 hi hR hst hC k
theorem A_callN4 {idx : Nat} {host : String} {x1 x2 x3 x4 : Value} (hd : di cc pc (.invokestatic idx) 3 n) (hl0 : Cond.methodLinkNest own idx y host ∈ nestW) (hb0 : MB y cy ny ry 4) (hi : Cond.static y ∈ gd) (hR : fr + 1 ≤ R.frames ∧ 8 + (ny + 11) + lo ≤ R.locals) (hst : (rest.map fun v => v.category).sum ≤ 8) (hC : CT l g y cy ny ry fr lo [x1, x2, x3, x4] M P') (k : ∀ (v : Option Value) (M' : Mem), P' v M' → AT l g own cc nL ret R P n lv (v.toList ++ rest) M') : AT l g own cc nL ret R P pc lv (x4 :: x3 :: x2 :: x1 :: rest) M := A_callN (as := [x1, x2, x3, x4]) hd hl0 hb0 hi hR hst hC k
end CALLS
end
section
/-! THE FUNCTIONS' OWN WORDS: what a method answers and leaves; none where it would throw -/
abbrev Ret : Type := Int32 × Mem
def FU : Nat := 20000
def bI {α : Type} (e : α) (K : α → Option Ret) : Option Ret := K e
def bM (e : Mem) (K : Mem → Option Ret) : Option Ret := K e
def bE (f : Option Ret) (K : Int32 → Mem → Option Ret) : Option Ret := match f with
  | some (r, M) => K r M
  | none => none
def gV (i : Int32) (n : Nat) (k : Option Ret) : Option Ret := if i < 0 ∨ n ≤ i.toNatClampNeg then none else k
def gN (y : Int32) (k : Option Ret) : Option Ret := if y = 0 then none else k
def gNL (y : Int64) (k : Option Ret) : Option Ret := if y = 0 then none else k
def gZ (v : Int32) (k : Option Ret) : Option Ret := if v &&& 1 = v then k else none
def jn {α : Type} (K : α) (f : α → Option Ret) : Option Ret := f K
def PI (r : Int32) (Mr : Mem) : Option Value → Mem → Prop := fun v M => v = some (.int r) ∧ M = Mr
def PV (r : Int32) (Mr : Mem) : Option Value → Mem → Prop := fun v M => v = none ∧ M = Mr
theorem bI_go {α : Type} {e : α} {K : α → Option Ret} {q : Ret} {G : α → Prop} (h : bI e K = some q) (k : ∀ x : α, K x = some q → G x) : G e := k e h
theorem bM_go {e : Mem} {K : Mem → Option Ret} {q : Ret} {G : Mem → Prop} (h : bM e K = some q) (k : ∀ x : Mem, K x = some q → G x) : G e := k e h
theorem bE_go {f : Option Ret} {K : Int32 → Mem → Option Ret} {q : Ret} (h : bE f K = some q) : ∃ (r : Int32) (M : Mem), f = some (r, M) ∧ K r M = some q := by
  cases f with
  | none => cases h
  | some z => exact ⟨z.1, z.2, rfl, h⟩
theorem gV_go {i : Int32} {n : Nat} {k : Option Ret} {q : Ret} (h : gV i n k = some q) : vp_in i n ∧ k = some q := by
  unfold gV at h
  split at h
  · cases h
  · exact ⟨by assumption, h⟩
theorem gN_go {y : Int32} {k : Option Ret} {q : Ret} (h : gN y k = some q) : ¬ y = 0 ∧ k = some q := by
  unfold gN at h
  split at h
  · cases h
  · exact ⟨by assumption, h⟩
theorem gNL_go {y : Int64} {k : Option Ret} {q : Ret} (h : gNL y k = some q) : ¬ y = 0 ∧ k = some q := by
  unfold gNL at h
  split at h
  · cases h
  · exact ⟨by assumption, h⟩
theorem gZ_go {v : Int32} {k : Option Ret} {q : Ret} (h : gZ v k = some q) : v &&& 1 = v ∧ k = some q := by
  unfold gZ at h
  split at h
  · exact ⟨by assumption, h⟩
  · cases h
theorem gT_go {c : Prop} [Decidable c] {a b : Option Ret} {q : Option Ret} (hc : c) (h : (if c then a else b) = q) : a = q := by rw [if_pos hc] at h; exact h
theorem gF_go {c : Prop} [Decidable c] {a b : Option Ret} {q : Option Ret} (hc : ¬ c) (h : (if c then a else b) = q) : b = q := by rw [if_neg hc] at h; exact h
theorem jn_go {α : Type} {K : α} {f : α → Option Ret} {q : Ret} (h : jn K f = some q) : ∃ J : α, J = K ∧ f J = some q := ⟨K, rfl, h⟩
theorem pI_go {e r : Int32} {M Mr : Mem} (h : some (e, M) = some (r, Mr)) : PI r Mr (some (.int e)) M := by cases h; exact ⟨rfl, rfl⟩
theorem pV_go {e r : Int32} {M Mr : Mem} (h : some (e, M) = some (r, Mr)) : PV r Mr none M := by cases h; exact ⟨rfl, rfl⟩
theorem vp_lt {i : Int32} {n : Nat} (h : vp_in i n) : i.toNatClampNeg < n := Nat.not_le.mp fun q => h (Or.inr q)
section CI
variable {l : Launch} {g : Cx} {own : String} {cc : ByteArray} {nL : Nat} {ret : Option FieldType} {R : Room} {P : Option Value → Mem → Prop} {pc n : Nat} {lv : List (Option Value)} {M : Mem}
variable {y : MethodName} {cy : ByteArray} {ny : Nat} {ry : Option FieldType} {fr lo : Nat} {rest : List Value} {r1 : Int32} {M1 : Mem}
theorem A_cVi0 {idx q ci : Nat} {fs : Cx → Mem → List Value} {r : vw_C} (hd : di cc pc (.invokevirtual idx) 3 n) (hl0 : Cond.methodLink own idx y ∈ gd) (hb0 : MB y cy ny ry 0) (hi : MI y) (hq : OB q ci fs) (hc : cls[ci]? = some r) (hr : r.1 = y.cls) (hR : fr + 1 ≤ R.frames ∧ 8 + (ny + 11) + lo ≤ R.locals) (hst : (rest.map fun v => v.category).sum ≤ 8) (hC : CT l g y cy ny ry fr lo (.ref (g.1 q) :: []) M (PI r1 M1)) (k : AT l g own cc nL ret R P n lv (.int r1 :: rest) M1) : AT l g own cc nL ret R P pc lv (.ref (g.1 q) :: rest) M := A_callV0 hd hl0 hb0 hi hq hc hr hR hst hC (fun v M' e => by obtain ⟨rfl, rfl⟩ := e; exact k)
theorem A_cSi0 {idx : Nat} (hd : di cc pc (.invokestatic idx) 3 n) (hl0 : Cond.methodLink own idx y ∈ gd) (hb0 : MB y cy ny ry 0) (hi : Cond.static y ∈ gd) (hR : fr + 1 ≤ R.frames ∧ 8 + (ny + 11) + lo ≤ R.locals) (hst : (rest.map fun v => v.category).sum ≤ 8) (hC : CT l g y cy ny ry fr lo [] M (PI r1 M1)) (k : AT l g own cc nL ret R P n lv (.int r1 :: rest) M1) : AT l g own cc nL ret R P pc lv (rest) M := A_callS0 hd hl0 hb0 hi hR hst hC (fun v M' e => by obtain ⟨rfl, rfl⟩ := e; exact k)
theorem A_cNi0 {idx : Nat} {host : String} (hd : di cc pc (.invokestatic idx) 3 n) (hl0 : Cond.methodLinkNest own idx y host ∈ nestW) (hb0 : MB y cy ny ry 0) (hi : Cond.static y ∈ gd) (hR : fr + 1 ≤ R.frames ∧ 8 + (ny + 11) + lo ≤ R.locals) (hst : (rest.map fun v => v.category).sum ≤ 8) (hC : CT l g y cy ny ry fr lo [] M (PI r1 M1)) (k : AT l g own cc nL ret R P n lv (.int r1 :: rest) M1) : AT l g own cc nL ret R P pc lv (rest) M := A_callN0 hd hl0 hb0 hi hR hst hC (fun v M' e => by obtain ⟨rfl, rfl⟩ := e; exact k)
theorem A_cVv0 {idx q ci : Nat} {fs : Cx → Mem → List Value} {r : vw_C} (hd : di cc pc (.invokevirtual idx) 3 n) (hl0 : Cond.methodLink own idx y ∈ gd) (hb0 : MB y cy ny ry 0) (hi : MI y) (hq : OB q ci fs) (hc : cls[ci]? = some r) (hr : r.1 = y.cls) (hR : fr + 1 ≤ R.frames ∧ 8 + (ny + 11) + lo ≤ R.locals) (hst : (rest.map fun v => v.category).sum ≤ 8) (hC : CT l g y cy ny ry fr lo (.ref (g.1 q) :: []) M (PV r1 M1)) (k : AT l g own cc nL ret R P n lv (rest) M1) : AT l g own cc nL ret R P pc lv (.ref (g.1 q) :: rest) M := A_callV0 hd hl0 hb0 hi hq hc hr hR hst hC (fun v M' e => by obtain ⟨rfl, rfl⟩ := e; exact k)
theorem A_cSv0 {idx : Nat} (hd : di cc pc (.invokestatic idx) 3 n) (hl0 : Cond.methodLink own idx y ∈ gd) (hb0 : MB y cy ny ry 0) (hi : Cond.static y ∈ gd) (hR : fr + 1 ≤ R.frames ∧ 8 + (ny + 11) + lo ≤ R.locals) (hst : (rest.map fun v => v.category).sum ≤ 8) (hC : CT l g y cy ny ry fr lo [] M (PV r1 M1)) (k : AT l g own cc nL ret R P n lv (rest) M1) : AT l g own cc nL ret R P pc lv (rest) M := A_callS0 hd hl0 hb0 hi hR hst hC (fun v M' e => by obtain ⟨rfl, rfl⟩ := e; exact k)
theorem A_cNv0 {idx : Nat} {host : String} (hd : di cc pc (.invokestatic idx) 3 n) (hl0 : Cond.methodLinkNest own idx y host ∈ nestW) (hb0 : MB y cy ny ry 0) (hi : Cond.static y ∈ gd) (hR : fr + 1 ≤ R.frames ∧ 8 + (ny + 11) + lo ≤ R.locals) (hst : (rest.map fun v => v.category).sum ≤ 8) (hC : CT l g y cy ny ry fr lo [] M (PV r1 M1)) (k : AT l g own cc nL ret R P n lv (rest) M1) : AT l g own cc nL ret R P pc lv (rest) M := A_callN0 hd hl0 hb0 hi hR hst hC (fun v M' e => by obtain ⟨rfl, rfl⟩ := e; exact k)
theorem A_cVi1 {idx q ci : Nat} {fs : Cx → Mem → List Value} {r : vw_C} {x1 : Value} (hd : di cc pc (.invokevirtual idx) 3 n) (hl0 : Cond.methodLink own idx y ∈ gd) (hb0 : MB y cy ny ry 1) (hi : MI y) (hq : OB q ci fs) (hc : cls[ci]? = some r) (hr : r.1 = y.cls) (hR : fr + 1 ≤ R.frames ∧ 8 + (ny + 11) + lo ≤ R.locals) (hst : (rest.map fun v => v.category).sum ≤ 8) (hC : CT l g y cy ny ry fr lo (.ref (g.1 q) :: [x1]) M (PI r1 M1)) (k : AT l g own cc nL ret R P n lv (.int r1 :: rest) M1) : AT l g own cc nL ret R P pc lv (x1 :: .ref (g.1 q) :: rest) M := A_callV1 hd hl0 hb0 hi hq hc hr hR hst hC (fun v M' e => by obtain ⟨rfl, rfl⟩ := e; exact k)
theorem A_cSi1 {idx : Nat} {x1 : Value} (hd : di cc pc (.invokestatic idx) 3 n) (hl0 : Cond.methodLink own idx y ∈ gd) (hb0 : MB y cy ny ry 1) (hi : Cond.static y ∈ gd) (hR : fr + 1 ≤ R.frames ∧ 8 + (ny + 11) + lo ≤ R.locals) (hst : (rest.map fun v => v.category).sum ≤ 8) (hC : CT l g y cy ny ry fr lo [x1] M (PI r1 M1)) (k : AT l g own cc nL ret R P n lv (.int r1 :: rest) M1) : AT l g own cc nL ret R P pc lv (x1 :: rest) M := A_callS1 hd hl0 hb0 hi hR hst hC (fun v M' e => by obtain ⟨rfl, rfl⟩ := e; exact k)
theorem A_cNi1 {idx : Nat} {host : String} {x1 : Value} (hd : di cc pc (.invokestatic idx) 3 n) (hl0 : Cond.methodLinkNest own idx y host ∈ nestW) (hb0 : MB y cy ny ry 1) (hi : Cond.static y ∈ gd) (hR : fr + 1 ≤ R.frames ∧ 8 + (ny + 11) + lo ≤ R.locals) (hst : (rest.map fun v => v.category).sum ≤ 8) (hC : CT l g y cy ny ry fr lo [x1] M (PI r1 M1)) (k : AT l g own cc nL ret R P n lv (.int r1 :: rest) M1) : AT l g own cc nL ret R P pc lv (x1 :: rest) M := A_callN1 hd hl0 hb0 hi hR hst hC (fun v M' e => by obtain ⟨rfl, rfl⟩ := e; exact k)
theorem A_cVv1 {idx q ci : Nat} {fs : Cx → Mem → List Value} {r : vw_C} {x1 : Value} (hd : di cc pc (.invokevirtual idx) 3 n) (hl0 : Cond.methodLink own idx y ∈ gd) (hb0 : MB y cy ny ry 1) (hi : MI y) (hq : OB q ci fs) (hc : cls[ci]? = some r) (hr : r.1 = y.cls) (hR : fr + 1 ≤ R.frames ∧ 8 + (ny + 11) + lo ≤ R.locals) (hst : (rest.map fun v => v.category).sum ≤ 8) (hC : CT l g y cy ny ry fr lo (.ref (g.1 q) :: [x1]) M (PV r1 M1)) (k : AT l g own cc nL ret R P n lv (rest) M1) : AT l g own cc nL ret R P pc lv (x1 :: .ref (g.1 q) :: rest) M := A_callV1 hd hl0 hb0 hi hq hc hr hR hst hC (fun v M' e => by obtain ⟨rfl, rfl⟩ := e; exact k)
theorem A_cSv1 {idx : Nat} {x1 : Value} (hd : di cc pc (.invokestatic idx) 3 n) (hl0 : Cond.methodLink own idx y ∈ gd) (hb0 : MB y cy ny ry 1) (hi : Cond.static y ∈ gd) (hR : fr + 1 ≤ R.frames ∧ 8 + (ny + 11) + lo ≤ R.locals) (hst : (rest.map fun v => v.category).sum ≤ 8) (hC : CT l g y cy ny ry fr lo [x1] M (PV r1 M1)) (k : AT l g own cc nL ret R P n lv (rest) M1) : AT l g own cc nL ret R P pc lv (x1 :: rest) M := A_callS1 hd hl0 hb0 hi hR hst hC (fun v M' e => by obtain ⟨rfl, rfl⟩ := e; exact k)
theorem A_cNv1 {idx : Nat} {host : String} {x1 : Value} (hd : di cc pc (.invokestatic idx) 3 n) (hl0 : Cond.methodLinkNest own idx y host ∈ nestW) (hb0 : MB y cy ny ry 1) (hi : Cond.static y ∈ gd) (hR : fr + 1 ≤ R.frames ∧ 8 + (ny + 11) + lo ≤ R.locals) (hst : (rest.map fun v => v.category).sum ≤ 8) (hC : CT l g y cy ny ry fr lo [x1] M (PV r1 M1)) (k : AT l g own cc nL ret R P n lv (rest) M1) : AT l g own cc nL ret R P pc lv (x1 :: rest) M := A_callN1 hd hl0 hb0 hi hR hst hC (fun v M' e => by obtain ⟨rfl, rfl⟩ := e; exact k)
theorem A_cVi2 {idx q ci : Nat} {fs : Cx → Mem → List Value} {r : vw_C} {x1 x2 : Value} (hd : di cc pc (.invokevirtual idx) 3 n) (hl0 : Cond.methodLink own idx y ∈ gd) (hb0 : MB y cy ny ry 2) (hi : MI y) (hq : OB q ci fs) (hc : cls[ci]? = some r) (hr : r.1 = y.cls) (hR : fr + 1 ≤ R.frames ∧ 8 + (ny + 11) + lo ≤ R.locals) (hst : (rest.map fun v => v.category).sum ≤ 8) (hC : CT l g y cy ny ry fr lo (.ref (g.1 q) :: [x1, x2]) M (PI r1 M1)) (k : AT l g own cc nL ret R P n lv (.int r1 :: rest) M1) : AT l g own cc nL ret R P pc lv (x2 :: x1 :: .ref (g.1 q) :: rest) M := A_callV2 hd hl0 hb0 hi hq hc hr hR hst hC (fun v M' e => by obtain ⟨rfl, rfl⟩ := e; exact k)
theorem A_cSi2 {idx : Nat} {x1 x2 : Value} (hd : di cc pc (.invokestatic idx) 3 n) (hl0 : Cond.methodLink own idx y ∈ gd) (hb0 : MB y cy ny ry 2) (hi : Cond.static y ∈ gd) (hR : fr + 1 ≤ R.frames ∧ 8 + (ny + 11) + lo ≤ R.locals) (hst : (rest.map fun v => v.category).sum ≤ 8) (hC : CT l g y cy ny ry fr lo [x1, x2] M (PI r1 M1)) (k : AT l g own cc nL ret R P n lv (.int r1 :: rest) M1) : AT l g own cc nL ret R P pc lv (x2 :: x1 :: rest) M := A_callS2 hd hl0 hb0 hi hR hst hC (fun v M' e => by obtain ⟨rfl, rfl⟩ := e; exact k)
theorem A_cNi2 {idx : Nat} {host : String} {x1 x2 : Value} (hd : di cc pc (.invokestatic idx) 3 n) (hl0 : Cond.methodLinkNest own idx y host ∈ nestW) (hb0 : MB y cy ny ry 2) (hi : Cond.static y ∈ gd) (hR : fr + 1 ≤ R.frames ∧ 8 + (ny + 11) + lo ≤ R.locals) (hst : (rest.map fun v => v.category).sum ≤ 8) (hC : CT l g y cy ny ry fr lo [x1, x2] M (PI r1 M1)) (k : AT l g own cc nL ret R P n lv (.int r1 :: rest) M1) : AT l g own cc nL ret R P pc lv (x2 :: x1 :: rest) M := A_callN2 hd hl0 hb0 hi hR hst hC (fun v M' e => by obtain ⟨rfl, rfl⟩ := e; exact k)
theorem A_cVv2 {idx q ci : Nat} {fs : Cx → Mem → List Value} {r : vw_C} {x1 x2 : Value} (hd : di cc pc (.invokevirtual idx) 3 n) (hl0 : Cond.methodLink own idx y ∈ gd) (hb0 : MB y cy ny ry 2) (hi : MI y) (hq : OB q ci fs) (hc : cls[ci]? = some r) (hr : r.1 = y.cls) (hR : fr + 1 ≤ R.frames ∧ 8 + (ny + 11) + lo ≤ R.locals) (hst : (rest.map fun v => v.category).sum ≤ 8) (hC : CT l g y cy ny ry fr lo (.ref (g.1 q) :: [x1, x2]) M (PV r1 M1)) (k : AT l g own cc nL ret R P n lv (rest) M1) : AT l g own cc nL ret R P pc lv (x2 :: x1 :: .ref (g.1 q) :: rest) M := A_callV2 hd hl0 hb0 hi hq hc hr hR hst hC (fun v M' e => by obtain ⟨rfl, rfl⟩ := e; exact k)
theorem A_cSv2 {idx : Nat} {x1 x2 : Value} (hd : di cc pc (.invokestatic idx) 3 n) (hl0 : Cond.methodLink own idx y ∈ gd) (hb0 : MB y cy ny ry 2) (hi : Cond.static y ∈ gd) (hR : fr + 1 ≤ R.frames ∧ 8 + (ny + 11) + lo ≤ R.locals) (hst : (rest.map fun v => v.category).sum ≤ 8) (hC : CT l g y cy ny ry fr lo [x1, x2] M (PV r1 M1)) (k : AT l g own cc nL ret R P n lv (rest) M1) : AT l g own cc nL ret R P pc lv (x2 :: x1 :: rest) M := A_callS2 hd hl0 hb0 hi hR hst hC (fun v M' e => by obtain ⟨rfl, rfl⟩ := e; exact k)
theorem A_cNv2 {idx : Nat} {host : String} {x1 x2 : Value} (hd : di cc pc (.invokestatic idx) 3 n) (hl0 : Cond.methodLinkNest own idx y host ∈ nestW) (hb0 : MB y cy ny ry 2) (hi : Cond.static y ∈ gd) (hR : fr + 1 ≤ R.frames ∧ 8 + (ny + 11) + lo ≤ R.locals) (hst : (rest.map fun v => v.category).sum ≤ 8) (hC : CT l g y cy ny ry fr lo [x1, x2] M (PV r1 M1)) (k : AT l g own cc nL ret R P n lv (rest) M1) : AT l g own cc nL ret R P pc lv (x2 :: x1 :: rest) M := A_callN2 hd hl0 hb0 hi hR hst hC (fun v M' e => by obtain ⟨rfl, rfl⟩ := e; exact k)
theorem A_cVi3 {idx q ci : Nat} {fs : Cx → Mem → List Value} {r : vw_C} {x1 x2 x3 : Value} (hd : di cc pc (.invokevirtual idx) 3 n) (hl0 : Cond.methodLink own idx y ∈ gd) (hb0 : MB y cy ny ry 3) (hi : MI y) (hq : OB q ci fs) (hc : cls[ci]? = some r) (hr : r.1 = y.cls) (hR : fr + 1 ≤ R.frames ∧ 8 + (ny + 11) + lo ≤ R.locals) (hst : (rest.map fun v => v.category).sum ≤ 8) (hC : CT l g y cy ny ry fr lo (.ref (g.1 q) :: [x1, x2, x3]) M (PI r1 M1)) (k : AT l g own cc nL ret R P n lv (.int r1 :: rest) M1) : AT l g own cc nL ret R P pc lv (x3 :: x2 :: x1 :: .ref (g.1 q) :: rest) M := A_callV3 hd hl0 hb0 hi hq hc hr hR hst hC (fun v M' e => by obtain ⟨rfl, rfl⟩ := e; exact k)
theorem A_cSi3 {idx : Nat} {x1 x2 x3 : Value} (hd : di cc pc (.invokestatic idx) 3 n) (hl0 : Cond.methodLink own idx y ∈ gd) (hb0 : MB y cy ny ry 3) (hi : Cond.static y ∈ gd) (hR : fr + 1 ≤ R.frames ∧ 8 + (ny + 11) + lo ≤ R.locals) (hst : (rest.map fun v => v.category).sum ≤ 8) (hC : CT l g y cy ny ry fr lo [x1, x2, x3] M (PI r1 M1)) (k : AT l g own cc nL ret R P n lv (.int r1 :: rest) M1) : AT l g own cc nL ret R P pc lv (x3 :: x2 :: x1 :: rest) M := A_callS3 hd hl0 hb0 hi hR hst hC (fun v M' e => by obtain ⟨rfl, rfl⟩ := e; exact k)
theorem A_cNi3 {idx : Nat} {host : String} {x1 x2 x3 : Value} (hd : di cc pc (.invokestatic idx) 3 n) (hl0 : Cond.methodLinkNest own idx y host ∈ nestW) (hb0 : MB y cy ny ry 3) (hi : Cond.static y ∈ gd) (hR : fr + 1 ≤ R.frames ∧ 8 + (ny + 11) + lo ≤ R.locals) (hst : (rest.map fun v => v.category).sum ≤ 8) (hC : CT l g y cy ny ry fr lo [x1, x2, x3] M (PI r1 M1)) (k : AT l g own cc nL ret R P n lv (.int r1 :: rest) M1) : AT l g own cc nL ret R P pc lv (x3 :: x2 :: x1 :: rest) M := A_callN3 hd hl0 hb0 hi hR hst hC (fun v M' e => by obtain ⟨rfl, rfl⟩ := e; exact k)
theorem A_cVv3 {idx q ci : Nat} {fs : Cx → Mem → List Value} {r : vw_C} {x1 x2 x3 : Value} (hd : di cc pc (.invokevirtual idx) 3 n) (hl0 : Cond.methodLink own idx y ∈ gd) (hb0 : MB y cy ny ry 3) (hi : MI y) (hq : OB q ci fs) (hc : cls[ci]? = some r) (hr : r.1 = y.cls) (hR : fr + 1 ≤ R.frames ∧ 8 + (ny + 11) + lo ≤ R.locals) (hst : (rest.map fun v => v.category).sum ≤ 8) (hC : CT l g y cy ny ry fr lo (.ref (g.1 q) :: [x1, x2, x3]) M (PV r1 M1)) (k : AT l g own cc nL ret R P n lv (rest) M1) : AT l g own cc nL ret R P pc lv (x3 :: x2 :: x1 :: .ref (g.1 q) :: rest) M := A_callV3 hd hl0 hb0 hi hq hc hr hR hst hC (fun v M' e => by obtain ⟨rfl, rfl⟩ := e; exact k)
theorem A_cSv3 {idx : Nat} {x1 x2 x3 : Value} (hd : di cc pc (.invokestatic idx) 3 n) (hl0 : Cond.methodLink own idx y ∈ gd) (hb0 : MB y cy ny ry 3) (hi : Cond.static y ∈ gd) (hR : fr + 1 ≤ R.frames ∧ 8 + (ny + 11) + lo ≤ R.locals) (hst : (rest.map fun v => v.category).sum ≤ 8) (hC : CT l g y cy ny ry fr lo [x1, x2, x3] M (PV r1 M1)) (k : AT l g own cc nL ret R P n lv (rest) M1) : AT l g own cc nL ret R P pc lv (x3 :: x2 :: x1 :: rest) M := A_callS3 hd hl0 hb0 hi hR hst hC (fun v M' e => by obtain ⟨rfl, rfl⟩ := e; exact k)
theorem A_cNv3 {idx : Nat} {host : String} {x1 x2 x3 : Value} (hd : di cc pc (.invokestatic idx) 3 n) (hl0 : Cond.methodLinkNest own idx y host ∈ nestW) (hb0 : MB y cy ny ry 3) (hi : Cond.static y ∈ gd) (hR : fr + 1 ≤ R.frames ∧ 8 + (ny + 11) + lo ≤ R.locals) (hst : (rest.map fun v => v.category).sum ≤ 8) (hC : CT l g y cy ny ry fr lo [x1, x2, x3] M (PV r1 M1)) (k : AT l g own cc nL ret R P n lv (rest) M1) : AT l g own cc nL ret R P pc lv (x3 :: x2 :: x1 :: rest) M := A_callN3 hd hl0 hb0 hi hR hst hC (fun v M' e => by obtain ⟨rfl, rfl⟩ := e; exact k)
theorem A_cVi4 {idx q ci : Nat} {fs : Cx → Mem → List Value} {r : vw_C} {x1 x2 x3 x4 : Value} (hd : di cc pc (.invokevirtual idx) 3 n) (hl0 : Cond.methodLink own idx y ∈ gd) (hb0 : MB y cy ny ry 4) (hi : MI y) (hq : OB q ci fs) (hc : cls[ci]? = some r) (hr : r.1 = y.cls) (hR : fr + 1 ≤ R.frames ∧ 8 + (ny + 11) + lo ≤ R.locals) (hst : (rest.map fun v => v.category).sum ≤ 8) (hC : CT l g y cy ny ry fr lo (.ref (g.1 q) :: [x1, x2, x3, x4]) M (PI r1 M1)) (k : AT l g own cc nL ret R P n lv (.int r1 :: rest) M1) : AT l g own cc nL ret R P pc lv (x4 :: x3 :: x2 :: x1 :: .ref (g.1 q) :: rest) M := A_callV4 hd hl0 hb0 hi hq hc hr hR hst hC (fun v M' e => by obtain ⟨rfl, rfl⟩ := e; exact k)
theorem A_cSi4 {idx : Nat} {x1 x2 x3 x4 : Value} (hd : di cc pc (.invokestatic idx) 3 n) (hl0 : Cond.methodLink own idx y ∈ gd) (hb0 : MB y cy ny ry 4) (hi : Cond.static y ∈ gd) (hR : fr + 1 ≤ R.frames ∧ 8 + (ny + 11) + lo ≤ R.locals) (hst : (rest.map fun v => v.category).sum ≤ 8) (hC : CT l g y cy ny ry fr lo [x1, x2, x3, x4] M (PI r1 M1)) (k : AT l g own cc nL ret R P n lv (.int r1 :: rest) M1) : AT l g own cc nL ret R P pc lv (x4 :: x3 :: x2 :: x1 :: rest) M := A_callS4 hd hl0 hb0 hi hR hst hC (fun v M' e => by obtain ⟨rfl, rfl⟩ := e; exact k)
theorem A_cNi4 {idx : Nat} {host : String} {x1 x2 x3 x4 : Value} (hd : di cc pc (.invokestatic idx) 3 n) (hl0 : Cond.methodLinkNest own idx y host ∈ nestW) (hb0 : MB y cy ny ry 4) (hi : Cond.static y ∈ gd) (hR : fr + 1 ≤ R.frames ∧ 8 + (ny + 11) + lo ≤ R.locals) (hst : (rest.map fun v => v.category).sum ≤ 8) (hC : CT l g y cy ny ry fr lo [x1, x2, x3, x4] M (PI r1 M1)) (k : AT l g own cc nL ret R P n lv (.int r1 :: rest) M1) : AT l g own cc nL ret R P pc lv (x4 :: x3 :: x2 :: x1 :: rest) M := A_callN4 hd hl0 hb0 hi hR hst hC (fun v M' e => by obtain ⟨rfl, rfl⟩ := e; exact k)
theorem A_cVv4 {idx q ci : Nat} {fs : Cx → Mem → List Value} {r : vw_C} {x1 x2 x3 x4 : Value} (hd : di cc pc (.invokevirtual idx) 3 n) (hl0 : Cond.methodLink own idx y ∈ gd) (hb0 : MB y cy ny ry 4) (hi : MI y) (hq : OB q ci fs) (hc : cls[ci]? = some r) (hr : r.1 = y.cls) (hR : fr + 1 ≤ R.frames ∧ 8 + (ny + 11) + lo ≤ R.locals) (hst : (rest.map fun v => v.category).sum ≤ 8) (hC : CT l g y cy ny ry fr lo (.ref (g.1 q) :: [x1, x2, x3, x4]) M (PV r1 M1)) (k : AT l g own cc nL ret R P n lv (rest) M1) : AT l g own cc nL ret R P pc lv (x4 :: x3 :: x2 :: x1 :: .ref (g.1 q) :: rest) M := A_callV4 hd hl0 hb0 hi hq hc hr hR hst hC (fun v M' e => by obtain ⟨rfl, rfl⟩ := e; exact k)
theorem A_cSv4 {idx : Nat} {x1 x2 x3 x4 : Value} (hd : di cc pc (.invokestatic idx) 3 n) (hl0 : Cond.methodLink own idx y ∈ gd) (hb0 : MB y cy ny ry 4) (hi : Cond.static y ∈ gd) (hR : fr + 1 ≤ R.frames ∧ 8 + (ny + 11) + lo ≤ R.locals) (hst : (rest.map fun v => v.category).sum ≤ 8) (hC : CT l g y cy ny ry fr lo [x1, x2, x3, x4] M (PV r1 M1)) (k : AT l g own cc nL ret R P n lv (rest) M1) : AT l g own cc nL ret R P pc lv (x4 :: x3 :: x2 :: x1 :: rest) M := A_callS4 hd hl0 hb0 hi hR hst hC (fun v M' e => by obtain ⟨rfl, rfl⟩ := e; exact k)
theorem A_cNv4 {idx : Nat} {host : String} {x1 x2 x3 x4 : Value} (hd : di cc pc (.invokestatic idx) 3 n) (hl0 : Cond.methodLinkNest own idx y host ∈ nestW) (hb0 : MB y cy ny ry 4) (hi : Cond.static y ∈ gd) (hR : fr + 1 ≤ R.frames ∧ 8 + (ny + 11) + lo ≤ R.locals) (hst : (rest.map fun v => v.category).sum ≤ 8) (hC : CT l g y cy ny ry fr lo [x1, x2, x3, x4] M (PV r1 M1)) (k : AT l g own cc nL ret R P n lv (rest) M1) : AT l g own cc nL ret R P pc lv (x4 :: x3 :: x2 :: x1 :: rest) M := A_callN4 hd hl0 hb0 hi hR hst hC (fun v M' e => by obtain ⟨rfl, rfl⟩ := e; exact k)
end CI
end
section
/-! THE WORDS that the rows take, each by its place among the tables -/
set_option maxRecDepth 100000 in
theorem lay_X0 : ∀ w ∈ u_ws RX0 TX0 4, w ∈ gd := by
  show ∀ w ∈ [u_lay RX0 TX0 0, u_lay RX0 TX0 1, u_lay RX0 TX0 2, u_lay RX0 TX0 3], w ∈ gd
  exact List.forall_mem_cons.mpr ⟨gd_t 266 (by decide +kernel), List.forall_mem_cons.mpr ⟨gd_t 268 (by decide +kernel), List.forall_mem_cons.mpr ⟨gd_t 270 (by decide +kernel), List.forall_mem_cons.mpr ⟨gd_t 272 (by decide +kernel), fun _ h => absurd h List.not_mem_nil⟩⟩⟩⟩
set_option maxRecDepth 100000 in
theorem lay_X1 : ∀ w ∈ u_ws RX1 TX1 4, w ∈ gd := by
  show ∀ w ∈ [u_lay RX1 TX1 0, u_lay RX1 TX1 1, u_lay RX1 TX1 2, u_lay RX1 TX1 3], w ∈ gd
  exact List.forall_mem_cons.mpr ⟨gd_t 37 (by decide +kernel), List.forall_mem_cons.mpr ⟨gd_t 39 (by decide +kernel), List.forall_mem_cons.mpr ⟨gd_t 41 (by decide +kernel), List.forall_mem_cons.mpr ⟨gd_t 43 (by decide +kernel), fun _ h => absurd h List.not_mem_nil⟩⟩⟩⟩
set_option maxRecDepth 100000 in
theorem lay_X2 : ∀ w ∈ u_ws RX2 TX2 5, w ∈ gd := by
  show ∀ w ∈ [u_lay RX2 TX2 0, u_lay RX2 TX2 1, u_lay RX2 TX2 2, u_lay RX2 TX2 3, u_lay RX2 TX2 4], w ∈ gd
  exact List.forall_mem_cons.mpr ⟨gd_t 113 (by decide +kernel), List.forall_mem_cons.mpr ⟨gd_t 115 (by decide +kernel), List.forall_mem_cons.mpr ⟨gd_t 117 (by decide +kernel), List.forall_mem_cons.mpr ⟨gd_t 119 (by decide +kernel), List.forall_mem_cons.mpr ⟨gd_t 121 (by decide +kernel), fun _ h => absurd h List.not_mem_nil⟩⟩⟩⟩⟩
set_option maxRecDepth 100000 in
theorem lay_X3 : ∀ w ∈ u_ws RX3 TX3 3, w ∈ gd := by
  show ∀ w ∈ [u_lay RX3 TX3 0, u_lay RX3 TX3 1, u_lay RX3 TX3 2], w ∈ gd
  exact List.forall_mem_cons.mpr ⟨gd_t 249 (by decide +kernel), List.forall_mem_cons.mpr ⟨gd_t 251 (by decide +kernel), List.forall_mem_cons.mpr ⟨gd_t 253 (by decide +kernel), fun _ h => absurd h List.not_mem_nil⟩⟩⟩
set_option maxRecDepth 100000 in
theorem lay_X4 : ∀ w ∈ u_ws RX4 TX4 7, w ∈ gd := by
  show ∀ w ∈ [u_lay RX4 TX4 0, u_lay RX4 TX4 1, u_lay RX4 TX4 2, u_lay RX4 TX4 3, u_lay RX4 TX4 4, u_lay RX4 TX4 5, u_lay RX4 TX4 6], w ∈ gd
  exact List.forall_mem_cons.mpr ⟨gd_t 138 (by decide +kernel), List.forall_mem_cons.mpr ⟨gd_t 140 (by decide +kernel), List.forall_mem_cons.mpr ⟨gd_t 142 (by decide +kernel), List.forall_mem_cons.mpr ⟨gd_t 144 (by decide +kernel), List.forall_mem_cons.mpr ⟨gd_t 146 (by decide +kernel), List.forall_mem_cons.mpr ⟨gd_t 148 (by decide +kernel), List.forall_mem_cons.mpr ⟨gd_t 150 (by decide +kernel), fun _ h => absurd h List.not_mem_nil⟩⟩⟩⟩⟩⟩⟩
set_option maxRecDepth 100000 in
theorem lay_X5 : ∀ w ∈ u_ws RX5 TX5 5, w ∈ gd := by
  show ∀ w ∈ [u_lay RX5 TX5 0, u_lay RX5 TX5 1, u_lay RX5 TX5 2, u_lay RX5 TX5 3, u_lay RX5 TX5 4], w ∈ gd
  exact List.forall_mem_cons.mpr ⟨gd_t 164 (by decide +kernel), List.forall_mem_cons.mpr ⟨gd_t 166 (by decide +kernel), List.forall_mem_cons.mpr ⟨gd_t 168 (by decide +kernel), List.forall_mem_cons.mpr ⟨gd_t 170 (by decide +kernel), List.forall_mem_cons.mpr ⟨gd_t 172 (by decide +kernel), fun _ h => absurd h List.not_mem_nil⟩⟩⟩⟩⟩
set_option maxRecDepth 100000 in
theorem lay_X6 : ∀ w ∈ u_ws RX6 TX6 6, w ∈ gd := by
  show ∀ w ∈ [u_lay RX6 TX6 0, u_lay RX6 TX6 1, u_lay RX6 TX6 2, u_lay RX6 TX6 3, u_lay RX6 TX6 4, u_lay RX6 TX6 5], w ∈ gd
  exact List.forall_mem_cons.mpr ⟨gd_t 290 (by decide +kernel), List.forall_mem_cons.mpr ⟨gd_t 292 (by decide +kernel), List.forall_mem_cons.mpr ⟨gd_t 294 (by decide +kernel), List.forall_mem_cons.mpr ⟨gd_t 296 (by decide +kernel), List.forall_mem_cons.mpr ⟨gd_t 298 (by decide +kernel), List.forall_mem_cons.mpr ⟨gd_t 300 (by decide +kernel), fun _ h => absurd h List.not_mem_nil⟩⟩⟩⟩⟩⟩
set_option maxRecDepth 100000 in
theorem lay_X7 : ∀ w ∈ u_ws RX7 TX7 5, w ∈ gd := by
  show ∀ w ∈ [u_lay RX7 TX7 0, u_lay RX7 TX7 1, u_lay RX7 TX7 2, u_lay RX7 TX7 3, u_lay RX7 TX7 4], w ∈ gd
  exact List.forall_mem_cons.mpr ⟨gd_t 229 (by decide +kernel), List.forall_mem_cons.mpr ⟨gd_t 231 (by decide +kernel), List.forall_mem_cons.mpr ⟨gd_t 233 (by decide +kernel), List.forall_mem_cons.mpr ⟨gd_t 235 (by decide +kernel), List.forall_mem_cons.mpr ⟨gd_t 237 (by decide +kernel), fun _ h => absurd h List.not_mem_nil⟩⟩⟩⟩⟩
set_option maxRecDepth 100000 in
theorem lay_X8 : ∀ w ∈ u_ws RX8 TX8 16, w ∈ gd := by
  show ∀ w ∈ [u_lay RX8 TX8 0, u_lay RX8 TX8 1, u_lay RX8 TX8 2, u_lay RX8 TX8 3, u_lay RX8 TX8 4, u_lay RX8 TX8 5, u_lay RX8 TX8 6, u_lay RX8 TX8 7, u_lay RX8 TX8 8, u_lay RX8 TX8 9, u_lay RX8 TX8 10, u_lay RX8 TX8 11, u_lay RX8 TX8 12, u_lay RX8 TX8 13, u_lay RX8 TX8 14, u_lay RX8 TX8 15], w ∈ gd
  exact List.forall_mem_cons.mpr ⟨gd_t 69 (by decide +kernel), List.forall_mem_cons.mpr ⟨gd_t 71 (by decide +kernel), List.forall_mem_cons.mpr ⟨gd_t 73 (by decide +kernel), List.forall_mem_cons.mpr ⟨gd_t 75 (by decide +kernel), List.forall_mem_cons.mpr ⟨gd_t 77 (by decide +kernel), List.forall_mem_cons.mpr ⟨gd_t 79 (by decide +kernel), List.forall_mem_cons.mpr ⟨gd_t 81 (by decide +kernel), List.forall_mem_cons.mpr ⟨gd_t 83 (by decide +kernel), List.forall_mem_cons.mpr ⟨gd_t 85 (by decide +kernel), List.forall_mem_cons.mpr ⟨gd_t 87 (by decide +kernel), List.forall_mem_cons.mpr ⟨gd_t 89 (by decide +kernel), List.forall_mem_cons.mpr ⟨gd_t 91 (by decide +kernel), List.forall_mem_cons.mpr ⟨gd_t 93 (by decide +kernel), List.forall_mem_cons.mpr ⟨gd_t 95 (by decide +kernel), List.forall_mem_cons.mpr ⟨gd_t 97 (by decide +kernel), List.forall_mem_cons.mpr ⟨gd_t 99 (by decide +kernel), fun _ h => absurd h List.not_mem_nil⟩⟩⟩⟩⟩⟩⟩⟩⟩⟩⟩⟩⟩⟩⟩⟩
set_option maxRecDepth 100000 in
theorem lay_X9 : ∀ w ∈ u_ws RX9 TX9 11, w ∈ gd := by
  show ∀ w ∈ [u_lay RX9 TX9 0, u_lay RX9 TX9 1, u_lay RX9 TX9 2, u_lay RX9 TX9 3, u_lay RX9 TX9 4, u_lay RX9 TX9 5, u_lay RX9 TX9 6, u_lay RX9 TX9 7, u_lay RX9 TX9 8, u_lay RX9 TX9 9, u_lay RX9 TX9 10], w ∈ gd
  exact List.forall_mem_cons.mpr ⟨gd_t 195 (by decide +kernel), List.forall_mem_cons.mpr ⟨gd_t 197 (by decide +kernel), List.forall_mem_cons.mpr ⟨gd_t 199 (by decide +kernel), List.forall_mem_cons.mpr ⟨gd_t 201 (by decide +kernel), List.forall_mem_cons.mpr ⟨gd_t 203 (by decide +kernel), List.forall_mem_cons.mpr ⟨gd_t 205 (by decide +kernel), List.forall_mem_cons.mpr ⟨gd_t 207 (by decide +kernel), List.forall_mem_cons.mpr ⟨gd_t 209 (by decide +kernel), List.forall_mem_cons.mpr ⟨gd_t 211 (by decide +kernel), List.forall_mem_cons.mpr ⟨gd_t 213 (by decide +kernel), List.forall_mem_cons.mpr ⟨gd_t 215 (by decide +kernel), fun _ h => absurd h List.not_mem_nil⟩⟩⟩⟩⟩⟩⟩⟩⟩⟩⟩
set_option maxRecDepth 100000 in
theorem lay_X10 : ∀ w ∈ u_ws RX10 TX10 14, w ∈ gd := by
  show ∀ w ∈ [u_lay RX10 TX10 0, u_lay RX10 TX10 1, u_lay RX10 TX10 2, u_lay RX10 TX10 3, u_lay RX10 TX10 4, u_lay RX10 TX10 5, u_lay RX10 TX10 6, u_lay RX10 TX10 7, u_lay RX10 TX10 8, u_lay RX10 TX10 9, u_lay RX10 TX10 10, u_lay RX10 TX10 11, u_lay RX10 TX10 12, u_lay RX10 TX10 13], w ∈ gd
  exact List.forall_mem_cons.mpr ⟨gd_t 317 (by decide +kernel), List.forall_mem_cons.mpr ⟨gd_t 319 (by decide +kernel), List.forall_mem_cons.mpr ⟨gd_t 321 (by decide +kernel), List.forall_mem_cons.mpr ⟨gd_t 323 (by decide +kernel), List.forall_mem_cons.mpr ⟨gd_t 325 (by decide +kernel), List.forall_mem_cons.mpr ⟨gd_t 327 (by decide +kernel), List.forall_mem_cons.mpr ⟨gd_t 329 (by decide +kernel), List.forall_mem_cons.mpr ⟨gd_t 331 (by decide +kernel), List.forall_mem_cons.mpr ⟨gd_t 333 (by decide +kernel), List.forall_mem_cons.mpr ⟨gd_t 335 (by decide +kernel), List.forall_mem_cons.mpr ⟨gd_t 337 (by decide +kernel), List.forall_mem_cons.mpr ⟨gd_t 339 (by decide +kernel), List.forall_mem_cons.mpr ⟨gd_t 341 (by decide +kernel), List.forall_mem_cons.mpr ⟨gd_t 343 (by decide +kernel), fun _ h => absurd h List.not_mem_nil⟩⟩⟩⟩⟩⟩⟩⟩⟩⟩⟩⟩⟩⟩
set_option maxRecDepth 100000 in
theorem lay_X11 : ∀ w ∈ u_ws RX11 TX11 49, w ∈ gd := by
  show ∀ w ∈ [u_lay RX11 TX11 0, u_lay RX11 TX11 1, u_lay RX11 TX11 2, u_lay RX11 TX11 3, u_lay RX11 TX11 4, u_lay RX11 TX11 5, u_lay RX11 TX11 6, u_lay RX11 TX11 7, u_lay RX11 TX11 8, u_lay RX11 TX11 9, u_lay RX11 TX11 10, u_lay RX11 TX11 11, u_lay RX11 TX11 12, u_lay RX11 TX11 13, u_lay RX11 TX11 14, u_lay RX11 TX11 15, u_lay RX11 TX11 16, u_lay RX11 TX11 17, u_lay RX11 TX11 18, u_lay RX11 TX11 19, u_lay RX11 TX11 20, u_lay RX11 TX11 21, u_lay RX11 TX11 22, u_lay RX11 TX11 23, u_lay RX11 TX11 24, u_lay RX11 TX11 25, u_lay RX11 TX11 26, u_lay RX11 TX11 27, u_lay RX11 TX11 28, u_lay RX11 TX11 29, u_lay RX11 TX11 30, u_lay RX11 TX11 31, u_lay RX11 TX11 32, u_lay RX11 TX11 33, u_lay RX11 TX11 34, u_lay RX11 TX11 35, u_lay RX11 TX11 36, u_lay RX11 TX11 37, u_lay RX11 TX11 38, u_lay RX11 TX11 39, u_lay RX11 TX11 40, u_lay RX11 TX11 41, u_lay RX11 TX11 42, u_lay RX11 TX11 43, u_lay RX11 TX11 44, u_lay RX11 TX11 45, u_lay RX11 TX11 46, u_lay RX11 TX11 47, u_lay RX11 TX11 48], w ∈ gd
  exact List.forall_mem_cons.mpr ⟨gd_t 1063 (by decide +kernel), List.forall_mem_cons.mpr ⟨gd_t 1065 (by decide +kernel), List.forall_mem_cons.mpr ⟨gd_t 1067 (by decide +kernel), List.forall_mem_cons.mpr ⟨gd_t 1069 (by decide +kernel), List.forall_mem_cons.mpr ⟨gd_t 1071 (by decide +kernel), List.forall_mem_cons.mpr ⟨gd_t 1073 (by decide +kernel), List.forall_mem_cons.mpr ⟨gd_t 1075 (by decide +kernel), List.forall_mem_cons.mpr ⟨gd_t 1077 (by decide +kernel), List.forall_mem_cons.mpr ⟨gd_t 1079 (by decide +kernel), List.forall_mem_cons.mpr ⟨gd_t 1081 (by decide +kernel), List.forall_mem_cons.mpr ⟨gd_t 1083 (by decide +kernel), List.forall_mem_cons.mpr ⟨gd_t 1085 (by decide +kernel), List.forall_mem_cons.mpr ⟨gd_t 1087 (by decide +kernel), List.forall_mem_cons.mpr ⟨gd_t 1089 (by decide +kernel), List.forall_mem_cons.mpr ⟨gd_t 1091 (by decide +kernel), List.forall_mem_cons.mpr ⟨gd_t 1093 (by decide +kernel), List.forall_mem_cons.mpr ⟨gd_t 1095 (by decide +kernel), List.forall_mem_cons.mpr ⟨gd_t 1097 (by decide +kernel), List.forall_mem_cons.mpr ⟨gd_t 1099 (by decide +kernel), List.forall_mem_cons.mpr ⟨gd_t 1101 (by decide +kernel), List.forall_mem_cons.mpr ⟨gd_t 1103 (by decide +kernel), List.forall_mem_cons.mpr ⟨gd_t 1105 (by decide +kernel), List.forall_mem_cons.mpr ⟨gd_t 1107 (by decide +kernel), List.forall_mem_cons.mpr ⟨gd_t 1109 (by decide +kernel), List.forall_mem_cons.mpr ⟨gd_t 1111 (by decide +kernel), List.forall_mem_cons.mpr ⟨gd_t 1113 (by decide +kernel), List.forall_mem_cons.mpr ⟨gd_t 1115 (by decide +kernel), List.forall_mem_cons.mpr ⟨gd_t 1117 (by decide +kernel), List.forall_mem_cons.mpr ⟨gd_t 1119 (by decide +kernel), List.forall_mem_cons.mpr ⟨gd_t 1121 (by decide +kernel), List.forall_mem_cons.mpr ⟨gd_t 1123 (by decide +kernel), List.forall_mem_cons.mpr ⟨gd_t 1125 (by decide +kernel), List.forall_mem_cons.mpr ⟨gd_t 1127 (by decide +kernel), List.forall_mem_cons.mpr ⟨gd_t 1129 (by decide +kernel), List.forall_mem_cons.mpr ⟨gd_t 1131 (by decide +kernel), List.forall_mem_cons.mpr ⟨gd_t 1133 (by decide +kernel), List.forall_mem_cons.mpr ⟨gd_t 1135 (by decide +kernel), List.forall_mem_cons.mpr ⟨gd_t 1137 (by decide +kernel), List.forall_mem_cons.mpr ⟨gd_t 1139 (by decide +kernel), List.forall_mem_cons.mpr ⟨gd_t 1141 (by decide +kernel), List.forall_mem_cons.mpr ⟨gd_t 1143 (by decide +kernel), List.forall_mem_cons.mpr ⟨gd_t 1145 (by decide +kernel), List.forall_mem_cons.mpr ⟨gd_t 1147 (by decide +kernel), List.forall_mem_cons.mpr ⟨gd_t 1149 (by decide +kernel), List.forall_mem_cons.mpr ⟨gd_t 1151 (by decide +kernel), List.forall_mem_cons.mpr ⟨gd_t 1153 (by decide +kernel), List.forall_mem_cons.mpr ⟨gd_t 1155 (by decide +kernel), List.forall_mem_cons.mpr ⟨gd_t 1157 (by decide +kernel), List.forall_mem_cons.mpr ⟨gd_t 1159 (by decide +kernel), fun _ h => absurd h List.not_mem_nil⟩⟩⟩⟩⟩⟩⟩⟩⟩⟩⟩⟩⟩⟩⟩⟩⟩⟩⟩⟩⟩⟩⟩⟩⟩⟩⟩⟩⟩⟩⟩⟩⟩⟩⟩⟩⟩⟩⟩⟩⟩⟩⟩⟩⟩⟩⟩⟩⟩
set_option maxRecDepth 100000 in
theorem fw_X1_11 : FW RX1 11 1 0 := ⟨RX1, TX1, 4, rfl, by decide, gd_t 33 ⟨rfl, rfl⟩, lay_X1⟩
set_option maxRecDepth 100000 in
theorem fw_X1_26 : FW RX1 26 1 1 := ⟨RX1, TX1, 4, rfl, by decide, gd_t 34 ⟨rfl, rfl⟩, lay_X1⟩
set_option maxRecDepth 100000 in
theorem pw_X1_26 : PW RX1 26 1 1 := ⟨RX1, TX1, 4, tyX1, rfl, by decide, gd_t 34 ⟨rfl, rfl⟩, lay_X1, tyX1_ok, nmX1, rfl, by decide +kernel⟩
set_option maxRecDepth 100000 in
theorem fw_X1_15 : FW RX1 15 1 2 := ⟨RX1, TX1, 4, rfl, by decide, gd_t 35 ⟨rfl, rfl⟩, lay_X1⟩
set_option maxRecDepth 100000 in
theorem pw_X1_15 : PW RX1 15 1 2 := ⟨RX1, TX1, 4, tyX1, rfl, by decide, gd_t 35 ⟨rfl, rfl⟩, lay_X1, tyX1_ok, nmX1, rfl, by decide +kernel⟩
set_option maxRecDepth 100000 in
theorem fw_X1_19 : FW RX1 19 1 3 := ⟨RX1, TX1, 4, rfl, by decide, gd_t 36 ⟨rfl, rfl⟩, lay_X1⟩
set_option maxRecDepth 100000 in
theorem pw_X1_19 : PW RX1 19 1 3 := ⟨RX1, TX1, 4, tyX1, rfl, by decide, gd_t 36 ⟨rfl, rfl⟩, lay_X1, tyX1_ok, nmX1, rfl, by decide +kernel⟩
set_option maxRecDepth 100000 in
theorem fw_X8_33 : FW RX8 33 8 0 := ⟨RX8, TX8, 16, rfl, by decide, gd_t 53 ⟨rfl, rfl⟩, lay_X8⟩
set_option maxRecDepth 100000 in
theorem fw_X8_9 : FW RX8 9 8 1 := ⟨RX8, TX8, 16, rfl, by decide, gd_t 54 ⟨rfl, rfl⟩, lay_X8⟩
set_option maxRecDepth 100000 in
theorem fw_X8_15 : FW RX8 15 8 2 := ⟨RX8, TX8, 16, rfl, by decide, gd_t 55 ⟨rfl, rfl⟩, lay_X8⟩
set_option maxRecDepth 100000 in
theorem fw_X8_37 : FW RX8 37 8 3 := ⟨RX8, TX8, 16, rfl, by decide, gd_t 56 ⟨rfl, rfl⟩, lay_X8⟩
set_option maxRecDepth 100000 in
theorem pw_X8_37 : PW RX8 37 8 3 := ⟨RX8, TX8, 16, tyX8, rfl, by decide, gd_t 56 ⟨rfl, rfl⟩, lay_X8, tyX8_ok, nmX8, rfl, by decide +kernel⟩
set_option maxRecDepth 100000 in
theorem fw_X8_18 : FW RX8 18 8 4 := ⟨RX8, TX8, 16, rfl, by decide, gd_t 57 ⟨rfl, rfl⟩, lay_X8⟩
set_option maxRecDepth 100000 in
theorem fw_X8_21 : FW RX8 21 8 5 := ⟨RX8, TX8, 16, rfl, by decide, gd_t 58 ⟨rfl, rfl⟩, lay_X8⟩
set_option maxRecDepth 100000 in
theorem fw_X8_24 : FW RX8 24 8 6 := ⟨RX8, TX8, 16, rfl, by decide, gd_t 59 ⟨rfl, rfl⟩, lay_X8⟩
set_option maxRecDepth 100000 in
theorem fw_X8_27 : FW RX8 27 8 7 := ⟨RX8, TX8, 16, rfl, by decide, gd_t 60 ⟨rfl, rfl⟩, lay_X8⟩
set_option maxRecDepth 100000 in
theorem fw_X8_41 : FW RX8 41 8 8 := ⟨RX8, TX8, 16, rfl, by decide, gd_t 61 ⟨rfl, rfl⟩, lay_X8⟩
set_option maxRecDepth 100000 in
theorem pw_X8_41 : PW RX8 41 8 8 := ⟨RX8, TX8, 16, tyX8, rfl, by decide, gd_t 61 ⟨rfl, rfl⟩, lay_X8, tyX8_ok, nmX8, rfl, by decide +kernel⟩
set_option maxRecDepth 100000 in
theorem fw_X8_30 : FW RX8 30 8 9 := ⟨RX8, TX8, 16, rfl, by decide, gd_t 62 ⟨rfl, rfl⟩, lay_X8⟩
set_option maxRecDepth 100000 in
theorem fw_X8_72 : FW RX8 72 8 10 := ⟨RX8, TX8, 16, rfl, by decide, gd_t 63 ⟨rfl, rfl⟩, lay_X8⟩
set_option maxRecDepth 100000 in
theorem pw_X8_72 : PW RX8 72 8 10 := ⟨RX8, TX8, 16, tyX8, rfl, by decide, gd_t 63 ⟨rfl, rfl⟩, lay_X8, tyX8_ok, nmX8, rfl, by decide +kernel⟩
set_option maxRecDepth 100000 in
theorem fw_X8_75 : FW RX8 75 8 11 := ⟨RX8, TX8, 16, rfl, by decide, gd_t 64 ⟨rfl, rfl⟩, lay_X8⟩
set_option maxRecDepth 100000 in
theorem pw_X8_75 : PW RX8 75 8 11 := ⟨RX8, TX8, 16, tyX8, rfl, by decide, gd_t 64 ⟨rfl, rfl⟩, lay_X8, tyX8_ok, nmX8, rfl, by decide +kernel⟩
set_option maxRecDepth 100000 in
theorem fw_X8_61 : FW RX8 61 8 12 := ⟨RX8, TX8, 16, rfl, by decide, gd_t 65 ⟨rfl, rfl⟩, lay_X8⟩
set_option maxRecDepth 100000 in
theorem pw_X8_61 : PW RX8 61 8 12 := ⟨RX8, TX8, 16, tyX8, rfl, by decide, gd_t 65 ⟨rfl, rfl⟩, lay_X8, tyX8_ok, nmX8, rfl, by decide +kernel⟩
set_option maxRecDepth 100000 in
theorem fw_X8_69 : FW RX8 69 8 13 := ⟨RX8, TX8, 16, rfl, by decide, gd_t 66 ⟨rfl, rfl⟩, lay_X8⟩
set_option maxRecDepth 100000 in
theorem pw_X8_69 : PW RX8 69 8 13 := ⟨RX8, TX8, 16, tyX8, rfl, by decide, gd_t 66 ⟨rfl, rfl⟩, lay_X8, tyX8_ok, nmX8, rfl, by decide +kernel⟩
set_option maxRecDepth 100000 in
theorem fw_X8_78 : FW RX8 78 8 14 := ⟨RX8, TX8, 16, rfl, by decide, gd_t 67 ⟨rfl, rfl⟩, lay_X8⟩
set_option maxRecDepth 100000 in
theorem pw_X8_78 : PW RX8 78 8 14 := ⟨RX8, TX8, 16, tyX8, rfl, by decide, gd_t 67 ⟨rfl, rfl⟩, lay_X8, tyX8_ok, nmX8, rfl, by decide +kernel⟩
set_option maxRecDepth 100000 in
theorem fw_X8_81 : FW RX8 81 8 15 := ⟨RX8, TX8, 16, rfl, by decide, gd_t 68 ⟨rfl, rfl⟩, lay_X8⟩
set_option maxRecDepth 100000 in
theorem pw_X8_81 : PW RX8 81 8 15 := ⟨RX8, TX8, 16, tyX8, rfl, by decide, gd_t 68 ⟨rfl, rfl⟩, lay_X8, tyX8_ok, nmX8, rfl, by decide +kernel⟩
set_option maxRecDepth 100000 in
theorem fw_X2_9 : FW RX2 9 2 0 := ⟨RX2, TX2, 5, rfl, by decide, gd_t 108 ⟨rfl, rfl⟩, lay_X2⟩
set_option maxRecDepth 100000 in
theorem fw_X2_15 : FW RX2 15 2 1 := ⟨RX2, TX2, 5, rfl, by decide, gd_t 109 ⟨rfl, rfl⟩, lay_X2⟩
set_option maxRecDepth 100000 in
theorem fw_X2_18 : FW RX2 18 2 2 := ⟨RX2, TX2, 5, rfl, by decide, gd_t 110 ⟨rfl, rfl⟩, lay_X2⟩
set_option maxRecDepth 100000 in
theorem fw_X2_21 : FW RX2 21 2 3 := ⟨RX2, TX2, 5, rfl, by decide, gd_t 111 ⟨rfl, rfl⟩, lay_X2⟩
set_option maxRecDepth 100000 in
theorem fw_X2_25 : FW RX2 25 2 4 := ⟨RX2, TX2, 5, rfl, by decide, gd_t 112 ⟨rfl, rfl⟩, lay_X2⟩
set_option maxRecDepth 100000 in
theorem pw_X2_25 : PW RX2 25 2 4 := ⟨RX2, TX2, 5, tyX2, rfl, by decide, gd_t 112 ⟨rfl, rfl⟩, lay_X2, tyX2_ok, nmX2, rfl, by decide +kernel⟩
set_option maxRecDepth 100000 in
theorem fw_X4_26 : FW RX4 26 4 0 := ⟨RX4, TX4, 7, rfl, by decide, gd_t 131 ⟨rfl, rfl⟩, lay_X4⟩
set_option maxRecDepth 100000 in
theorem fw_X4_30 : FW RX4 30 4 1 := ⟨RX4, TX4, 7, rfl, by decide, gd_t 132 ⟨rfl, rfl⟩, lay_X4⟩
set_option maxRecDepth 100000 in
theorem fw_X4_11 : FW RX4 11 4 2 := ⟨RX4, TX4, 7, rfl, by decide, gd_t 133 ⟨rfl, rfl⟩, lay_X4⟩
set_option maxRecDepth 100000 in
theorem fw_X4_15 : FW RX4 15 4 3 := ⟨RX4, TX4, 7, rfl, by decide, gd_t 134 ⟨rfl, rfl⟩, lay_X4⟩
set_option maxRecDepth 100000 in
theorem fw_X4_18 : FW RX4 18 4 4 := ⟨RX4, TX4, 7, rfl, by decide, gd_t 135 ⟨rfl, rfl⟩, lay_X4⟩
set_option maxRecDepth 100000 in
theorem fw_X4_23 : FW RX4 23 4 5 := ⟨RX4, TX4, 7, rfl, by decide, gd_t 136 ⟨rfl, rfl⟩, lay_X4⟩
set_option maxRecDepth 100000 in
theorem fw_X4_34 : FW RX4 34 4 6 := ⟨RX4, TX4, 7, rfl, by decide, gd_t 137 ⟨rfl, rfl⟩, lay_X4⟩
set_option maxRecDepth 100000 in
theorem pw_X4_34 : PW RX4 34 4 6 := ⟨RX4, TX4, 7, tyX4, rfl, by decide, gd_t 137 ⟨rfl, rfl⟩, lay_X4, tyX4_ok, nmX4, rfl, by decide +kernel⟩
set_option maxRecDepth 100000 in
theorem fw_X5_9 : FW RX5 9 5 0 := ⟨RX5, TX5, 5, rfl, by decide, gd_t 159 ⟨rfl, rfl⟩, lay_X5⟩
set_option maxRecDepth 100000 in
theorem fw_X5_15 : FW RX5 15 5 1 := ⟨RX5, TX5, 5, rfl, by decide, gd_t 160 ⟨rfl, rfl⟩, lay_X5⟩
set_option maxRecDepth 100000 in
theorem fw_X5_18 : FW RX5 18 5 2 := ⟨RX5, TX5, 5, rfl, by decide, gd_t 161 ⟨rfl, rfl⟩, lay_X5⟩
set_option maxRecDepth 100000 in
theorem fw_X5_21 : FW RX5 21 5 3 := ⟨RX5, TX5, 5, rfl, by decide, gd_t 162 ⟨rfl, rfl⟩, lay_X5⟩
set_option maxRecDepth 100000 in
theorem pw_X5_21 : PW RX5 21 5 3 := ⟨RX5, TX5, 5, tyX5, rfl, by decide, gd_t 162 ⟨rfl, rfl⟩, lay_X5, tyX5_ok, nmX5, rfl, by decide +kernel⟩
set_option maxRecDepth 100000 in
theorem fw_X5_33 : FW RX5 33 5 4 := ⟨RX5, TX5, 5, rfl, by decide, gd_t 163 ⟨rfl, rfl⟩, lay_X5⟩
set_option maxRecDepth 100000 in
theorem pw_X5_33 : PW RX5 33 5 4 := ⟨RX5, TX5, 5, tyX5, rfl, by decide, gd_t 163 ⟨rfl, rfl⟩, lay_X5, tyX5_ok, nmX5, rfl, by decide +kernel⟩
set_option maxRecDepth 100000 in
theorem fw_X9_37 : FW RX9 37 9 0 := ⟨RX9, TX9, 11, rfl, by decide, gd_t 184 ⟨rfl, rfl⟩, lay_X9⟩
set_option maxRecDepth 100000 in
theorem fw_X9_41 : FW RX9 41 9 1 := ⟨RX9, TX9, 11, rfl, by decide, gd_t 185 ⟨rfl, rfl⟩, lay_X9⟩
set_option maxRecDepth 100000 in
theorem fw_X9_11 : FW RX9 11 9 2 := ⟨RX9, TX9, 11, rfl, by decide, gd_t 186 ⟨rfl, rfl⟩, lay_X9⟩
set_option maxRecDepth 100000 in
theorem fw_X9_15 : FW RX9 15 9 3 := ⟨RX9, TX9, 11, rfl, by decide, gd_t 187 ⟨rfl, rfl⟩, lay_X9⟩
set_option maxRecDepth 100000 in
theorem fw_X9_18 : FW RX9 18 9 4 := ⟨RX9, TX9, 11, rfl, by decide, gd_t 188 ⟨rfl, rfl⟩, lay_X9⟩
set_option maxRecDepth 100000 in
theorem fw_X9_21 : FW RX9 21 9 5 := ⟨RX9, TX9, 11, rfl, by decide, gd_t 189 ⟨rfl, rfl⟩, lay_X9⟩
set_option maxRecDepth 100000 in
theorem fw_X9_24 : FW RX9 24 9 6 := ⟨RX9, TX9, 11, rfl, by decide, gd_t 190 ⟨rfl, rfl⟩, lay_X9⟩
set_option maxRecDepth 100000 in
theorem fw_X9_27 : FW RX9 27 9 7 := ⟨RX9, TX9, 11, rfl, by decide, gd_t 191 ⟨rfl, rfl⟩, lay_X9⟩
set_option maxRecDepth 100000 in
theorem fw_X9_30 : FW RX9 30 9 8 := ⟨RX9, TX9, 11, rfl, by decide, gd_t 192 ⟨rfl, rfl⟩, lay_X9⟩
set_option maxRecDepth 100000 in
theorem fw_X9_34 : FW RX9 34 9 9 := ⟨RX9, TX9, 11, rfl, by decide, gd_t 193 ⟨rfl, rfl⟩, lay_X9⟩
set_option maxRecDepth 100000 in
theorem fw_X9_51 : FW RX9 51 9 10 := ⟨RX9, TX9, 11, rfl, by decide, gd_t 194 ⟨rfl, rfl⟩, lay_X9⟩
set_option maxRecDepth 100000 in
theorem pw_X9_51 : PW RX9 51 9 10 := ⟨RX9, TX9, 11, tyX9, rfl, by decide, gd_t 194 ⟨rfl, rfl⟩, lay_X9, tyX9_ok, nmX9, rfl, by decide +kernel⟩
set_option maxRecDepth 100000 in
theorem fw_X7_11 : FW RX7 11 7 0 := ⟨RX7, TX7, 5, rfl, by decide, gd_t 224 ⟨rfl, rfl⟩, lay_X7⟩
set_option maxRecDepth 100000 in
theorem fw_X7_15 : FW RX7 15 7 1 := ⟨RX7, TX7, 5, rfl, by decide, gd_t 225 ⟨rfl, rfl⟩, lay_X7⟩
set_option maxRecDepth 100000 in
theorem fw_X7_18 : FW RX7 18 7 2 := ⟨RX7, TX7, 5, rfl, by decide, gd_t 226 ⟨rfl, rfl⟩, lay_X7⟩
set_option maxRecDepth 100000 in
theorem fw_X7_21 : FW RX7 21 7 3 := ⟨RX7, TX7, 5, rfl, by decide, gd_t 227 ⟨rfl, rfl⟩, lay_X7⟩
set_option maxRecDepth 100000 in
theorem fw_X7_24 : FW RX7 24 7 4 := ⟨RX7, TX7, 5, rfl, by decide, gd_t 228 ⟨rfl, rfl⟩, lay_X7⟩
set_option maxRecDepth 100000 in
theorem pw_X7_24 : PW RX7 24 7 4 := ⟨RX7, TX7, 5, tyX7, rfl, by decide, gd_t 228 ⟨rfl, rfl⟩, lay_X7, tyX7_ok, nmX7, rfl, by decide +kernel⟩
set_option maxRecDepth 100000 in
theorem fw_X3_9 : FW RX3 9 3 0 := ⟨RX3, TX3, 3, rfl, by decide, gd_t 246 ⟨rfl, rfl⟩, lay_X3⟩
set_option maxRecDepth 100000 in
theorem fw_X3_15 : FW RX3 15 3 1 := ⟨RX3, TX3, 3, rfl, by decide, gd_t 247 ⟨rfl, rfl⟩, lay_X3⟩
set_option maxRecDepth 100000 in
theorem fw_X3_19 : FW RX3 19 3 2 := ⟨RX3, TX3, 3, rfl, by decide, gd_t 248 ⟨rfl, rfl⟩, lay_X3⟩
set_option maxRecDepth 100000 in
theorem fw_X0_22 : FW RX0 22 0 0 := ⟨RX0, TX0, 4, rfl, by decide, gd_t 262 ⟨rfl, rfl⟩, lay_X0⟩
set_option maxRecDepth 100000 in
theorem fw_X0_9 : FW RX0 9 0 1 := ⟨RX0, TX0, 4, rfl, by decide, gd_t 263 ⟨rfl, rfl⟩, lay_X0⟩
set_option maxRecDepth 100000 in
theorem fw_X0_15 : FW RX0 15 0 2 := ⟨RX0, TX0, 4, rfl, by decide, gd_t 264 ⟨rfl, rfl⟩, lay_X0⟩
set_option maxRecDepth 100000 in
theorem fw_X0_19 : FW RX0 19 0 3 := ⟨RX0, TX0, 4, rfl, by decide, gd_t 265 ⟨rfl, rfl⟩, lay_X0⟩
set_option maxRecDepth 100000 in
theorem fw_X6_22 : FW RX6 22 6 0 := ⟨RX6, TX6, 6, rfl, by decide, gd_t 284 ⟨rfl, rfl⟩, lay_X6⟩
set_option maxRecDepth 100000 in
theorem fw_X6_9 : FW RX6 9 6 1 := ⟨RX6, TX6, 6, rfl, by decide, gd_t 285 ⟨rfl, rfl⟩, lay_X6⟩
set_option maxRecDepth 100000 in
theorem fw_X6_13 : FW RX6 13 6 2 := ⟨RX6, TX6, 6, rfl, by decide, gd_t 286 ⟨rfl, rfl⟩, lay_X6⟩
set_option maxRecDepth 100000 in
theorem fw_X6_19 : FW RX6 19 6 3 := ⟨RX6, TX6, 6, rfl, by decide, gd_t 287 ⟨rfl, rfl⟩, lay_X6⟩
set_option maxRecDepth 100000 in
theorem fw_X6_26 : FW RX6 26 6 4 := ⟨RX6, TX6, 6, rfl, by decide, gd_t 288 ⟨rfl, rfl⟩, lay_X6⟩
set_option maxRecDepth 100000 in
theorem pw_X6_26 : PW RX6 26 6 4 := ⟨RX6, TX6, 6, tyX6, rfl, by decide, gd_t 288 ⟨rfl, rfl⟩, lay_X6, tyX6_ok, nmX6, rfl, by decide +kernel⟩
set_option maxRecDepth 100000 in
theorem fw_X6_30 : FW RX6 30 6 5 := ⟨RX6, TX6, 6, rfl, by decide, gd_t 289 ⟨rfl, rfl⟩, lay_X6⟩
set_option maxRecDepth 100000 in
theorem pw_X6_30 : PW RX6 30 6 5 := ⟨RX6, TX6, 6, tyX6, rfl, by decide, gd_t 289 ⟨rfl, rfl⟩, lay_X6, tyX6_ok, nmX6, rfl, by decide +kernel⟩
set_option maxRecDepth 100000 in
theorem fw_X10_9 : FW RX10 9 10 0 := ⟨RX10, TX10, 14, rfl, by decide, gd_t 303 ⟨rfl, rfl⟩, lay_X10⟩
set_option maxRecDepth 100000 in
theorem fw_X10_16 : FW RX10 16 10 1 := ⟨RX10, TX10, 14, rfl, by decide, gd_t 304 ⟨rfl, rfl⟩, lay_X10⟩
set_option maxRecDepth 100000 in
theorem fw_X10_25 : FW RX10 25 10 2 := ⟨RX10, TX10, 14, rfl, by decide, gd_t 305 ⟨rfl, rfl⟩, lay_X10⟩
set_option maxRecDepth 100000 in
theorem fw_X10_32 : FW RX10 32 10 3 := ⟨RX10, TX10, 14, rfl, by decide, gd_t 306 ⟨rfl, rfl⟩, lay_X10⟩
set_option maxRecDepth 100000 in
theorem fw_X10_41 : FW RX10 41 10 4 := ⟨RX10, TX10, 14, rfl, by decide, gd_t 307 ⟨rfl, rfl⟩, lay_X10⟩
set_option maxRecDepth 100000 in
theorem fw_X10_48 : FW RX10 48 10 5 := ⟨RX10, TX10, 14, rfl, by decide, gd_t 308 ⟨rfl, rfl⟩, lay_X10⟩
set_option maxRecDepth 100000 in
theorem fw_X10_57 : FW RX10 57 10 6 := ⟨RX10, TX10, 14, rfl, by decide, gd_t 309 ⟨rfl, rfl⟩, lay_X10⟩
set_option maxRecDepth 100000 in
theorem fw_X10_64 : FW RX10 64 10 7 := ⟨RX10, TX10, 14, rfl, by decide, gd_t 310 ⟨rfl, rfl⟩, lay_X10⟩
set_option maxRecDepth 100000 in
theorem fw_X10_73 : FW RX10 73 10 8 := ⟨RX10, TX10, 14, rfl, by decide, gd_t 311 ⟨rfl, rfl⟩, lay_X10⟩
set_option maxRecDepth 100000 in
theorem fw_X10_82 : FW RX10 82 10 9 := ⟨RX10, TX10, 14, rfl, by decide, gd_t 312 ⟨rfl, rfl⟩, lay_X10⟩
set_option maxRecDepth 100000 in
theorem fw_X10_89 : FW RX10 89 10 10 := ⟨RX10, TX10, 14, rfl, by decide, gd_t 313 ⟨rfl, rfl⟩, lay_X10⟩
set_option maxRecDepth 100000 in
theorem fw_X10_93 : FW RX10 93 10 11 := ⟨RX10, TX10, 14, rfl, by decide, gd_t 314 ⟨rfl, rfl⟩, lay_X10⟩
set_option maxRecDepth 100000 in
theorem fw_X10_295 : FW RX10 295 10 12 := ⟨RX10, TX10, 14, rfl, by decide, gd_t 315 ⟨rfl, rfl⟩, lay_X10⟩
set_option maxRecDepth 100000 in
theorem pw_X10_295 : PW RX10 295 10 12 := ⟨RX10, TX10, 14, tyX10, rfl, by decide, gd_t 315 ⟨rfl, rfl⟩, lay_X10, tyX10_ok, nmX10, rfl, by decide +kernel⟩
set_option maxRecDepth 100000 in
theorem fw_X10_189 : FW RX10 189 10 13 := ⟨RX10, TX10, 14, rfl, by decide, gd_t 316 ⟨rfl, rfl⟩, lay_X10⟩
set_option maxRecDepth 100000 in
theorem pw_X10_189 : PW RX10 189 10 13 := ⟨RX10, TX10, 14, tyX10, rfl, by decide, gd_t 316 ⟨rfl, rfl⟩, lay_X10, tyX10_ok, nmX10, rfl, by decide +kernel⟩
set_option maxRecDepth 100000 in
theorem sl_X1_29 : Cond.fieldLink RX1 29 "BenchTimes$Elements" "ABOVE" "[I" ∈ gd := gd_t 381 ⟨rfl, rfl⟩
set_option maxRecDepth 100000 in
theorem sl_J0_38 : Cond.fieldLink RJ0 38 "java/lang/String" "COMPACT_STRINGS" "Z" ∈ gd := gd_t 678 ⟨rfl, rfl⟩
set_option maxRecDepth 100000 in
theorem sl_J0_1053 : Cond.fieldLink RJ0 1053 "jdk/internal/util/Preconditions" "SIOOBE_FORMATTER" "Ljava/util/function/BiFunction;" ∈ gd := gd_t 694 ⟨rfl, rfl⟩
set_option maxRecDepth 100000 in
theorem sl_J2_44 : Cond.fieldLink RJ2 44 "java/lang/StringUTF16" "$assertionsDisabled" "Z" ∈ gd := gd_t 712 ⟨rfl, rfl⟩
set_option maxRecDepth 100000 in
theorem sl_J2_59 : Cond.fieldLink RJ2 59 "java/lang/StringUTF16" "HI_BYTE_SHIFT" "I" ∈ gd := gd_t 714 ⟨rfl, rfl⟩
set_option maxRecDepth 100000 in
theorem sl_J2_63 : Cond.fieldLink RJ2 63 "java/lang/StringUTF16" "LO_BYTE_SHIFT" "I" ∈ gd := gd_t 716 ⟨rfl, rfl⟩
set_option maxRecDepth 100000 in
theorem sl_X5_55 : Cond.fieldLink RX5 55 "BenchTimes$Rules" "GREATEST" "[I" ∈ gd := gd_t 728 ⟨rfl, rfl⟩
set_option maxRecDepth 100000 in
theorem fw_X11_127 : FW RX11 127 11 0 := ⟨RX11, TX11, 49, rfl, by decide, gd_t 1014 ⟨rfl, rfl⟩, lay_X11⟩
set_option maxRecDepth 100000 in
theorem pw_X11_127 : PW RX11 127 11 0 := ⟨RX11, TX11, 49, tyX11, rfl, by decide, gd_t 1014 ⟨rfl, rfl⟩, lay_X11, tyX11_ok, nmX11, rfl, by decide +kernel⟩
set_option maxRecDepth 100000 in
theorem fw_X11_7 : FW RX11 7 11 1 := ⟨RX11, TX11, 49, rfl, by decide, gd_t 1015 ⟨rfl, rfl⟩, lay_X11⟩
set_option maxRecDepth 100000 in
theorem fw_X11_13 : FW RX11 13 11 2 := ⟨RX11, TX11, 49, rfl, by decide, gd_t 1016 ⟨rfl, rfl⟩, lay_X11⟩
set_option maxRecDepth 100000 in
theorem pw_X11_13 : PW RX11 13 11 2 := ⟨RX11, TX11, 49, tyX11, rfl, by decide, gd_t 1016 ⟨rfl, rfl⟩, lay_X11, tyX11_ok, nmX11, rfl, by decide +kernel⟩
set_option maxRecDepth 100000 in
theorem fw_X11_17 : FW RX11 17 11 3 := ⟨RX11, TX11, 49, rfl, by decide, gd_t 1017 ⟨rfl, rfl⟩, lay_X11⟩
set_option maxRecDepth 100000 in
theorem pw_X11_17 : PW RX11 17 11 3 := ⟨RX11, TX11, 49, tyX11, rfl, by decide, gd_t 1017 ⟨rfl, rfl⟩, lay_X11, tyX11_ok, nmX11, rfl, by decide +kernel⟩
set_option maxRecDepth 100000 in
theorem fw_X11_151 : FW RX11 151 11 4 := ⟨RX11, TX11, 49, rfl, by decide, gd_t 1018 ⟨rfl, rfl⟩, lay_X11⟩
set_option maxRecDepth 100000 in
theorem pw_X11_151 : PW RX11 151 11 4 := ⟨RX11, TX11, 49, tyX11, rfl, by decide, gd_t 1018 ⟨rfl, rfl⟩, lay_X11, tyX11_ok, nmX11, rfl, by decide +kernel⟩
set_option maxRecDepth 100000 in
theorem fw_X11_20 : FW RX11 20 11 5 := ⟨RX11, TX11, 49, rfl, by decide, gd_t 1019 ⟨rfl, rfl⟩, lay_X11⟩
set_option maxRecDepth 100000 in
theorem fw_X11_23 : FW RX11 23 11 6 := ⟨RX11, TX11, 49, rfl, by decide, gd_t 1020 ⟨rfl, rfl⟩, lay_X11⟩
set_option maxRecDepth 100000 in
theorem fw_X11_157 : FW RX11 157 11 7 := ⟨RX11, TX11, 49, rfl, by decide, gd_t 1021 ⟨rfl, rfl⟩, lay_X11⟩
set_option maxRecDepth 100000 in
theorem pw_X11_157 : PW RX11 157 11 7 := ⟨RX11, TX11, 49, tyX11, rfl, by decide, gd_t 1021 ⟨rfl, rfl⟩, lay_X11, tyX11_ok, nmX11, rfl, by decide +kernel⟩
set_option maxRecDepth 100000 in
theorem fw_X11_26 : FW RX11 26 11 8 := ⟨RX11, TX11, 49, rfl, by decide, gd_t 1022 ⟨rfl, rfl⟩, lay_X11⟩
set_option maxRecDepth 100000 in
theorem fw_X11_29 : FW RX11 29 11 9 := ⟨RX11, TX11, 49, rfl, by decide, gd_t 1023 ⟨rfl, rfl⟩, lay_X11⟩
set_option maxRecDepth 100000 in
theorem fw_X11_32 : FW RX11 32 11 10 := ⟨RX11, TX11, 49, rfl, by decide, gd_t 1024 ⟨rfl, rfl⟩, lay_X11⟩
set_option maxRecDepth 100000 in
theorem fw_X11_35 : FW RX11 35 11 11 := ⟨RX11, TX11, 49, rfl, by decide, gd_t 1025 ⟨rfl, rfl⟩, lay_X11⟩
set_option maxRecDepth 100000 in
theorem fw_X11_130 : FW RX11 130 11 12 := ⟨RX11, TX11, 49, rfl, by decide, gd_t 1026 ⟨rfl, rfl⟩, lay_X11⟩
set_option maxRecDepth 100000 in
theorem pw_X11_130 : PW RX11 130 11 12 := ⟨RX11, TX11, 49, tyX11, rfl, by decide, gd_t 1026 ⟨rfl, rfl⟩, lay_X11, tyX11_ok, nmX11, rfl, by decide +kernel⟩
set_option maxRecDepth 100000 in
theorem fw_X11_38 : FW RX11 38 11 13 := ⟨RX11, TX11, 49, rfl, by decide, gd_t 1027 ⟨rfl, rfl⟩, lay_X11⟩
set_option maxRecDepth 100000 in
theorem fw_X11_41 : FW RX11 41 11 14 := ⟨RX11, TX11, 49, rfl, by decide, gd_t 1028 ⟨rfl, rfl⟩, lay_X11⟩
set_option maxRecDepth 100000 in
theorem fw_X11_44 : FW RX11 44 11 15 := ⟨RX11, TX11, 49, rfl, by decide, gd_t 1029 ⟨rfl, rfl⟩, lay_X11⟩
set_option maxRecDepth 100000 in
theorem fw_X11_47 : FW RX11 47 11 16 := ⟨RX11, TX11, 49, rfl, by decide, gd_t 1030 ⟨rfl, rfl⟩, lay_X11⟩
set_option maxRecDepth 100000 in
theorem fw_X11_173 : FW RX11 173 11 17 := ⟨RX11, TX11, 49, rfl, by decide, gd_t 1031 ⟨rfl, rfl⟩, lay_X11⟩
set_option maxRecDepth 100000 in
theorem pw_X11_173 : PW RX11 173 11 17 := ⟨RX11, TX11, 49, tyX11, rfl, by decide, gd_t 1031 ⟨rfl, rfl⟩, lay_X11, tyX11_ok, nmX11, rfl, by decide +kernel⟩
set_option maxRecDepth 100000 in
theorem fw_X11_51 : FW RX11 51 11 18 := ⟨RX11, TX11, 49, rfl, by decide, gd_t 1032 ⟨rfl, rfl⟩, lay_X11⟩
set_option maxRecDepth 100000 in
theorem fw_X11_54 : FW RX11 54 11 19 := ⟨RX11, TX11, 49, rfl, by decide, gd_t 1033 ⟨rfl, rfl⟩, lay_X11⟩
set_option maxRecDepth 100000 in
theorem fw_X11_57 : FW RX11 57 11 20 := ⟨RX11, TX11, 49, rfl, by decide, gd_t 1034 ⟨rfl, rfl⟩, lay_X11⟩
set_option maxRecDepth 100000 in
theorem fw_X11_185 : FW RX11 185 11 21 := ⟨RX11, TX11, 49, rfl, by decide, gd_t 1035 ⟨rfl, rfl⟩, lay_X11⟩
set_option maxRecDepth 100000 in
theorem pw_X11_185 : PW RX11 185 11 21 := ⟨RX11, TX11, 49, tyX11, rfl, by decide, gd_t 1035 ⟨rfl, rfl⟩, lay_X11, tyX11_ok, nmX11, rfl, by decide +kernel⟩
set_option maxRecDepth 100000 in
theorem fw_X11_60 : FW RX11 60 11 22 := ⟨RX11, TX11, 49, rfl, by decide, gd_t 1036 ⟨rfl, rfl⟩, lay_X11⟩
set_option maxRecDepth 100000 in
theorem fw_X11_63 : FW RX11 63 11 23 := ⟨RX11, TX11, 49, rfl, by decide, gd_t 1037 ⟨rfl, rfl⟩, lay_X11⟩
set_option maxRecDepth 100000 in
theorem fw_X11_198 : FW RX11 198 11 24 := ⟨RX11, TX11, 49, rfl, by decide, gd_t 1038 ⟨rfl, rfl⟩, lay_X11⟩
set_option maxRecDepth 100000 in
theorem pw_X11_198 : PW RX11 198 11 24 := ⟨RX11, TX11, 49, tyX11, rfl, by decide, gd_t 1038 ⟨rfl, rfl⟩, lay_X11, tyX11_ok, nmX11, rfl, by decide +kernel⟩
set_option maxRecDepth 100000 in
theorem fw_X11_221 : FW RX11 221 11 25 := ⟨RX11, TX11, 49, rfl, by decide, gd_t 1039 ⟨rfl, rfl⟩, lay_X11⟩
set_option maxRecDepth 100000 in
theorem pw_X11_221 : PW RX11 221 11 25 := ⟨RX11, TX11, 49, tyX11, rfl, by decide, gd_t 1039 ⟨rfl, rfl⟩, lay_X11, tyX11_ok, nmX11, rfl, by decide +kernel⟩
set_option maxRecDepth 100000 in
theorem fw_X11_66 : FW RX11 66 11 26 := ⟨RX11, TX11, 49, rfl, by decide, gd_t 1040 ⟨rfl, rfl⟩, lay_X11⟩
set_option maxRecDepth 100000 in
theorem fw_X11_69 : FW RX11 69 11 27 := ⟨RX11, TX11, 49, rfl, by decide, gd_t 1041 ⟨rfl, rfl⟩, lay_X11⟩
set_option maxRecDepth 100000 in
theorem fw_X11_72 : FW RX11 72 11 28 := ⟨RX11, TX11, 49, rfl, by decide, gd_t 1042 ⟨rfl, rfl⟩, lay_X11⟩
set_option maxRecDepth 100000 in
theorem fw_X11_75 : FW RX11 75 11 29 := ⟨RX11, TX11, 49, rfl, by decide, gd_t 1043 ⟨rfl, rfl⟩, lay_X11⟩
set_option maxRecDepth 100000 in
theorem fw_X11_78 : FW RX11 78 11 30 := ⟨RX11, TX11, 49, rfl, by decide, gd_t 1044 ⟨rfl, rfl⟩, lay_X11⟩
set_option maxRecDepth 100000 in
theorem fw_X11_81 : FW RX11 81 11 31 := ⟨RX11, TX11, 49, rfl, by decide, gd_t 1045 ⟨rfl, rfl⟩, lay_X11⟩
set_option maxRecDepth 100000 in
theorem fw_X11_84 : FW RX11 84 11 32 := ⟨RX11, TX11, 49, rfl, by decide, gd_t 1046 ⟨rfl, rfl⟩, lay_X11⟩
set_option maxRecDepth 100000 in
theorem fw_X11_224 : FW RX11 224 11 33 := ⟨RX11, TX11, 49, rfl, by decide, gd_t 1047 ⟨rfl, rfl⟩, lay_X11⟩
set_option maxRecDepth 100000 in
theorem pw_X11_224 : PW RX11 224 11 33 := ⟨RX11, TX11, 49, tyX11, rfl, by decide, gd_t 1047 ⟨rfl, rfl⟩, lay_X11, tyX11_ok, nmX11, rfl, by decide +kernel⟩
set_option maxRecDepth 100000 in
theorem fw_X11_87 : FW RX11 87 11 34 := ⟨RX11, TX11, 49, rfl, by decide, gd_t 1048 ⟨rfl, rfl⟩, lay_X11⟩
set_option maxRecDepth 100000 in
theorem fw_X11_90 : FW RX11 90 11 35 := ⟨RX11, TX11, 49, rfl, by decide, gd_t 1049 ⟨rfl, rfl⟩, lay_X11⟩
set_option maxRecDepth 100000 in
theorem fw_X11_93 : FW RX11 93 11 36 := ⟨RX11, TX11, 49, rfl, by decide, gd_t 1050 ⟨rfl, rfl⟩, lay_X11⟩
set_option maxRecDepth 100000 in
theorem fw_X11_96 : FW RX11 96 11 37 := ⟨RX11, TX11, 49, rfl, by decide, gd_t 1051 ⟨rfl, rfl⟩, lay_X11⟩
set_option maxRecDepth 100000 in
theorem fw_X11_99 : FW RX11 99 11 38 := ⟨RX11, TX11, 49, rfl, by decide, gd_t 1052 ⟨rfl, rfl⟩, lay_X11⟩
set_option maxRecDepth 100000 in
theorem fw_X11_245 : FW RX11 245 11 39 := ⟨RX11, TX11, 49, rfl, by decide, gd_t 1053 ⟨rfl, rfl⟩, lay_X11⟩
set_option maxRecDepth 100000 in
theorem pw_X11_245 : PW RX11 245 11 39 := ⟨RX11, TX11, 49, tyX11, rfl, by decide, gd_t 1053 ⟨rfl, rfl⟩, lay_X11, tyX11_ok, nmX11, rfl, by decide +kernel⟩
set_option maxRecDepth 100000 in
theorem fw_X11_102 : FW RX11 102 11 40 := ⟨RX11, TX11, 49, rfl, by decide, gd_t 1054 ⟨rfl, rfl⟩, lay_X11⟩
set_option maxRecDepth 100000 in
theorem fw_X11_105 : FW RX11 105 11 41 := ⟨RX11, TX11, 49, rfl, by decide, gd_t 1055 ⟨rfl, rfl⟩, lay_X11⟩
set_option maxRecDepth 100000 in
theorem fw_X11_108 : FW RX11 108 11 42 := ⟨RX11, TX11, 49, rfl, by decide, gd_t 1056 ⟨rfl, rfl⟩, lay_X11⟩
set_option maxRecDepth 100000 in
theorem fw_X11_111 : FW RX11 111 11 43 := ⟨RX11, TX11, 49, rfl, by decide, gd_t 1057 ⟨rfl, rfl⟩, lay_X11⟩
set_option maxRecDepth 100000 in
theorem fw_X11_201 : FW RX11 201 11 44 := ⟨RX11, TX11, 49, rfl, by decide, gd_t 1058 ⟨rfl, rfl⟩, lay_X11⟩
set_option maxRecDepth 100000 in
theorem pw_X11_201 : PW RX11 201 11 44 := ⟨RX11, TX11, 49, tyX11, rfl, by decide, gd_t 1058 ⟨rfl, rfl⟩, lay_X11, tyX11_ok, nmX11, rfl, by decide +kernel⟩
set_option maxRecDepth 100000 in
theorem fw_X11_114 : FW RX11 114 11 45 := ⟨RX11, TX11, 49, rfl, by decide, gd_t 1059 ⟨rfl, rfl⟩, lay_X11⟩
set_option maxRecDepth 100000 in
theorem fw_X11_117 : FW RX11 117 11 46 := ⟨RX11, TX11, 49, rfl, by decide, gd_t 1060 ⟨rfl, rfl⟩, lay_X11⟩
set_option maxRecDepth 100000 in
theorem fw_X11_120 : FW RX11 120 11 47 := ⟨RX11, TX11, 49, rfl, by decide, gd_t 1061 ⟨rfl, rfl⟩, lay_X11⟩
set_option maxRecDepth 100000 in
theorem fw_X11_123 : FW RX11 123 11 48 := ⟨RX11, TX11, 49, rfl, by decide, gd_t 1062 ⟨rfl, rfl⟩, lay_X11⟩
set_option maxRecDepth 100000 in
theorem sl_X11_204 : Cond.fieldLink RX11 204 "BenchTimesModel" "WORDS" "[I" ∈ gd := gd_t 1304 ⟨rfl, rfl⟩
set_option maxRecDepth 100000 in
theorem sl_J0_9 : Cond.fieldLink RJ0 9 "java/lang/String" "value" "[B" ∈ gd := gd_t 1398 ⟨rfl, rfl⟩
set_option maxRecDepth 100000 in
theorem sl_J0_15 : Cond.fieldLink RJ0 15 "java/lang/String" "coder" "B" ∈ gd := gd_t 1399 ⟨rfl, rfl⟩
set_option maxRecDepth 100000 in
theorem kc_X10_310 : Cond.constant RX10 310 (-1000000000) ∈ gd := gd_t 360 ⟨rfl, rfl⟩
set_option maxRecDepth 100000 in
theorem kc_X10_240 : Cond.constant RX10 240 (999999) ∈ gd := gd_t 750 ⟨rfl, rfl⟩
set_option maxRecDepth 100000 in
theorem kc_X0_54 : Cond.constantLong RX0 54 (100) ∈ gd := gd_t 891 ⟨rfl, rfl⟩
set_option maxRecDepth 100000 in
theorem kc_X11_126 : Cond.constant RX11 126 (-1000000000) ∈ gd := gd_t 1173 ⟨rfl, rfl⟩
set_option maxRecDepth 100000 in
theorem kc_X11_220 : Cond.constant RX11 220 (999999) ∈ gd := gd_t 1321 ⟨rfl, rfl⟩
set_option maxRecDepth 100000 in
theorem kc_X11_233 : Cond.constantLong RX11 233 (100) ∈ gd := gd_t 1362 ⟨rfl, rfl⟩
set_option maxRecDepth 100000 in
theorem ml_X10_22 : Cond.methodLink RX10 22 yX8_init ∈ gd := gd_t 49 ⟨rfl, rfl⟩
set_option maxRecDepth 100000 in
theorem ml_X10_38 : Cond.methodLink RX10 38 yX4_init ∈ gd := gd_t 127 ⟨rfl, rfl⟩
set_option maxRecDepth 100000 in
theorem ml_X10_54 : Cond.methodLink RX10 54 yX9_init ∈ gd := gd_t 177 ⟨rfl, rfl⟩
set_option maxRecDepth 100000 in
theorem ml_X9_45 : Cond.methodLink RX9 45 yJ7_fill_53178 ∈ gd := gd_t 181 ⟨rfl, rfl⟩
set_option maxRecDepth 100000 in
theorem ml_X10_70 : Cond.methodLink RX10 70 yX3_init ∈ gd := gd_t 242 ⟨rfl, rfl⟩
set_option maxRecDepth 100000 in
theorem ml_X10_79 : Cond.methodLink RX10 79 yX0_init ∈ gd := gd_t 258 ⟨rfl, rfl⟩
set_option maxRecDepth 100000 in
theorem ml_X10_88 : Cond.methodLink RX10 88 yX6_init ∈ gd := gd_t 278 ⟨rfl, rfl⟩
set_option maxRecDepth 100000 in
theorem ml_X10_96 : Cond.methodLink RX10 96 yX1_isKind ∈ gd := gd_t 350 ⟨rfl, rfl⟩
set_option maxRecDepth 100000 in
theorem ml_X10_100 : Cond.methodLink RX10 100 yX10_finding ∈ gd := gd_t 356 ⟨rfl, rfl⟩
set_option maxRecDepth 100000 in
theorem ml_X10_104 : Cond.methodLink RX10 104 yX1_isFull ∈ gd := gd_t 361 ⟨rfl, rfl⟩
set_option maxRecDepth 100000 in
theorem ml_X10_108 : Cond.methodLink RX10 108 yX1_add ∈ gd := gd_t 365 ⟨rfl, rfl⟩
set_option maxRecDepth 100000 in
theorem ml_X10_111 : Cond.methodLink RX10 111 yX1_has ∈ gd := gd_t 373 ⟨rfl, rfl⟩
set_option maxRecDepth 100000 in
theorem ml_X10_114 : Cond.methodLink RX10 114 yX1_isUnder ∈ gd := gd_t 377 ⟨rfl, rfl⟩
set_option maxRecDepth 100000 in
theorem ml_X10_118 : Cond.methodLink RX10 118 yX1_allowanceOf ∈ gd := gd_t 383 ⟨rfl, rfl⟩
set_option maxRecDepth 100000 in
theorem ml_X10_121 : Cond.methodLink RX10 121 yX10_isWithin ∈ gd := gd_t 391 ⟨rfl, rfl⟩
set_option maxRecDepth 100000 in
theorem ml_X10_125 : Cond.methodLink RX10 125 yX1_setAllowances ∈ gd := gd_t 392 ⟨rfl, rfl⟩
set_option maxRecDepth 100000 in
theorem ml_X10_129 : Cond.methodLink RX10 129 yX10_isRater ∈ gd := gd_t 400 ⟨rfl, rfl⟩
set_option maxRecDepth 100000 in
theorem ml_X10_132 : Cond.methodLink RX10 132 yX10_isPace ∈ gd := gd_t 403 ⟨rfl, rfl⟩
set_option maxRecDepth 100000 in
theorem ml_X10_135 : Cond.methodLink RX10 135 yX8_isFullOfFilms ∈ gd := gd_t 406 ⟨rfl, rfl⟩
set_option maxRecDepth 100000 in
theorem ml_X10_138 : Cond.methodLink RX10 138 yX8_addFilm ∈ gd := gd_t 410 ⟨rfl, rfl⟩
set_option maxRecDepth 100000 in
theorem ml_X10_142 : Cond.methodLink RX10 142 yX8_habitOf ∈ gd := gd_t 418 ⟨rfl, rfl⟩
set_option maxRecDepth 100000 in
theorem ml_X10_145 : Cond.methodLink RX10 145 yX8_isFullOfCycles ∈ gd := gd_t 426 ⟨rfl, rfl⟩
set_option maxRecDepth 100000 in
theorem ml_X10_148 : Cond.methodLink RX10 148 yX8_addCycle ∈ gd := gd_t 430 ⟨rfl, rfl⟩
set_option maxRecDepth 100000 in
theorem ml_X10_152 : Cond.methodLink RX10 152 yX8_cycleMany ∈ gd := gd_t 438 ⟨rfl, rfl⟩
set_option maxRecDepth 100000 in
theorem ml_X10_156 : Cond.methodLink RX10 156 yX8_normalOf ∈ gd := gd_t 442 ⟨rfl, rfl⟩
set_option maxRecDepth 100000 in
theorem ml_X8_44 : Cond.methodLink RX8 44 yX8_habitOf ∈ gd := gd_t 446 ⟨rfl, rfl⟩
set_option maxRecDepth 100000 in
theorem ml_X8_48 : Cond.methodLink RX8 48 yJ9_max_7cf53 ∈ gd := gd_t 447 ⟨rfl, rfl⟩
set_option maxRecDepth 100000 in
theorem ml_X10_159 : Cond.methodLink RX10 159 yX1_kindOf ∈ gd := gd_t 454 ⟨rfl, rfl⟩
set_option maxRecDepth 100000 in
theorem ml_X10_162 : Cond.methodLink RX10 162 yX8_study ∈ gd := gd_t 458 ⟨rfl, rfl⟩
set_option maxRecDepth 100000 in
theorem ml_X8_54 : Cond.methodLink RX8 54 yX8_gatherNormals ∈ gd := gd_t 462 ⟨rfl, rfl⟩
set_option maxRecDepth 100000 in
theorem ml_X8_84 : Cond.methodLink RX8 84 yX8_normalOf ∈ gd := gd_t 466 ⟨rfl, rfl⟩
set_option maxRecDepth 100000 in
theorem ml_X8_87 : Cond.methodLink RX8 87 yX8_putInOrder ∈ gd := gd_t 467 ⟨rfl, rfl⟩
set_option maxRecDepth 100000 in
theorem ml_X8_58 : Cond.methodLink RX8 58 yX8_keepNormals ∈ gd := gd_t 471 ⟨rfl, rfl⟩
set_option maxRecDepth 100000 in
theorem ml_X8_90 : Cond.methodLink RX8 90 yJ9_abs_0f7a4 ∈ gd := gd_t 475 ⟨rfl, rfl⟩
set_option maxRecDepth 100000 in
theorem ml_X8_64 : Cond.methodLink RX8 64 yX1_allowanceOf ∈ gd := gd_t 478 ⟨rfl, rfl⟩
set_option maxRecDepth 100000 in
theorem ml_X10_166 : Cond.methodLink RX10 166 yX8_studied ∈ gd := gd_t 479 ⟨rfl, rfl⟩
set_option maxRecDepth 100000 in
theorem ml_X10_169 : Cond.methodLink RX10 169 yX2_isFull ∈ gd := gd_t 487 ⟨rfl, rfl⟩
set_option maxRecDepth 100000 in
theorem ml_X10_170 : Cond.methodLink RX10 170 yX2_add ∈ gd := gd_t 491 ⟨rfl, rfl⟩
set_option maxRecDepth 100000 in
theorem ml_X10_172 : Cond.methodLink RX10 172 yX2_has ∈ gd := gd_t 499 ⟨rfl, rfl⟩
set_option maxRecDepth 100000 in
theorem ml_X10_173 : Cond.methodLink RX10 173 yX2_placeOf ∈ gd := gd_t 504 ⟨rfl, rfl⟩
set_option maxRecDepth 100000 in
theorem ml_X10_176 : Cond.methodLink RX10 176 yX4_latestOf ∈ gd := gd_t 508 ⟨rfl, rfl⟩
set_option maxRecDepth 100000 in
theorem ml_X10_179 : Cond.methodLink RX10 179 yX2_isFullOfParts ∈ gd := gd_t 512 ⟨rfl, rfl⟩
set_option maxRecDepth 100000 in
theorem ml_X10_182 : Cond.methodLink RX10 182 yX2_addPart ∈ gd := gd_t 516 ⟨rfl, rfl⟩
set_option maxRecDepth 100000 in
theorem ml_X10_186 : Cond.methodLink RX10 186 yX2_partMany ∈ gd := gd_t 524 ⟨rfl, rfl⟩
set_option maxRecDepth 100000 in
theorem ml_X10_193 : Cond.methodLink RX10 193 yX10_newRate ∈ gd := gd_t 528 ⟨rfl, rfl⟩
set_option maxRecDepth 100000 in
theorem ml_X10_311 : Cond.methodLink RX10 311 yX4_canMake ∈ gd := gd_t 532 ⟨rfl, rfl⟩
set_option maxRecDepth 100000 in
theorem ml_X4_38 : Cond.methodLink RX4 38 yX2_partMany ∈ gd := gd_t 536 ⟨rfl, rfl⟩
set_option maxRecDepth 100000 in
theorem ml_X4_42 : Cond.methodLink RX4 42 yX2_isMarked ∈ gd := gd_t 537 ⟨rfl, rfl⟩
set_option maxRecDepth 100000 in
theorem ml_X4_53 : Cond.methodLink RX4 53 yX2_elementAt ∈ gd := gd_t 541 ⟨rfl, rfl⟩
set_option maxRecDepth 100000 in
theorem ml_X4_56 : Cond.methodLink RX4 56 yX8_isTimed ∈ gd := gd_t 545 ⟨rfl, rfl⟩
set_option maxRecDepth 100000 in
theorem ml_X10_314 : Cond.methodLink RX10 314 yX4_isFull ∈ gd := gd_t 549 ⟨rfl, rfl⟩
set_option maxRecDepth 100000 in
theorem ml_X10_315 : Cond.methodLink RX10 315 yX4_make ∈ gd := gd_t 553 ⟨rfl, rfl⟩
set_option maxRecDepth 100000 in
theorem ml_X4_62 : Cond.methodLink RX4 62 yX4_latestOf ∈ gd := gd_t 557 ⟨rfl, rfl⟩
set_option maxRecDepth 100000 in
theorem ml_X4_65 : Cond.methodLink RX4 65 yX8_study ∈ gd := gd_t 558 ⟨rfl, rfl⟩
set_option maxRecDepth 100000 in
theorem ml_X4_69 : Cond.methodLink RX4 69 yX8_studied ∈ gd := gd_t 559 ⟨rfl, rfl⟩
set_option maxRecDepth 100000 in
theorem ml_X4_46 : Cond.methodLink RX4 46 yX4_worthOf ∈ gd := gd_t 560 ⟨rfl, rfl⟩
set_option maxRecDepth 100000 in
theorem ml_X4_50 : Cond.methodLink RX4 50 yX2_oftenAt ∈ gd := gd_t 564 ⟨rfl, rfl⟩
set_option maxRecDepth 100000 in
theorem ml_X4_72 : Cond.methodLink RX4 72 yX2_clearMarks ∈ gd := gd_t 568 ⟨rfl, rfl⟩
set_option maxRecDepth 100000 in
theorem ml_X10_196 : Cond.methodLink RX10 196 yX2_many ∈ gd := gd_t 576 ⟨rfl, rfl⟩
set_option maxRecDepth 100000 in
theorem ml_X10_199 : Cond.methodLink RX10 199 yX2_mark ∈ gd := gd_t 580 ⟨rfl, rfl⟩
set_option maxRecDepth 100000 in
theorem ml_X10_202 : Cond.methodLink RX10 202 yX5_valueOf ∈ gd := gd_t 588 ⟨rfl, rfl⟩
set_option maxRecDepth 100000 in
theorem ml_X10_205 : Cond.methodLink RX10 205 yX4_mayMove ∈ gd := gd_t 592 ⟨rfl, rfl⟩
set_option maxRecDepth 100000 in
theorem ml_X10_208 : Cond.methodLink RX10 208 yX4_beginOf ∈ gd := gd_t 596 ⟨rfl, rfl⟩
set_option maxRecDepth 100000 in
theorem ml_X10_211 : Cond.methodLink RX10 211 yJ9_max_7cf53 ∈ gd := gd_t 600 ⟨rfl, rfl⟩
set_option maxRecDepth 100000 in
theorem ml_X10_216 : Cond.methodLink RX10 216 yX10_isWeek ∈ gd := gd_t 605 ⟨rfl, rfl⟩
set_option maxRecDepth 100000 in
theorem ml_X10_219 : Cond.methodLink RX10 219 yX4_inForce ∈ gd := gd_t 608 ⟨rfl, rfl⟩
set_option maxRecDepth 100000 in
theorem ml_X10_222 : Cond.methodLink RX10 222 yX4_sumOf ∈ gd := gd_t 612 ⟨rfl, rfl⟩
set_option maxRecDepth 100000 in
theorem ml_X10_225 : Cond.methodLink RX10 225 yX4_worthOf ∈ gd := gd_t 620 ⟨rfl, rfl⟩
set_option maxRecDepth 100000 in
theorem ml_X10_228 : Cond.methodLink RX10 228 yX5_isFullOfBytes ∈ gd := gd_t 629 ⟨rfl, rfl⟩
set_option maxRecDepth 100000 in
theorem ml_X10_231 : Cond.methodLink RX10 231 yX5_addByte ∈ gd := gd_t 633 ⟨rfl, rfl⟩
set_option maxRecDepth 100000 in
theorem ml_X10_234 : Cond.methodLink RX10 234 yX5_takeTape ∈ gd := gd_t 641 ⟨rfl, rfl⟩
set_option maxRecDepth 100000 in
theorem ml_X5_25 : Cond.methodLink RX5 25 yX5_readClauses ∈ gd := gd_t 645 ⟨rfl, rfl⟩
set_option maxRecDepth 100000 in
theorem ml_X5_36 : Cond.methodLink RX5 36 yJ7_fill_53178 ∈ gd := gd_t 649 ⟨rfl, rfl⟩
set_option maxRecDepth 100000 in
theorem ml_X5_42 : Cond.methodLink RX5 42 yX5_readClause ∈ gd := gd_t 650 ⟨rfl, rfl⟩
set_option maxRecDepth 100000 in
theorem ml_X5_45 : Cond.methodLink RX5 45 yX5_readWord ∈ gd := gd_t 654 ⟨rfl, rfl⟩
set_option maxRecDepth 100000 in
theorem ml_X5_58 : Cond.methodLink RX5 58 yX5_wordOf ∈ gd := gd_t 658 ⟨rfl, rfl⟩
set_option maxRecDepth 100000 in
theorem ml_X5_62 : Cond.methodLink RX5 62 yX5_alikeWith ∈ gd := gd_t 666 ⟨rfl, rfl⟩
set_option maxRecDepth 100000 in
theorem ml_X5_66 : Cond.methodLink RX5 66 yJ0_length_8abf5 ∈ gd := gd_t 670 ⟨rfl, rfl⟩
set_option maxRecDepth 100000 in
theorem ml_J0_335 : Cond.methodLink RJ0 335 yJ0_coder_7d493 ∈ gd := gd_t 674 ⟨rfl, rfl⟩
set_option maxRecDepth 100000 in
theorem ml_X5_76 : Cond.methodLink RX5 76 yJ0_charAt_5068e ∈ gd := gd_t 680 ⟨rfl, rfl⟩
set_option maxRecDepth 100000 in
theorem ml_J0_492 : Cond.methodLink RJ0 492 yJ0_isLatin1_aae02 ∈ gd := gd_t 684 ⟨rfl, rfl⟩
set_option maxRecDepth 100000 in
theorem ml_J0_495 : Cond.methodLink RJ0 495 yJ1_charAt_3b067 ∈ gd := gd_t 688 ⟨rfl, rfl⟩
set_option maxRecDepth 100000 in
theorem ml_J1_9 : Cond.methodLink RJ1 9 yJ0_checkIndex_df160 ∈ gd := gd_t 691 ⟨rfl, rfl⟩
set_option maxRecDepth 100000 in
theorem ml_J0_1059 : Cond.methodLink RJ0 1059 yJ3_checkIndex_8e157 ∈ gd := gd_t 696 ⟨rfl, rfl⟩
set_option maxRecDepth 100000 in
theorem ml_J0_498 : Cond.methodLink RJ0 498 yJ2_charAt_3b067 ∈ gd := gd_t 699 ⟨rfl, rfl⟩
set_option maxRecDepth 100000 in
theorem ml_J2_67 : Cond.methodLink RJ2 67 yJ2_checkIndex_2214a ∈ gd := gd_t 702 ⟨rfl, rfl⟩
set_option maxRecDepth 100000 in
theorem ml_J2_48 : Cond.methodLink RJ2 48 yJ2_length_9d52b ∈ gd := gd_t 705 ⟨rfl, rfl⟩
set_option maxRecDepth 100000 in
theorem ml_J2_414 : Cond.methodLink RJ2 414 yJ0_checkIndex_df160 ∈ gd := gd_t 708 ⟨rfl, rfl⟩
set_option maxRecDepth 100000 in
theorem ml_J2_71 : Cond.methodLink RJ2 71 yJ2_getChar_3b067 ∈ gd := gd_t 709 ⟨rfl, rfl⟩
set_option maxRecDepth 100000 in
theorem ml_X5_70 : Cond.methodLink RX5 70 yJ9_max_7cf53 ∈ gd := gd_t 718 ⟨rfl, rfl⟩
set_option maxRecDepth 100000 in
theorem ml_X5_48 : Cond.methodLink RX5 48 yX5_readSign ∈ gd := gd_t 719 ⟨rfl, rfl⟩
set_option maxRecDepth 100000 in
theorem ml_X5_52 : Cond.methodLink RX5 52 yX5_readNumber ∈ gd := gd_t 723 ⟨rfl, rfl⟩
set_option maxRecDepth 100000 in
theorem ml_X5_29 : Cond.methodLink RX5 29 yX5_takeNewValues ∈ gd := gd_t 730 ⟨rfl, rfl⟩
set_option maxRecDepth 100000 in
theorem ml_X10_237 : Cond.methodLink RX10 237 yX10_isOn ∈ gd := gd_t 743 ⟨rfl, rfl⟩
set_option maxRecDepth 100000 in
theorem ml_X10_244 : Cond.methodLink RX10 244 yX10_isWorker ∈ gd := gd_t 747 ⟨rfl, rfl⟩
set_option maxRecDepth 100000 in
theorem ml_X10_241 : Cond.methodLink RX10 241 yX9_isFull ∈ gd := gd_t 751 ⟨rfl, rfl⟩
set_option maxRecDepth 100000 in
theorem ml_X10_242 : Cond.methodLink RX10 242 yX9_add ∈ gd := gd_t 755 ⟨rfl, rfl⟩
set_option maxRecDepth 100000 in
theorem ml_X9_55 : Cond.methodLink RX9 55 yJ9_abs_0f7a4 ∈ gd := gd_t 759 ⟨rfl, rfl⟩
set_option maxRecDepth 100000 in
theorem ml_X10_247 : Cond.methodLink RX10 247 yX10_isCause ∈ gd := gd_t 764 ⟨rfl, rfl⟩
set_option maxRecDepth 100000 in
theorem ml_X10_250 : Cond.methodLink RX10 250 yX7_isFull ∈ gd := gd_t 767 ⟨rfl, rfl⟩
set_option maxRecDepth 100000 in
theorem ml_X10_251 : Cond.methodLink RX10 251 yX7_add ∈ gd := gd_t 771 ⟨rfl, rfl⟩
set_option maxRecDepth 100000 in
theorem ml_X10_252 : Cond.methodLink RX10 252 yX9_swapBegin ∈ gd := gd_t 779 ⟨rfl, rfl⟩
set_option maxRecDepth 100000 in
theorem ml_X10_255 : Cond.methodLink RX10 255 yX9_many ∈ gd := gd_t 787 ⟨rfl, rfl⟩
set_option maxRecDepth 100000 in
theorem ml_X10_256 : Cond.methodLink RX10 256 yX9_earnedBy ∈ gd := gd_t 791 ⟨rfl, rfl⟩
set_option maxRecDepth 100000 in
theorem ml_X9_61 : Cond.methodLink RX9 61 yX4_inForce ∈ gd := gd_t 795 ⟨rfl, rfl⟩
set_option maxRecDepth 100000 in
theorem ml_X9_69 : Cond.methodLink RX9 69 yX5_valueOf ∈ gd := gd_t 796 ⟨rfl, rfl⟩
set_option maxRecDepth 100000 in
theorem ml_X9_72 : Cond.methodLink RX9 72 yJ9_min_7cf53 ∈ gd := gd_t 797 ⟨rfl, rfl⟩
set_option maxRecDepth 100000 in
theorem ml_X9_75 : Cond.methodLink RX9 75 yX4_sumOf ∈ gd := gd_t 800 ⟨rfl, rfl⟩
set_option maxRecDepth 100000 in
theorem ml_X9_78 : Cond.methodLink RX9 78 yX9_learnersMore ∈ gd := gd_t 801 ⟨rfl, rfl⟩
set_option maxRecDepth 100000 in
theorem ml_X10_259 : Cond.methodLink RX10 259 yX3_tellOf ∈ gd := gd_t 810 ⟨rfl, rfl⟩
set_option maxRecDepth 100000 in
theorem ml_X3_23 : Cond.methodLink RX3 23 yX9_earnedIn ∈ gd := gd_t 814 ⟨rfl, rfl⟩
set_option maxRecDepth 100000 in
theorem ml_X9_81 : Cond.methodLink RX9 81 yX9_earnedBy ∈ gd := gd_t 818 ⟨rfl, rfl⟩
set_option maxRecDepth 100000 in
theorem ml_X3_29 : Cond.methodLink RX3 29 yX3_forWaiting ∈ gd := gd_t 819 ⟨rfl, rfl⟩
set_option maxRecDepth 100000 in
theorem ml_X3_35 : Cond.methodLink RX3 35 yX7_minutesIn ∈ gd := gd_t 823 ⟨rfl, rfl⟩
set_option maxRecDepth 100000 in
theorem ml_X3_43 : Cond.methodLink RX3 43 yX5_valueOf ∈ gd := gd_t 827 ⟨rfl, rfl⟩
set_option maxRecDepth 100000 in
theorem ml_X3_32 : Cond.methodLink RX3 32 yX9_minutesIn ∈ gd := gd_t 828 ⟨rfl, rfl⟩
set_option maxRecDepth 100000 in
theorem ml_X3_38 : Cond.methodLink RX3 38 yX3_allOf ∈ gd := gd_t 832 ⟨rfl, rfl⟩
set_option maxRecDepth 100000 in
theorem ml_X3_47 : Cond.methodLink RX3 47 yJ9_max_7cf53 ∈ gd := gd_t 836 ⟨rfl, rfl⟩
set_option maxRecDepth 100000 in
theorem ml_X10_262 : Cond.methodLink RX10 262 yX7_minutesFor ∈ gd := gd_t 841 ⟨rfl, rfl⟩
set_option maxRecDepth 100000 in
theorem ml_X10_265 : Cond.methodLink RX10 265 yX10_isIn ∈ gd := gd_t 849 ⟨rfl, rfl⟩
set_option maxRecDepth 100000 in
theorem ml_X10_268 : Cond.methodLink RX10 268 yX3_shareOf ∈ gd := gd_t 852 ⟨rfl, rfl⟩
set_option maxRecDepth 100000 in
theorem ml_X10_271 : Cond.methodLink RX10 271 yX10_orNone ∈ gd := gd_t 857 ⟨rfl, rfl⟩
set_option maxRecDepth 100000 in
theorem ml_X10_274 : Cond.methodLink RX10 274 yX0_survey ∈ gd := gd_t 865 ⟨rfl, rfl⟩
set_option maxRecDepth 100000 in
theorem ml_X0_26 : Cond.methodLink RX0 26 yJ7_fill_d0a16 ∈ gd := gd_t 869 ⟨rfl, rfl⟩
set_option maxRecDepth 100000 in
theorem ml_X0_32 : Cond.methodLink RX0 32 yJ7_fill_53178 ∈ gd := gd_t 872 ⟨rfl, rfl⟩
set_option maxRecDepth 100000 in
theorem ml_X0_35 : Cond.methodLink RX0 35 yX9_many ∈ gd := gd_t 873 ⟨rfl, rfl⟩
set_option maxRecDepth 100000 in
theorem ml_X0_41 : Cond.methodLink RX0 41 yX9_workerAt ∈ gd := gd_t 874 ⟨rfl, rfl⟩
set_option maxRecDepth 100000 in
theorem ml_X0_45 : Cond.methodLink RX0 45 yX9_jobAt ∈ gd := gd_t 878 ⟨rfl, rfl⟩
set_option maxRecDepth 100000 in
theorem ml_X0_48 : Cond.methodLink RX0 48 yX9_earnedBy ∈ gd := gd_t 882 ⟨rfl, rfl⟩
set_option maxRecDepth 100000 in
theorem ml_X0_51 : Cond.methodLink RX0 51 yX9_minutesAt ∈ gd := gd_t 883 ⟨rfl, rfl⟩
set_option maxRecDepth 100000 in
theorem ml_X10_277 : Cond.methodLink RX10 277 yX0_efficiencyOf ∈ gd := gd_t 887 ⟨rfl, rfl⟩
set_option maxRecDepth 100000 in
theorem ml_X10_280 : Cond.methodLink RX10 280 yX0_isLooser ∈ gd := gd_t 896 ⟨rfl, rfl⟩
set_option maxRecDepth 100000 in
theorem ml_X0_56 : Cond.methodLink RX0 56 yX0_efficiencyOf ∈ gd := gd_t 900 ⟨rfl, rfl⟩
set_option maxRecDepth 100000 in
theorem ml_X0_60 : Cond.methodLink RX0 60 yX0_waysToChoose ∈ gd := gd_t 901 ⟨rfl, rfl⟩
set_option maxRecDepth 100000 in
theorem ml_X10_283 : Cond.methodLink RX10 283 yX0_jobAt ∈ gd := gd_t 908 ⟨rfl, rfl⟩
set_option maxRecDepth 100000 in
theorem ml_X0_63 : Cond.methodLink RX0 63 yX0_reckonScores ∈ gd := gd_t 912 ⟨rfl, rfl⟩
set_option maxRecDepth 100000 in
theorem ml_X0_73 : Cond.methodLink RX0 73 yX0_isLooser ∈ gd := gd_t 916 ⟨rfl, rfl⟩
set_option maxRecDepth 100000 in
theorem ml_X0_66 : Cond.methodLink RX0 66 yX0_hasRows ∈ gd := gd_t 917 ⟨rfl, rfl⟩
set_option maxRecDepth 100000 in
theorem ml_X0_70 : Cond.methodLink RX0 70 yX0_manyAhead ∈ gd := gd_t 921 ⟨rfl, rfl⟩
set_option maxRecDepth 100000 in
theorem ml_X10_286 : Cond.methodLink RX10 286 yX6_gather ∈ gd := gd_t 929 ⟨rfl, rfl⟩
set_option maxRecDepth 100000 in
theorem ml_X6_33 : Cond.methodLink RX6 33 yX9_many ∈ gd := gd_t 933 ⟨rfl, rfl⟩
set_option maxRecDepth 100000 in
theorem ml_X6_38 : Cond.methodLink RX6 38 yX9_workerAt ∈ gd := gd_t 934 ⟨rfl, rfl⟩
set_option maxRecDepth 100000 in
theorem ml_X6_42 : Cond.methodLink RX6 42 yX9_jobAt ∈ gd := gd_t 935 ⟨rfl, rfl⟩
set_option maxRecDepth 100000 in
theorem ml_X6_45 : Cond.methodLink RX6 45 yX9_goodAt ∈ gd := gd_t 936 ⟨rfl, rfl⟩
set_option maxRecDepth 100000 in
theorem ml_X6_48 : Cond.methodLink RX6 48 yX9_minutesAt ∈ gd := gd_t 940 ⟨rfl, rfl⟩
set_option maxRecDepth 100000 in
theorem ml_X6_51 : Cond.methodLink RX6 51 yX9_isWatched ∈ gd := gd_t 941 ⟨rfl, rfl⟩
set_option maxRecDepth 100000 in
theorem ml_X10_289 : Cond.methodLink RX10 289 yX6_canTell ∈ gd := gd_t 945 ⟨rfl, rfl⟩
set_option maxRecDepth 100000 in
theorem ml_X10_292 : Cond.methodLink RX10 292 yX6_isBeyondDoubt ∈ gd := gd_t 949 ⟨rfl, rfl⟩
set_option maxRecDepth 100000 in
theorem ml_X6_55 : Cond.methodLink RX6 55 yX6_countWays ∈ gd := gd_t 953 ⟨rfl, rfl⟩
set_option maxRecDepth 100000 in
theorem ml_X6_64 : Cond.methodLink RX6 64 yJ7_fill_53178 ∈ gd := gd_t 957 ⟨rfl, rfl⟩
set_option maxRecDepth 100000 in
theorem ml_X6_61 : Cond.methodLink RX6 61 yX6_rankOf ∈ gd := gd_t 958 ⟨rfl, rfl⟩
set_option maxRecDepth 100000 in
theorem ml_X6_70 : Cond.methodLink RX6 70 yJ9_min_7cf53 ∈ gd := gd_t 962 ⟨rfl, rfl⟩
set_option maxRecDepth 100000 in
theorem ml_X6_76 : Cond.methodLink RX6 76 yX6_addRow ∈ gd := gd_t 963 ⟨rfl, rfl⟩
set_option maxRecDepth 100000 in
theorem ml_X6_58 : Cond.methodLink RX6 58 yX6_watchedRanks ∈ gd := gd_t 967 ⟨rfl, rfl⟩
set_option maxRecDepth 100000 in
theorem ml_X10_298 : Cond.methodLink RX10 298 yX3_allOf ∈ gd := gd_t 979 ⟨rfl, rfl⟩
set_option maxRecDepth 100000 in
theorem ml_X10_301 : Cond.methodLink RX10 301 yX1_many ∈ gd := gd_t 984 ⟨rfl, rfl⟩
set_option maxRecDepth 100000 in
theorem ml_X10_302 : Cond.methodLink RX10 302 yX8_filmMany ∈ gd := gd_t 988 ⟨rfl, rfl⟩
set_option maxRecDepth 100000 in
theorem ml_X10_305 : Cond.methodLink RX10 305 yX4_many ∈ gd := gd_t 992 ⟨rfl, rfl⟩
set_option maxRecDepth 100000 in
theorem ml_X10_306 : Cond.methodLink RX10 306 yX7_many ∈ gd := gd_t 996 ⟨rfl, rfl⟩
set_option maxRecDepth 100000 in
theorem ml_X10_307 : Cond.methodLink RX10 307 yX5_byteMany ∈ gd := gd_t 1000 ⟨rfl, rfl⟩
set_option maxRecDepth 100000 in
theorem ml_X11_133 : Cond.methodLink RX11 133 yX11_isIn ∈ gd := gd_t 1166 ⟨rfl, rfl⟩
set_option maxRecDepth 100000 in
theorem ml_X11_137 : Cond.methodLink RX11 137 yX11_finding ∈ gd := gd_t 1169 ⟨rfl, rfl⟩
set_option maxRecDepth 100000 in
theorem ml_X11_141 : Cond.methodLink RX11 141 yX11_isElement ∈ gd := gd_t 1178 ⟨rfl, rfl⟩
set_option maxRecDepth 100000 in
theorem ml_X11_145 : Cond.methodLink RX11 145 yX11_allowanceOf ∈ gd := gd_t 1182 ⟨rfl, rfl⟩
set_option maxRecDepth 100000 in
theorem ml_X11_148 : Cond.methodLink RX11 148 yX11_isPace ∈ gd := gd_t 1194 ⟨rfl, rfl⟩
set_option maxRecDepth 100000 in
theorem ml_X11_154 : Cond.methodLink RX11 154 yX11_habitOf ∈ gd := gd_t 1201 ⟨rfl, rfl⟩
set_option maxRecDepth 100000 in
theorem ml_X11_160 : Cond.methodLink RX11 160 yX11_normalOf ∈ gd := gd_t 1213 ⟨rfl, rfl⟩
set_option maxRecDepth 100000 in
theorem ml_X11_167 : Cond.methodLink RX11 167 yX11_cyclesOf ∈ gd := gd_t 1221 ⟨rfl, rfl⟩
set_option maxRecDepth 100000 in
theorem ml_X11_170 : Cond.methodLink RX11 170 yX11_standardOf ∈ gd := gd_t 1225 ⟨rfl, rfl⟩
set_option maxRecDepth 100000 in
theorem ml_X11_163 : Cond.methodLink RX11 163 yX11_keptOf ∈ gd := gd_t 1229 ⟨rfl, rfl⟩
set_option maxRecDepth 100000 in
theorem ml_X11_176 : Cond.methodLink RX11 176 yX11_isJob ∈ gd := gd_t 1241 ⟨rfl, rfl⟩
set_option maxRecDepth 100000 in
theorem ml_X11_179 : Cond.methodLink RX11 179 yX11_latestOf ∈ gd := gd_t 1245 ⟨rfl, rfl⟩
set_option maxRecDepth 100000 in
theorem ml_X11_188 : Cond.methodLink RX11 188 yX11_make ∈ gd := gd_t 1253 ⟨rfl, rfl⟩
set_option maxRecDepth 100000 in
theorem ml_X11_182 : Cond.methodLink RX11 182 yX11_sumOf ∈ gd := gd_t 1257 ⟨rfl, rfl⟩
set_option maxRecDepth 100000 in
theorem ml_X11_192 : Cond.methodLink RX11 192 yX11_isWeek ∈ gd := gd_t 1273 ⟨rfl, rfl⟩
set_option maxRecDepth 100000 in
theorem ml_X11_195 : Cond.methodLink RX11 195 yX11_forceOf ∈ gd := gd_t 1276 ⟨rfl, rfl⟩
set_option maxRecDepth 100000 in
theorem ml_X11_214 : Cond.methodLink RX11 214 yX11_readAll ∈ gd := gd_t 1296 ⟨rfl, rfl⟩
set_option maxRecDepth 100000 in
theorem ml_X11_211 : Cond.methodLink RX11 211 yX11_wordHere ∈ gd := gd_t 1300 ⟨rfl, rfl⟩
set_option maxRecDepth 100000 in
theorem ml_X11_207 : Cond.methodLink RX11 207 yX11_here ∈ gd := gd_t 1306 ⟨rfl, rfl⟩
set_option maxRecDepth 100000 in
theorem ml_X11_217 : Cond.methodLink RX11 217 yX11_isWorker ∈ gd := gd_t 1318 ⟨rfl, rfl⟩
set_option maxRecDepth 100000 in
theorem ml_X11_227 : Cond.methodLink RX11 227 yX11_earnedBy ∈ gd := gd_t 1334 ⟨rfl, rfl⟩
set_option maxRecDepth 100000 in
theorem ml_X11_230 : Cond.methodLink RX11 230 yX11_payOf ∈ gd := gd_t 1342 ⟨rfl, rfl⟩
set_option maxRecDepth 100000 in
theorem ml_X11_235 : Cond.methodLink RX11 235 yX11_efficiencyOf ∈ gd := gd_t 1358 ⟨rfl, rfl⟩
set_option maxRecDepth 100000 in
theorem ml_X11_241 : Cond.methodLink RX11 241 yX11_isLooser ∈ gd := gd_t 1367 ⟨rfl, rfl⟩
set_option maxRecDepth 100000 in
theorem ml_X11_238 : Cond.methodLink RX11 238 yX11_ones ∈ gd := gd_t 1371 ⟨rfl, rfl⟩
set_option maxRecDepth 100000 in
theorem nl_X1_22 : Cond.methodLinkNest RX1 22 yX10_isWithin "BenchTimes" ∈ nestW := List.mem_of_getElem? (i := 0) rfl
set_option maxRecDepth 100000 in
theorem nl_X2_29 : Cond.methodLinkNest RX2 29 yX10_isWithin "BenchTimes" ∈ nestW := List.mem_of_getElem? (i := 1) rfl
set_option maxRecDepth 100000 in
theorem nl_X5_80 : Cond.methodLinkNest RX5 80 yX10_isWithin "BenchTimes" ∈ nestW := List.mem_of_getElem? (i := 2) rfl
set_option maxRecDepth 100000 in
theorem nl_X9_84 : Cond.methodLinkNest RX9 84 yX10_isWithin "BenchTimes" ∈ nestW := List.mem_of_getElem? (i := 3) rfl
set_option maxRecDepth 100000 in
theorem nl_X3_52 : Cond.methodLinkNest RX3 52 yX10_isIn "BenchTimes" ∈ nestW := List.mem_of_getElem? (i := 4) rfl
set_option maxRecDepth 100000 in
theorem mb_J0_charAt_5068e : MB yJ0_charAt_5068e cJ0_charAt_5068e 2 (some .char) 1 := ⟨gd_t 15 ⟨rfl, rfl⟩, gd_t 683 ⟨rfl, rfl⟩, by decide +kernel, by decide +kernel, by decide +kernel⟩
set_option maxRecDepth 100000 in
theorem mi_J0_charAt_5068e : MI yJ0_charAt_5068e := ⟨gd_t 681 ⟨rfl, rfl⟩, gd_t 682 ⟨rfl, rfl⟩⟩
set_option maxRecDepth 100000 in
theorem mb_J0_checkIndex_df160 : MB yJ0_checkIndex_df160 cJ0_checkIndex_df160 2 none 2 := ⟨gd_t 15 ⟨rfl, rfl⟩, gd_t 693 ⟨rfl, rfl⟩, by decide +kernel, by decide +kernel, by decide +kernel⟩
set_option maxRecDepth 100000 in
theorem ms_J0_checkIndex_df160 : Cond.static yJ0_checkIndex_df160 ∈ gd := gd_t 692 ⟨rfl, rfl⟩
set_option maxRecDepth 100000 in
theorem mb_J0_coder_7d493 : MB yJ0_coder_7d493 cJ0_coder_7d493 1 (some .byte) 0 := ⟨gd_t 15 ⟨rfl, rfl⟩, gd_t 677 ⟨rfl, rfl⟩, by decide +kernel, by decide +kernel, by decide +kernel⟩
set_option maxRecDepth 100000 in
theorem mi_J0_coder_7d493 : MI yJ0_coder_7d493 := ⟨gd_t 675 ⟨rfl, rfl⟩, gd_t 676 ⟨rfl, rfl⟩⟩
set_option maxRecDepth 100000 in
theorem mb_J0_isLatin1_aae02 : MB yJ0_isLatin1_aae02 cJ0_isLatin1_aae02 1 (some .boolean) 0 := ⟨gd_t 15 ⟨rfl, rfl⟩, gd_t 687 ⟨rfl, rfl⟩, by decide +kernel, by decide +kernel, by decide +kernel⟩
set_option maxRecDepth 100000 in
theorem mi_J0_isLatin1_aae02 : MI yJ0_isLatin1_aae02 := ⟨gd_t 685 ⟨rfl, rfl⟩, gd_t 686 ⟨rfl, rfl⟩⟩
set_option maxRecDepth 100000 in
theorem mb_J0_length_8abf5 : MB yJ0_length_8abf5 cJ0_length_8abf5 1 (some .int) 0 := ⟨gd_t 15 ⟨rfl, rfl⟩, gd_t 673 ⟨rfl, rfl⟩, by decide +kernel, by decide +kernel, by decide +kernel⟩
set_option maxRecDepth 100000 in
theorem mi_J0_length_8abf5 : MI yJ0_length_8abf5 := ⟨gd_t 671 ⟨rfl, rfl⟩, gd_t 672 ⟨rfl, rfl⟩⟩
set_option maxRecDepth 100000 in
theorem mb_J1_charAt_3b067 : MB yJ1_charAt_3b067 cJ1_charAt_3b067 2 (some .char) 2 := ⟨gd_t 16 ⟨rfl, rfl⟩, gd_t 690 ⟨rfl, rfl⟩, by decide +kernel, by decide +kernel, by decide +kernel⟩
set_option maxRecDepth 100000 in
theorem ms_J1_charAt_3b067 : Cond.static yJ1_charAt_3b067 ∈ gd := gd_t 689 ⟨rfl, rfl⟩
set_option maxRecDepth 100000 in
theorem mb_J2_charAt_3b067 : MB yJ2_charAt_3b067 cJ2_charAt_3b067 2 (some .char) 2 := ⟨gd_t 18 ⟨rfl, rfl⟩, gd_t 701 ⟨rfl, rfl⟩, by decide +kernel, by decide +kernel, by decide +kernel⟩
set_option maxRecDepth 100000 in
theorem ms_J2_charAt_3b067 : Cond.static yJ2_charAt_3b067 ∈ gd := gd_t 700 ⟨rfl, rfl⟩
set_option maxRecDepth 100000 in
theorem mb_J2_checkIndex_2214a : MB yJ2_checkIndex_2214a cJ2_checkIndex_2214a 2 none 2 := ⟨gd_t 18 ⟨rfl, rfl⟩, gd_t 704 ⟨rfl, rfl⟩, by decide +kernel, by decide +kernel, by decide +kernel⟩
set_option maxRecDepth 100000 in
theorem ms_J2_checkIndex_2214a : Cond.static yJ2_checkIndex_2214a ∈ gd := gd_t 703 ⟨rfl, rfl⟩
set_option maxRecDepth 100000 in
theorem mb_J2_getChar_3b067 : MB yJ2_getChar_3b067 cJ2_getChar_3b067 2 (some .char) 2 := ⟨gd_t 18 ⟨rfl, rfl⟩, gd_t 711 ⟨rfl, rfl⟩, by decide +kernel, by decide +kernel, by decide +kernel⟩
set_option maxRecDepth 100000 in
theorem ms_J2_getChar_3b067 : Cond.static yJ2_getChar_3b067 ∈ gd := gd_t 710 ⟨rfl, rfl⟩
set_option maxRecDepth 100000 in
theorem mb_J2_length_9d52b : MB yJ2_length_9d52b cJ2_length_9d52b 1 (some .int) 1 := ⟨gd_t 18 ⟨rfl, rfl⟩, gd_t 707 ⟨rfl, rfl⟩, by decide +kernel, by decide +kernel, by decide +kernel⟩
set_option maxRecDepth 100000 in
theorem ms_J2_length_9d52b : Cond.static yJ2_length_9d52b ∈ gd := gd_t 706 ⟨rfl, rfl⟩
set_option maxRecDepth 100000 in
theorem mb_J3_checkIndex_8e157 : MB yJ3_checkIndex_8e157 cJ3_checkIndex_8e157 3 (some .int) 3 := ⟨gd_t 17 ⟨rfl, rfl⟩, gd_t 698 ⟨rfl, rfl⟩, by decide +kernel, by decide +kernel, by decide +kernel⟩
set_option maxRecDepth 100000 in
theorem ms_J3_checkIndex_8e157 : Cond.static yJ3_checkIndex_8e157 ∈ gd := gd_t 697 ⟨rfl, rfl⟩
set_option maxRecDepth 100000 in
theorem mb_J7_fill_53178 : MB yJ7_fill_53178 cJ7_fill_53178 4 none 2 := ⟨gd_t 8 ⟨rfl, rfl⟩, gd_t 183 ⟨rfl, rfl⟩, by decide +kernel, by decide +kernel, by decide +kernel⟩
set_option maxRecDepth 100000 in
theorem ms_J7_fill_53178 : Cond.static yJ7_fill_53178 ∈ gd := gd_t 182 ⟨rfl, rfl⟩
set_option maxRecDepth 100000 in
theorem mb_J7_fill_d0a16 : MB yJ7_fill_d0a16 cJ7_fill_d0a16 5 none 2 := ⟨gd_t 8 ⟨rfl, rfl⟩, gd_t 871 ⟨rfl, rfl⟩, by decide +kernel, by decide +kernel, by decide +kernel⟩
set_option maxRecDepth 100000 in
theorem ms_J7_fill_d0a16 : Cond.static yJ7_fill_d0a16 ∈ gd := gd_t 870 ⟨rfl, rfl⟩
set_option maxRecDepth 100000 in
theorem mb_J9_abs_0f7a4 : MB yJ9_abs_0f7a4 cJ9_abs_0f7a4 1 (some .int) 1 := ⟨gd_t 14 ⟨rfl, rfl⟩, gd_t 477 ⟨rfl, rfl⟩, by decide +kernel, by decide +kernel, by decide +kernel⟩
set_option maxRecDepth 100000 in
theorem ms_J9_abs_0f7a4 : Cond.static yJ9_abs_0f7a4 ∈ gd := gd_t 476 ⟨rfl, rfl⟩
set_option maxRecDepth 100000 in
theorem mb_J9_max_7cf53 : MB yJ9_max_7cf53 cJ9_max_7cf53 2 (some .int) 2 := ⟨gd_t 14 ⟨rfl, rfl⟩, gd_t 449 ⟨rfl, rfl⟩, by decide +kernel, by decide +kernel, by decide +kernel⟩
set_option maxRecDepth 100000 in
theorem ms_J9_max_7cf53 : Cond.static yJ9_max_7cf53 ∈ gd := gd_t 448 ⟨rfl, rfl⟩
set_option maxRecDepth 100000 in
theorem mb_J9_min_7cf53 : MB yJ9_min_7cf53 cJ9_min_7cf53 2 (some .int) 2 := ⟨gd_t 14 ⟨rfl, rfl⟩, gd_t 799 ⟨rfl, rfl⟩, by decide +kernel, by decide +kernel, by decide +kernel⟩
set_option maxRecDepth 100000 in
theorem ms_J9_min_7cf53 : Cond.static yJ9_min_7cf53 ∈ gd := gd_t 798 ⟨rfl, rfl⟩
set_option maxRecDepth 100000 in
theorem mb_X0_efficiencyOf : MB yX0_efficiencyOf cX0_efficiencyOf 4 (some .int) 2 := ⟨gd_t 11 ⟨rfl, rfl⟩, gd_t 890 ⟨rfl, rfl⟩, by decide +kernel, by decide +kernel, by decide +kernel⟩
set_option maxRecDepth 100000 in
theorem mi_X0_efficiencyOf : MI yX0_efficiencyOf := ⟨gd_t 888 ⟨rfl, rfl⟩, gd_t 889 ⟨rfl, rfl⟩⟩
set_option maxRecDepth 100000 in
theorem mb_X0_hasRows : MB yX0_hasRows cX0_hasRows 3 (some .boolean) 1 := ⟨gd_t 11 ⟨rfl, rfl⟩, gd_t 920 ⟨rfl, rfl⟩, by decide +kernel, by decide +kernel, by decide +kernel⟩
set_option maxRecDepth 100000 in
theorem mi_X0_hasRows : MI yX0_hasRows := ⟨gd_t 919 ⟨rfl, rfl⟩, gd_p 17 ⟨rfl, rfl⟩⟩
set_option maxRecDepth 100000 in
theorem mb_X0_init : MB yX0_init cX0_init 2 none 1 := ⟨gd_t 11 ⟨rfl, rfl⟩, gd_t 260 ⟨rfl, rfl⟩, by decide +kernel, by decide +kernel, by decide +kernel⟩
set_option maxRecDepth 100000 in
theorem mb_X0_isLooser : MB yX0_isLooser cX0_isLooser 8 (some .boolean) 2 := ⟨gd_t 11 ⟨rfl, rfl⟩, gd_t 899 ⟨rfl, rfl⟩, by decide +kernel, by decide +kernel, by decide +kernel⟩
set_option maxRecDepth 100000 in
theorem mi_X0_isLooser : MI yX0_isLooser := ⟨gd_t 897 ⟨rfl, rfl⟩, gd_t 898 ⟨rfl, rfl⟩⟩
set_option maxRecDepth 100000 in
theorem mb_X0_jobAt : MB yX0_jobAt cX0_jobAt 3 (some .int) 1 := ⟨gd_t 11 ⟨rfl, rfl⟩, gd_t 911 ⟨rfl, rfl⟩, by decide +kernel, by decide +kernel, by decide +kernel⟩
set_option maxRecDepth 100000 in
theorem mi_X0_jobAt : MI yX0_jobAt := ⟨gd_t 909 ⟨rfl, rfl⟩, gd_t 910 ⟨rfl, rfl⟩⟩
set_option maxRecDepth 100000 in
theorem mb_X0_manyAhead : MB yX0_manyAhead cX0_manyAhead 5 (some .int) 1 := ⟨gd_t 11 ⟨rfl, rfl⟩, gd_t 924 ⟨rfl, rfl⟩, by decide +kernel, by decide +kernel, by decide +kernel⟩
set_option maxRecDepth 100000 in
theorem mi_X0_manyAhead : MI yX0_manyAhead := ⟨gd_t 923 ⟨rfl, rfl⟩, gd_p 18 ⟨rfl, rfl⟩⟩
set_option maxRecDepth 100000 in
theorem mb_X0_reckonScores : MB yX0_reckonScores cX0_reckonScores 3 none 0 := ⟨gd_t 11 ⟨rfl, rfl⟩, gd_t 915 ⟨rfl, rfl⟩, by decide +kernel, by decide +kernel, by decide +kernel⟩
set_option maxRecDepth 100000 in
theorem mi_X0_reckonScores : MI yX0_reckonScores := ⟨gd_t 914 ⟨rfl, rfl⟩, gd_p 16 ⟨rfl, rfl⟩⟩
set_option maxRecDepth 100000 in
theorem mb_X0_survey : MB yX0_survey cX0_survey 3 none 0 := ⟨gd_t 11 ⟨rfl, rfl⟩, gd_t 868 ⟨rfl, rfl⟩, by decide +kernel, by decide +kernel, by decide +kernel⟩
set_option maxRecDepth 100000 in
theorem mi_X0_survey : MI yX0_survey := ⟨gd_t 866 ⟨rfl, rfl⟩, gd_t 867 ⟨rfl, rfl⟩⟩
set_option maxRecDepth 100000 in
theorem mb_X0_waysToChoose : MB yX0_waysToChoose cX0_waysToChoose 5 (some .int) 2 := ⟨gd_t 11 ⟨rfl, rfl⟩, gd_t 903 ⟨rfl, rfl⟩, by decide +kernel, by decide +kernel, by decide +kernel⟩
set_option maxRecDepth 100000 in
theorem ms_X0_waysToChoose : Cond.static yX0_waysToChoose ∈ gd := gd_t 902 ⟨rfl, rfl⟩
set_option maxRecDepth 100000 in
theorem mb_X10_allow : MB yX10_allow cX10_allow 3 (some .int) 2 := ⟨gd_t 1 ⟨rfl, rfl⟩, gd_t 390 ⟨rfl, rfl⟩, by decide +kernel, by decide +kernel, by decide +kernel⟩
set_option maxRecDepth 100000 in
theorem mi_X10_allow : MI yX10_allow := ⟨gd_t 388 ⟨rfl, rfl⟩, gd_t 389 ⟨rfl, rfl⟩⟩
set_option maxRecDepth 100000 in
theorem mb_X10_as : MB yX10_as cX10_as 3 (some .int) 2 := ⟨gd_t 1 ⟨rfl, rfl⟩, gd_t 372 ⟨rfl, rfl⟩, by decide +kernel, by decide +kernel, by decide +kernel⟩
set_option maxRecDepth 100000 in
theorem mi_X10_as : MI yX10_as := ⟨gd_t 370 ⟨rfl, rfl⟩, gd_t 371 ⟨rfl, rfl⟩⟩
set_option maxRecDepth 100000 in
theorem mb_X10_cause : MB yX10_cause cX10_cause 2 (some .int) 1 := ⟨gd_t 1 ⟨rfl, rfl⟩, gd_t 840 ⟨rfl, rfl⟩, by decide +kernel, by decide +kernel, by decide +kernel⟩
set_option maxRecDepth 100000 in
theorem mi_X10_cause : MI yX10_cause := ⟨gd_t 838 ⟨rfl, rfl⟩, gd_t 839 ⟨rfl, rfl⟩⟩
set_option maxRecDepth 100000 in
theorem mb_X10_change : MB yX10_change cX10_change 5 (some .int) 1 := ⟨gd_t 1 ⟨rfl, rfl⟩, gd_t 575 ⟨rfl, rfl⟩, by decide +kernel, by decide +kernel, by decide +kernel⟩
set_option maxRecDepth 100000 in
theorem mi_X10_change : MI yX10_change := ⟨gd_t 573 ⟨rfl, rfl⟩, gd_t 574 ⟨rfl, rfl⟩⟩
set_option maxRecDepth 100000 in
theorem mb_X10_check : MB yX10_check cX10_check 4 (some .int) 1 := ⟨gd_t 1 ⟨rfl, rfl⟩, gd_t 978 ⟨rfl, rfl⟩, by decide +kernel, by decide +kernel, by decide +kernel⟩
set_option maxRecDepth 100000 in
theorem mi_X10_check : MI yX10_check := ⟨gd_t 976 ⟨rfl, rfl⟩, gd_t 977 ⟨rfl, rfl⟩⟩
set_option maxRecDepth 100000 in
theorem mb_X10_count : MB yX10_count cX10_count 2 (some .int) 1 := ⟨gd_t 1 ⟨rfl, rfl⟩, gd_t 983 ⟨rfl, rfl⟩, by decide +kernel, by decide +kernel, by decide +kernel⟩
set_option maxRecDepth 100000 in
theorem mi_X10_count : MI yX10_count := ⟨gd_t 981 ⟨rfl, rfl⟩, gd_t 982 ⟨rfl, rfl⟩⟩
set_option maxRecDepth 100000 in
theorem mb_X10_cycle : MB yX10_cycle cX10_cycle 5 (some .int) 4 := ⟨gd_t 1 ⟨rfl, rfl⟩, gd_t 425 ⟨rfl, rfl⟩, by decide +kernel, by decide +kernel, by decide +kernel⟩
set_option maxRecDepth 100000 in
theorem mi_X10_cycle : MI yX10_cycle := ⟨gd_t 423 ⟨rfl, rfl⟩, gd_t 424 ⟨rfl, rfl⟩⟩
set_option maxRecDepth 100000 in
theorem mb_X10_earned : MB yX10_earned cX10_earned 2 (some .int) 1 := ⟨gd_t 1 ⟨rfl, rfl⟩, gd_t 786 ⟨rfl, rfl⟩, by decide +kernel, by decide +kernel, by decide +kernel⟩
set_option maxRecDepth 100000 in
theorem mi_X10_earned : MI yX10_earned := ⟨gd_t 784 ⟨rfl, rfl⟩, gd_t 785 ⟨rfl, rfl⟩⟩
set_option maxRecDepth 100000 in
theorem mb_X10_efficiency : MB yX10_efficiency cX10_efficiency 3 (some .int) 2 := ⟨gd_t 1 ⟨rfl, rfl⟩, gd_t 864 ⟨rfl, rfl⟩, by decide +kernel, by decide +kernel, by decide +kernel⟩
set_option maxRecDepth 100000 in
theorem mi_X10_efficiency : MI yX10_efficiency := ⟨gd_t 862 ⟨rfl, rfl⟩, gd_t 863 ⟨rfl, rfl⟩⟩
set_option maxRecDepth 100000 in
theorem mb_X10_element : MB yX10_element cX10_element 2 (some .int) 1 := ⟨gd_t 1 ⟨rfl, rfl⟩, gd_t 349 ⟨rfl, rfl⟩, by decide +kernel, by decide +kernel, by decide +kernel⟩
set_option maxRecDepth 100000 in
theorem mi_X10_element : MI yX10_element := ⟨gd_t 347 ⟨rfl, rfl⟩, gd_t 348 ⟨rfl, rfl⟩⟩
set_option maxRecDepth 100000 in
theorem mb_X10_feed : MB yX10_feed cX10_feed 2 (some .int) 1 := ⟨gd_t 1 ⟨rfl, rfl⟩, gd_t 628 ⟨rfl, rfl⟩, by decide +kernel, by decide +kernel, by decide +kernel⟩
set_option maxRecDepth 100000 in
theorem mi_X10_feed : MI yX10_feed := ⟨gd_t 626 ⟨rfl, rfl⟩, gd_t 627 ⟨rfl, rfl⟩⟩
set_option maxRecDepth 100000 in
theorem mb_X10_film : MB yX10_film cX10_film 4 (some .int) 3 := ⟨gd_t 1 ⟨rfl, rfl⟩, gd_t 399 ⟨rfl, rfl⟩, by decide +kernel, by decide +kernel, by decide +kernel⟩
set_option maxRecDepth 100000 in
theorem mi_X10_film : MI yX10_film := ⟨gd_t 397 ⟨rfl, rfl⟩, gd_t 398 ⟨rfl, rfl⟩⟩
set_option maxRecDepth 100000 in
theorem mb_X10_finding : MB yX10_finding cX10_finding 2 (some .int) 1 := ⟨gd_t 1 ⟨rfl, rfl⟩, gd_t 359 ⟨rfl, rfl⟩, by decide +kernel, by decide +kernel, by decide +kernel⟩
set_option maxRecDepth 100000 in
theorem mi_X10_finding : MI yX10_finding := ⟨gd_t 358 ⟨rfl, rfl⟩, gd_p 0 ⟨rfl, rfl⟩⟩
set_option maxRecDepth 100000 in
theorem mb_X10_found : MB yX10_found cX10_found 2 (some .int) 1 := ⟨gd_t 1 ⟨rfl, rfl⟩, gd_t 1007 ⟨rfl, rfl⟩, by decide +kernel, by decide +kernel, by decide +kernel⟩
set_option maxRecDepth 100000 in
theorem mi_X10_found : MI yX10_found := ⟨gd_t 1005 ⟨rfl, rfl⟩, gd_t 1006 ⟨rfl, rfl⟩⟩
set_option maxRecDepth 100000 in
theorem mb_X10_habit : MB yX10_habit cX10_habit 2 (some .int) 1 := ⟨gd_t 1 ⟨rfl, rfl⟩, gd_t 417 ⟨rfl, rfl⟩, by decide +kernel, by decide +kernel, by decide +kernel⟩
set_option maxRecDepth 100000 in
theorem mi_X10_habit : MI yX10_habit := ⟨gd_t 415 ⟨rfl, rfl⟩, gd_t 416 ⟨rfl, rfl⟩⟩
set_option maxRecDepth 100000 in
theorem mb_X10_init : MB yX10_init cX10_init 1 none 0 := ⟨gd_t 1 ⟨rfl, rfl⟩, gd_t 23 ⟨rfl, rfl⟩, by decide +kernel, by decide +kernel, by decide +kernel⟩
set_option maxRecDepth 100000 in
theorem mb_X10_isCause : MB yX10_isCause cX10_isCause 1 (some .boolean) 1 := ⟨gd_t 1 ⟨rfl, rfl⟩, gd_t 766 ⟨rfl, rfl⟩, by decide +kernel, by decide +kernel, by decide +kernel⟩
set_option maxRecDepth 100000 in
theorem ms_X10_isCause : Cond.static yX10_isCause ∈ gd := gd_t 765 ⟨rfl, rfl⟩
set_option maxRecDepth 100000 in
theorem mb_X10_isIn : MB yX10_isIn cX10_isIn 2 (some .boolean) 2 := ⟨gd_t 1 ⟨rfl, rfl⟩, gd_t 851 ⟨rfl, rfl⟩, by decide +kernel, by decide +kernel, by decide +kernel⟩
set_option maxRecDepth 100000 in
theorem ms_X10_isIn : Cond.static yX10_isIn ∈ gd := gd_t 850 ⟨rfl, rfl⟩
set_option maxRecDepth 100000 in
theorem mb_X10_isOn : MB yX10_isOn cX10_isOn 2 (some .boolean) 1 := ⟨gd_t 1 ⟨rfl, rfl⟩, gd_t 746 ⟨rfl, rfl⟩, by decide +kernel, by decide +kernel, by decide +kernel⟩
set_option maxRecDepth 100000 in
theorem mi_X10_isOn : MI yX10_isOn := ⟨gd_t 745 ⟨rfl, rfl⟩, gd_p 12 ⟨rfl, rfl⟩⟩
set_option maxRecDepth 100000 in
theorem mb_X10_isPace : MB yX10_isPace cX10_isPace 1 (some .boolean) 1 := ⟨gd_t 1 ⟨rfl, rfl⟩, gd_t 405 ⟨rfl, rfl⟩, by decide +kernel, by decide +kernel, by decide +kernel⟩
set_option maxRecDepth 100000 in
theorem ms_X10_isPace : Cond.static yX10_isPace ∈ gd := gd_t 404 ⟨rfl, rfl⟩
set_option maxRecDepth 100000 in
theorem mb_X10_isRater : MB yX10_isRater cX10_isRater 1 (some .boolean) 1 := ⟨gd_t 1 ⟨rfl, rfl⟩, gd_t 402 ⟨rfl, rfl⟩, by decide +kernel, by decide +kernel, by decide +kernel⟩
set_option maxRecDepth 100000 in
theorem ms_X10_isRater : Cond.static yX10_isRater ∈ gd := gd_t 401 ⟨rfl, rfl⟩
set_option maxRecDepth 100000 in
theorem mb_X10_isWeek : MB yX10_isWeek cX10_isWeek 1 (some .boolean) 1 := ⟨gd_t 1 ⟨rfl, rfl⟩, gd_t 607 ⟨rfl, rfl⟩, by decide +kernel, by decide +kernel, by decide +kernel⟩
set_option maxRecDepth 100000 in
theorem ms_X10_isWeek : Cond.static yX10_isWeek ∈ gd := gd_t 606 ⟨rfl, rfl⟩
set_option maxRecDepth 100000 in
theorem mb_X10_isWithin : MB yX10_isWithin cX10_isWithin 3 (some .boolean) 3 := ⟨gd_t 1 ⟨rfl, rfl⟩, gd_t 355 ⟨rfl, rfl⟩, by decide +kernel, by decide +kernel, by decide +kernel⟩
set_option maxRecDepth 100000 in
theorem ms_X10_isWithin : Cond.static yX10_isWithin ∈ gd := gd_t 354 ⟨rfl, rfl⟩
set_option maxRecDepth 100000 in
theorem mb_X10_isWorker : MB yX10_isWorker cX10_isWorker 1 (some .boolean) 1 := ⟨gd_t 1 ⟨rfl, rfl⟩, gd_t 749 ⟨rfl, rfl⟩, by decide +kernel, by decide +kernel, by decide +kernel⟩
set_option maxRecDepth 100000 in
theorem ms_X10_isWorker : Cond.static yX10_isWorker ∈ gd := gd_t 748 ⟨rfl, rfl⟩
set_option maxRecDepth 100000 in
theorem mb_X10_job : MB yX10_job cX10_job 1 (some .int) 0 := ⟨gd_t 1 ⟨rfl, rfl⟩, gd_t 486 ⟨rfl, rfl⟩, by decide +kernel, by decide +kernel, by decide +kernel⟩
set_option maxRecDepth 100000 in
theorem mi_X10_job : MI yX10_job := ⟨gd_t 484 ⟨rfl, rfl⟩, gd_t 485 ⟨rfl, rfl⟩⟩
set_option maxRecDepth 100000 in
theorem mb_X10_learner : MB yX10_learner cX10_learner 4 (some .int) 3 := ⟨gd_t 1 ⟨rfl, rfl⟩, gd_t 778 ⟨rfl, rfl⟩, by decide +kernel, by decide +kernel, by decide +kernel⟩
set_option maxRecDepth 100000 in
theorem mi_X10_learner : MI yX10_learner := ⟨gd_t 776 ⟨rfl, rfl⟩, gd_t 777 ⟨rfl, rfl⟩⟩
set_option maxRecDepth 100000 in
theorem mb_X10_looser : MB yX10_looser cX10_looser 3 (some .int) 2 := ⟨gd_t 1 ⟨rfl, rfl⟩, gd_t 895 ⟨rfl, rfl⟩, by decide +kernel, by decide +kernel, by decide +kernel⟩
set_option maxRecDepth 100000 in
theorem mi_X10_looser : MI yX10_looser := ⟨gd_t 893 ⟨rfl, rfl⟩, gd_t 894 ⟨rfl, rfl⟩⟩
set_option maxRecDepth 100000 in
theorem mb_X10_move : MB yX10_move cX10_move 4 (some .int) 1 := ⟨gd_t 1 ⟨rfl, rfl⟩, gd_t 587 ⟨rfl, rfl⟩, by decide +kernel, by decide +kernel, by decide +kernel⟩
set_option maxRecDepth 100000 in
theorem mi_X10_move : MI yX10_move := ⟨gd_t 585 ⟨rfl, rfl⟩, gd_t 586 ⟨rfl, rfl⟩⟩
set_option maxRecDepth 100000 in
theorem mb_X10_newRate : MB yX10_newRate cX10_newRate 3 (some .int) 2 := ⟨gd_t 1 ⟨rfl, rfl⟩, gd_t 531 ⟨rfl, rfl⟩, by decide +kernel, by decide +kernel, by decide +kernel⟩
set_option maxRecDepth 100000 in
theorem mi_X10_newRate : MI yX10_newRate := ⟨gd_t 530 ⟨rfl, rfl⟩, gd_p 4 ⟨rfl, rfl⟩⟩
set_option maxRecDepth 100000 in
theorem mb_X10_normal : MB yX10_normal cX10_normal 2 (some .int) 1 := ⟨gd_t 1 ⟨rfl, rfl⟩, gd_t 437 ⟨rfl, rfl⟩, by decide +kernel, by decide +kernel, by decide +kernel⟩
set_option maxRecDepth 100000 in
theorem mi_X10_normal : MI yX10_normal := ⟨gd_t 435 ⟨rfl, rfl⟩, gd_t 436 ⟨rfl, rfl⟩⟩
set_option maxRecDepth 100000 in
theorem mb_X10_of : MB yX10_of cX10_of 3 (some .int) 2 := ⟨gd_t 1 ⟨rfl, rfl⟩, gd_t 453 ⟨rfl, rfl⟩, by decide +kernel, by decide +kernel, by decide +kernel⟩
set_option maxRecDepth 100000 in
theorem mi_X10_of : MI yX10_of := ⟨gd_t 451 ⟨rfl, rfl⟩, gd_t 452 ⟨rfl, rfl⟩⟩
set_option maxRecDepth 100000 in
theorem mb_X10_orNone : MB yX10_orNone cX10_orNone 2 (some .int) 1 := ⟨gd_t 1 ⟨rfl, rfl⟩, gd_t 860 ⟨rfl, rfl⟩, by decide +kernel, by decide +kernel, by decide +kernel⟩
set_option maxRecDepth 100000 in
theorem mi_X10_orNone : MI yX10_orNone := ⟨gd_t 859 ⟨rfl, rfl⟩, gd_p 15 ⟨rfl, rfl⟩⟩
set_option maxRecDepth 100000 in
theorem mb_X10_order : MB yX10_order cX10_order 2 (some .int) 1 := ⟨gd_t 1 ⟨rfl, rfl⟩, gd_t 907 ⟨rfl, rfl⟩, by decide +kernel, by decide +kernel, by decide +kernel⟩
set_option maxRecDepth 100000 in
theorem mi_X10_order : MI yX10_order := ⟨gd_t 905 ⟨rfl, rfl⟩, gd_t 906 ⟨rfl, rfl⟩⟩
set_option maxRecDepth 100000 in
theorem mb_X10_part : MB yX10_part cX10_part 4 (some .int) 3 := ⟨gd_t 1 ⟨rfl, rfl⟩, gd_t 498 ⟨rfl, rfl⟩, by decide +kernel, by decide +kernel, by decide +kernel⟩
set_option maxRecDepth 100000 in
theorem mi_X10_part : MI yX10_part := ⟨gd_t 496 ⟨rfl, rfl⟩, gd_t 497 ⟨rfl, rfl⟩⟩
set_option maxRecDepth 100000 in
theorem mb_X10_pay : MB yX10_pay cX10_pay 4 (some .int) 3 := ⟨gd_t 1 ⟨rfl, rfl⟩, gd_t 809 ⟨rfl, rfl⟩, by decide +kernel, by decide +kernel, by decide +kernel⟩
set_option maxRecDepth 100000 in
theorem mi_X10_pay : MI yX10_pay := ⟨gd_t 807 ⟨rfl, rfl⟩, gd_t 808 ⟨rfl, rfl⟩⟩
set_option maxRecDepth 100000 in
theorem mb_X10_pool : MB yX10_pool cX10_pool 4 (some .int) 3 := ⟨gd_t 1 ⟨rfl, rfl⟩, gd_t 848 ⟨rfl, rfl⟩, by decide +kernel, by decide +kernel, by decide +kernel⟩
set_option maxRecDepth 100000 in
theorem mi_X10_pool : MI yX10_pool := ⟨gd_t 846 ⟨rfl, rfl⟩, gd_t 847 ⟨rfl, rfl⟩⟩
set_option maxRecDepth 100000 in
theorem mb_X10_rate : MB yX10_rate cX10_rate 4 (some .int) 2 := ⟨gd_t 1 ⟨rfl, rfl⟩, gd_t 604 ⟨rfl, rfl⟩, by decide +kernel, by decide +kernel, by decide +kernel⟩
set_option maxRecDepth 100000 in
theorem mi_X10_rate : MI yX10_rate := ⟨gd_t 602 ⟨rfl, rfl⟩, gd_t 603 ⟨rfl, rfl⟩⟩
set_option maxRecDepth 100000 in
theorem mb_X10_read : MB yX10_read cX10_read 1 (some .int) 0 := ⟨gd_t 1 ⟨rfl, rfl⟩, gd_t 640 ⟨rfl, rfl⟩, by decide +kernel, by decide +kernel, by decide +kernel⟩
set_option maxRecDepth 100000 in
theorem mi_X10_read : MI yX10_read := ⟨gd_t 638 ⟨rfl, rfl⟩, gd_t 639 ⟨rfl, rfl⟩⟩
set_option maxRecDepth 100000 in
theorem mb_X10_rule : MB yX10_rule cX10_rule 2 (some .int) 1 := ⟨gd_t 1 ⟨rfl, rfl⟩, gd_t 738 ⟨rfl, rfl⟩, by decide +kernel, by decide +kernel, by decide +kernel⟩
set_option maxRecDepth 100000 in
theorem mi_X10_rule : MI yX10_rule := ⟨gd_t 736 ⟨rfl, rfl⟩, gd_t 737 ⟨rfl, rfl⟩⟩
set_option maxRecDepth 100000 in
theorem mb_X10_set : MB yX10_set cX10_set 2 (some .int) 1 := ⟨gd_t 1 ⟨rfl, rfl⟩, gd_t 523 ⟨rfl, rfl⟩, by decide +kernel, by decide +kernel, by decide +kernel⟩
set_option maxRecDepth 100000 in
theorem mi_X10_set : MI yX10_set := ⟨gd_t 521 ⟨rfl, rfl⟩, gd_t 522 ⟨rfl, rfl⟩⟩
set_option maxRecDepth 100000 in
theorem mb_X10_slow : MB yX10_slow cX10_slow 3 (some .int) 2 := ⟨gd_t 1 ⟨rfl, rfl⟩, gd_t 928 ⟨rfl, rfl⟩, by decide +kernel, by decide +kernel, by decide +kernel⟩
set_option maxRecDepth 100000 in
theorem mi_X10_slow : MI yX10_slow := ⟨gd_t 926 ⟨rfl, rfl⟩, gd_t 927 ⟨rfl, rfl⟩⟩
set_option maxRecDepth 100000 in
theorem mb_X10_tell : MB yX10_tell cX10_tell 2 (some .int) 1 := ⟨gd_t 1 ⟨rfl, rfl⟩, gd_t 974 ⟨rfl, rfl⟩, by decide +kernel, by decide +kernel, by decide +kernel⟩
set_option maxRecDepth 100000 in
theorem mi_X10_tell : MI yX10_tell := ⟨gd_t 972 ⟨rfl, rfl⟩, gd_t 973 ⟨rfl, rfl⟩⟩
set_option maxRecDepth 100000 in
theorem mb_X10_wait : MB yX10_wait cX10_wait 5 (some .int) 4 := ⟨gd_t 1 ⟨rfl, rfl⟩, gd_t 763 ⟨rfl, rfl⟩, by decide +kernel, by decide +kernel, by decide +kernel⟩
set_option maxRecDepth 100000 in
theorem mi_X10_wait : MI yX10_wait := ⟨gd_t 761 ⟨rfl, rfl⟩, gd_t 762 ⟨rfl, rfl⟩⟩
set_option maxRecDepth 100000 in
theorem mb_X10_week : MB yX10_week cX10_week 3 (some .int) 1 := ⟨gd_t 1 ⟨rfl, rfl⟩, gd_t 624 ⟨rfl, rfl⟩, by decide +kernel, by decide +kernel, by decide +kernel⟩
set_option maxRecDepth 100000 in
theorem mi_X10_week : MI yX10_week := ⟨gd_t 622 ⟨rfl, rfl⟩, gd_t 623 ⟨rfl, rfl⟩⟩
set_option maxRecDepth 100000 in
theorem mb_X10_work : MB yX10_work cX10_work 5 (some .int) 4 := ⟨gd_t 1 ⟨rfl, rfl⟩, gd_t 742 ⟨rfl, rfl⟩, by decide +kernel, by decide +kernel, by decide +kernel⟩
set_option maxRecDepth 100000 in
theorem mi_X10_work : MI yX10_work := ⟨gd_t 740 ⟨rfl, rfl⟩, gd_t 741 ⟨rfl, rfl⟩⟩
set_option maxRecDepth 100000 in
theorem mb_X10_worth : MB yX10_worth cX10_worth 5 (some .int) 3 := ⟨gd_t 1 ⟨rfl, rfl⟩, gd_t 619 ⟨rfl, rfl⟩, by decide +kernel, by decide +kernel, by decide +kernel⟩
set_option maxRecDepth 100000 in
theorem mi_X10_worth : MI yX10_worth := ⟨gd_t 617 ⟨rfl, rfl⟩, gd_t 618 ⟨rfl, rfl⟩⟩
set_option maxRecDepth 100000 in
theorem mb_X11_allow : MB yX11_allow cX11_allow 3 (some .int) 2 := ⟨gd_t 13 ⟨rfl, rfl⟩, gd_t 1189 ⟨rfl, rfl⟩, by decide +kernel, by decide +kernel, by decide +kernel⟩
set_option maxRecDepth 100000 in
theorem mi_X11_allow : MI yX11_allow := ⟨gd_t 1187 ⟨rfl, rfl⟩, gd_t 1188 ⟨rfl, rfl⟩⟩
set_option maxRecDepth 100000 in
theorem mb_X11_allowanceOf : MB yX11_allowanceOf cX11_allowanceOf 2 (some .int) 1 := ⟨gd_t 13 ⟨rfl, rfl⟩, gd_t 1185 ⟨rfl, rfl⟩, by decide +kernel, by decide +kernel, by decide +kernel⟩
set_option maxRecDepth 100000 in
theorem mi_X11_allowanceOf : MI yX11_allowanceOf := ⟨gd_t 1184 ⟨rfl, rfl⟩, gd_p 25 ⟨rfl, rfl⟩⟩
set_option maxRecDepth 100000 in
theorem mb_X11_as : MB yX11_as cX11_as 3 (some .int) 2 := ⟨gd_t 13 ⟨rfl, rfl⟩, gd_t 1177 ⟨rfl, rfl⟩, by decide +kernel, by decide +kernel, by decide +kernel⟩
set_option maxRecDepth 100000 in
theorem mi_X11_as : MI yX11_as := ⟨gd_t 1175 ⟨rfl, rfl⟩, gd_t 1176 ⟨rfl, rfl⟩⟩
set_option maxRecDepth 100000 in
theorem mb_X11_cause : MB yX11_cause cX11_cause 4 (some .int) 1 := ⟨gd_t 13 ⟨rfl, rfl⟩, gd_t 1349 ⟨rfl, rfl⟩, by decide +kernel, by decide +kernel, by decide +kernel⟩
set_option maxRecDepth 100000 in
theorem mi_X11_cause : MI yX11_cause := ⟨gd_t 1347 ⟨rfl, rfl⟩, gd_t 1348 ⟨rfl, rfl⟩⟩
set_option maxRecDepth 100000 in
theorem mb_X11_change : MB yX11_change cX11_change 5 (some .int) 1 := ⟨gd_t 13 ⟨rfl, rfl⟩, gd_t 1264 ⟨rfl, rfl⟩, by decide +kernel, by decide +kernel, by decide +kernel⟩
set_option maxRecDepth 100000 in
theorem mi_X11_change : MI yX11_change := ⟨gd_t 1262 ⟨rfl, rfl⟩, gd_t 1263 ⟨rfl, rfl⟩⟩
set_option maxRecDepth 100000 in
theorem mb_X11_check : MB yX11_check cX11_check 4 (some .int) 1 := ⟨gd_t 13 ⟨rfl, rfl⟩, gd_t 1389 ⟨rfl, rfl⟩, by decide +kernel, by decide +kernel, by decide +kernel⟩
set_option maxRecDepth 100000 in
theorem mi_X11_check : MI yX11_check := ⟨gd_t 1387 ⟨rfl, rfl⟩, gd_t 1388 ⟨rfl, rfl⟩⟩
set_option maxRecDepth 100000 in
theorem mb_X11_count : MB yX11_count cX11_count 2 (some .int) 1 := ⟨gd_t 13 ⟨rfl, rfl⟩, gd_t 1393 ⟨rfl, rfl⟩, by decide +kernel, by decide +kernel, by decide +kernel⟩
set_option maxRecDepth 100000 in
theorem mi_X11_count : MI yX11_count := ⟨gd_t 1391 ⟨rfl, rfl⟩, gd_t 1392 ⟨rfl, rfl⟩⟩
set_option maxRecDepth 100000 in
theorem mb_X11_cycle : MB yX11_cycle cX11_cycle 5 (some .int) 4 := ⟨gd_t 13 ⟨rfl, rfl⟩, gd_t 1208 ⟨rfl, rfl⟩, by decide +kernel, by decide +kernel, by decide +kernel⟩
set_option maxRecDepth 100000 in
theorem mi_X11_cycle : MI yX11_cycle := ⟨gd_t 1206 ⟨rfl, rfl⟩, gd_t 1207 ⟨rfl, rfl⟩⟩
set_option maxRecDepth 100000 in
theorem mb_X11_cyclesOf : MB yX11_cyclesOf cX11_cyclesOf 4 (some .int) 1 := ⟨gd_t 13 ⟨rfl, rfl⟩, gd_t 1224 ⟨rfl, rfl⟩, by decide +kernel, by decide +kernel, by decide +kernel⟩
set_option maxRecDepth 100000 in
theorem mi_X11_cyclesOf : MI yX11_cyclesOf := ⟨gd_t 1223 ⟨rfl, rfl⟩, gd_p 28 ⟨rfl, rfl⟩⟩
set_option maxRecDepth 100000 in
theorem mb_X11_earned : MB yX11_earned cX11_earned 2 (some .int) 1 := ⟨gd_t 13 ⟨rfl, rfl⟩, gd_t 1333 ⟨rfl, rfl⟩, by decide +kernel, by decide +kernel, by decide +kernel⟩
set_option maxRecDepth 100000 in
theorem mi_X11_earned : MI yX11_earned := ⟨gd_t 1331 ⟨rfl, rfl⟩, gd_t 1332 ⟨rfl, rfl⟩⟩
set_option maxRecDepth 100000 in
theorem mb_X11_earnedBy : MB yX11_earnedBy cX11_earnedBy 6 (some .int) 1 := ⟨gd_t 13 ⟨rfl, rfl⟩, gd_t 1337 ⟨rfl, rfl⟩, by decide +kernel, by decide +kernel, by decide +kernel⟩
set_option maxRecDepth 100000 in
theorem mi_X11_earnedBy : MI yX11_earnedBy := ⟨gd_t 1336 ⟨rfl, rfl⟩, gd_p 39 ⟨rfl, rfl⟩⟩
set_option maxRecDepth 100000 in
theorem mb_X11_efficiency : MB yX11_efficiency cX11_efficiency 4 (some .int) 2 := ⟨gd_t 13 ⟨rfl, rfl⟩, gd_t 1357 ⟨rfl, rfl⟩, by decide +kernel, by decide +kernel, by decide +kernel⟩
set_option maxRecDepth 100000 in
theorem mi_X11_efficiency : MI yX11_efficiency := ⟨gd_t 1355 ⟨rfl, rfl⟩, gd_t 1356 ⟨rfl, rfl⟩⟩
set_option maxRecDepth 100000 in
theorem mb_X11_efficiencyOf : MB yX11_efficiencyOf cX11_efficiencyOf 8 (some .int) 2 := ⟨gd_t 13 ⟨rfl, rfl⟩, gd_t 1361 ⟨rfl, rfl⟩, by decide +kernel, by decide +kernel, by decide +kernel⟩
set_option maxRecDepth 100000 in
theorem mi_X11_efficiencyOf : MI yX11_efficiencyOf := ⟨gd_t 1360 ⟨rfl, rfl⟩, gd_p 41 ⟨rfl, rfl⟩⟩
set_option maxRecDepth 100000 in
theorem mb_X11_element : MB yX11_element cX11_element 2 (some .int) 1 := ⟨gd_t 13 ⟨rfl, rfl⟩, gd_t 1165 ⟨rfl, rfl⟩, by decide +kernel, by decide +kernel, by decide +kernel⟩
set_option maxRecDepth 100000 in
theorem mi_X11_element : MI yX11_element := ⟨gd_t 1163 ⟨rfl, rfl⟩, gd_t 1164 ⟨rfl, rfl⟩⟩
set_option maxRecDepth 100000 in
theorem mb_X11_feed : MB yX11_feed cX11_feed 2 (some .int) 1 := ⟨gd_t 13 ⟨rfl, rfl⟩, gd_t 1291 ⟨rfl, rfl⟩, by decide +kernel, by decide +kernel, by decide +kernel⟩
set_option maxRecDepth 100000 in
theorem mi_X11_feed : MI yX11_feed := ⟨gd_t 1289 ⟨rfl, rfl⟩, gd_t 1290 ⟨rfl, rfl⟩⟩
set_option maxRecDepth 100000 in
theorem mb_X11_film : MB yX11_film cX11_film 4 (some .int) 3 := ⟨gd_t 13 ⟨rfl, rfl⟩, gd_t 1193 ⟨rfl, rfl⟩, by decide +kernel, by decide +kernel, by decide +kernel⟩
set_option maxRecDepth 100000 in
theorem mi_X11_film : MI yX11_film := ⟨gd_t 1191 ⟨rfl, rfl⟩, gd_t 1192 ⟨rfl, rfl⟩⟩
set_option maxRecDepth 100000 in
theorem mb_X11_finding : MB yX11_finding cX11_finding 2 (some .int) 1 := ⟨gd_t 13 ⟨rfl, rfl⟩, gd_t 1172 ⟨rfl, rfl⟩, by decide +kernel, by decide +kernel, by decide +kernel⟩
set_option maxRecDepth 100000 in
theorem mi_X11_finding : MI yX11_finding := ⟨gd_t 1171 ⟨rfl, rfl⟩, gd_p 23 ⟨rfl, rfl⟩⟩
set_option maxRecDepth 100000 in
theorem mb_X11_forceOf : MB yX11_forceOf cX11_forceOf 5 (some .int) 2 := ⟨gd_t 13 ⟨rfl, rfl⟩, gd_t 1279 ⟨rfl, rfl⟩, by decide +kernel, by decide +kernel, by decide +kernel⟩
set_option maxRecDepth 100000 in
theorem mi_X11_forceOf : MI yX11_forceOf := ⟨gd_t 1278 ⟨rfl, rfl⟩, gd_p 35 ⟨rfl, rfl⟩⟩
set_option maxRecDepth 100000 in
theorem mb_X11_found : MB yX11_found cX11_found 2 (some .int) 1 := ⟨gd_t 13 ⟨rfl, rfl⟩, gd_t 1397 ⟨rfl, rfl⟩, by decide +kernel, by decide +kernel, by decide +kernel⟩
set_option maxRecDepth 100000 in
theorem mi_X11_found : MI yX11_found := ⟨gd_t 1395 ⟨rfl, rfl⟩, gd_t 1396 ⟨rfl, rfl⟩⟩
set_option maxRecDepth 100000 in
theorem mb_X11_habit : MB yX11_habit cX11_habit 2 (some .int) 1 := ⟨gd_t 13 ⟨rfl, rfl⟩, gd_t 1200 ⟨rfl, rfl⟩, by decide +kernel, by decide +kernel, by decide +kernel⟩
set_option maxRecDepth 100000 in
theorem mi_X11_habit : MI yX11_habit := ⟨gd_t 1198 ⟨rfl, rfl⟩, gd_t 1199 ⟨rfl, rfl⟩⟩
set_option maxRecDepth 100000 in
theorem mb_X11_habitOf : MB yX11_habitOf cX11_habitOf 5 (some .int) 1 := ⟨gd_t 13 ⟨rfl, rfl⟩, gd_t 1204 ⟨rfl, rfl⟩, by decide +kernel, by decide +kernel, by decide +kernel⟩
set_option maxRecDepth 100000 in
theorem mi_X11_habitOf : MI yX11_habitOf := ⟨gd_t 1203 ⟨rfl, rfl⟩, gd_p 26 ⟨rfl, rfl⟩⟩
set_option maxRecDepth 100000 in
theorem mb_X11_here : MB yX11_here cX11_here 1 (some .int) 0 := ⟨gd_t 13 ⟨rfl, rfl⟩, gd_t 1309 ⟨rfl, rfl⟩, by decide +kernel, by decide +kernel, by decide +kernel⟩
set_option maxRecDepth 100000 in
theorem mi_X11_here : MI yX11_here := ⟨gd_t 1308 ⟨rfl, rfl⟩, gd_p 38 ⟨rfl, rfl⟩⟩
set_option maxRecDepth 100000 in
theorem mb_X11_init : MB yX11_init cX11_init 2 none 0 := ⟨gd_t 13 ⟨rfl, rfl⟩, gd_t 1012 ⟨rfl, rfl⟩, by decide +kernel, by decide +kernel, by decide +kernel⟩
set_option maxRecDepth 100000 in
theorem mb_X11_isElement : MB yX11_isElement cX11_isElement 2 (some .boolean) 1 := ⟨gd_t 13 ⟨rfl, rfl⟩, gd_t 1181 ⟨rfl, rfl⟩, by decide +kernel, by decide +kernel, by decide +kernel⟩
set_option maxRecDepth 100000 in
theorem mi_X11_isElement : MI yX11_isElement := ⟨gd_t 1180 ⟨rfl, rfl⟩, gd_p 24 ⟨rfl, rfl⟩⟩
set_option maxRecDepth 100000 in
theorem mb_X11_isIn : MB yX11_isIn cX11_isIn 3 (some .boolean) 3 := ⟨gd_t 13 ⟨rfl, rfl⟩, gd_t 1168 ⟨rfl, rfl⟩, by decide +kernel, by decide +kernel, by decide +kernel⟩
set_option maxRecDepth 100000 in
theorem ms_X11_isIn : Cond.static yX11_isIn ∈ gd := gd_t 1167 ⟨rfl, rfl⟩
set_option maxRecDepth 100000 in
theorem mb_X11_isJob : MB yX11_isJob cX11_isJob 2 (some .boolean) 1 := ⟨gd_t 13 ⟨rfl, rfl⟩, gd_t 1244 ⟨rfl, rfl⟩, by decide +kernel, by decide +kernel, by decide +kernel⟩
set_option maxRecDepth 100000 in
theorem mi_X11_isJob : MI yX11_isJob := ⟨gd_t 1243 ⟨rfl, rfl⟩, gd_p 31 ⟨rfl, rfl⟩⟩
set_option maxRecDepth 100000 in
theorem mb_X11_isLooser : MB yX11_isLooser cX11_isLooser 8 (some .boolean) 2 := ⟨gd_t 13 ⟨rfl, rfl⟩, gd_t 1370 ⟨rfl, rfl⟩, by decide +kernel, by decide +kernel, by decide +kernel⟩
set_option maxRecDepth 100000 in
theorem mi_X11_isLooser : MI yX11_isLooser := ⟨gd_t 1369 ⟨rfl, rfl⟩, gd_p 42 ⟨rfl, rfl⟩⟩
set_option maxRecDepth 100000 in
theorem mb_X11_isPace : MB yX11_isPace cX11_isPace 1 (some .boolean) 1 := ⟨gd_t 13 ⟨rfl, rfl⟩, gd_t 1196 ⟨rfl, rfl⟩, by decide +kernel, by decide +kernel, by decide +kernel⟩
set_option maxRecDepth 100000 in
theorem ms_X11_isPace : Cond.static yX11_isPace ∈ gd := gd_t 1195 ⟨rfl, rfl⟩
set_option maxRecDepth 100000 in
theorem mb_X11_isWeek : MB yX11_isWeek cX11_isWeek 1 (some .boolean) 1 := ⟨gd_t 13 ⟨rfl, rfl⟩, gd_t 1275 ⟨rfl, rfl⟩, by decide +kernel, by decide +kernel, by decide +kernel⟩
set_option maxRecDepth 100000 in
theorem ms_X11_isWeek : Cond.static yX11_isWeek ∈ gd := gd_t 1274 ⟨rfl, rfl⟩
set_option maxRecDepth 100000 in
theorem mb_X11_isWorker : MB yX11_isWorker cX11_isWorker 1 (some .boolean) 1 := ⟨gd_t 13 ⟨rfl, rfl⟩, gd_t 1320 ⟨rfl, rfl⟩, by decide +kernel, by decide +kernel, by decide +kernel⟩
set_option maxRecDepth 100000 in
theorem ms_X11_isWorker : Cond.static yX11_isWorker ∈ gd := gd_t 1319 ⟨rfl, rfl⟩
set_option maxRecDepth 100000 in
theorem mb_X11_job : MB yX11_job cX11_job 1 (some .int) 0 := ⟨gd_t 13 ⟨rfl, rfl⟩, gd_t 1236 ⟨rfl, rfl⟩, by decide +kernel, by decide +kernel, by decide +kernel⟩
set_option maxRecDepth 100000 in
theorem mi_X11_job : MI yX11_job := ⟨gd_t 1234 ⟨rfl, rfl⟩, gd_t 1235 ⟨rfl, rfl⟩⟩
set_option maxRecDepth 100000 in
theorem mb_X11_keptOf : MB yX11_keptOf cX11_keptOf 11 (some .int) 2 := ⟨gd_t 13 ⟨rfl, rfl⟩, gd_t 1232 ⟨rfl, rfl⟩, by decide +kernel, by decide +kernel, by decide +kernel⟩
set_option maxRecDepth 100000 in
theorem mi_X11_keptOf : MI yX11_keptOf := ⟨gd_t 1231 ⟨rfl, rfl⟩, gd_p 30 ⟨rfl, rfl⟩⟩
set_option maxRecDepth 100000 in
theorem mb_X11_latestOf : MB yX11_latestOf cX11_latestOf 4 (some .int) 1 := ⟨gd_t 13 ⟨rfl, rfl⟩, gd_t 1248 ⟨rfl, rfl⟩, by decide +kernel, by decide +kernel, by decide +kernel⟩
set_option maxRecDepth 100000 in
theorem mi_X11_latestOf : MI yX11_latestOf := ⟨gd_t 1247 ⟨rfl, rfl⟩, gd_p 32 ⟨rfl, rfl⟩⟩
set_option maxRecDepth 100000 in
theorem mb_X11_learner : MB yX11_learner cX11_learner 5 (some .int) 3 := ⟨gd_t 13 ⟨rfl, rfl⟩, gd_t 1329 ⟨rfl, rfl⟩, by decide +kernel, by decide +kernel, by decide +kernel⟩
set_option maxRecDepth 100000 in
theorem mi_X11_learner : MI yX11_learner := ⟨gd_t 1327 ⟨rfl, rfl⟩, gd_t 1328 ⟨rfl, rfl⟩⟩
set_option maxRecDepth 100000 in
theorem mb_X11_looser : MB yX11_looser cX11_looser 3 (some .int) 2 := ⟨gd_t 13 ⟨rfl, rfl⟩, gd_t 1366 ⟨rfl, rfl⟩, by decide +kernel, by decide +kernel, by decide +kernel⟩
set_option maxRecDepth 100000 in
theorem mi_X11_looser : MI yX11_looser := ⟨gd_t 1364 ⟨rfl, rfl⟩, gd_t 1365 ⟨rfl, rfl⟩⟩
set_option maxRecDepth 100000 in
theorem mb_X11_make : MB yX11_make cX11_make 6 (some .int) 3 := ⟨gd_t 13 ⟨rfl, rfl⟩, gd_t 1256 ⟨rfl, rfl⟩, by decide +kernel, by decide +kernel, by decide +kernel⟩
set_option maxRecDepth 100000 in
theorem mi_X11_make : MI yX11_make := ⟨gd_t 1255 ⟨rfl, rfl⟩, gd_p 33 ⟨rfl, rfl⟩⟩
set_option maxRecDepth 100000 in
theorem mb_X11_move : MB yX11_move cX11_move 6 (some .int) 1 := ⟨gd_t 13 ⟨rfl, rfl⟩, gd_t 1268 ⟨rfl, rfl⟩, by decide +kernel, by decide +kernel, by decide +kernel⟩
set_option maxRecDepth 100000 in
theorem mi_X11_move : MI yX11_move := ⟨gd_t 1266 ⟨rfl, rfl⟩, gd_t 1267 ⟨rfl, rfl⟩⟩
set_option maxRecDepth 100000 in
theorem mb_X11_normal : MB yX11_normal cX11_normal 2 (some .int) 1 := ⟨gd_t 13 ⟨rfl, rfl⟩, gd_t 1212 ⟨rfl, rfl⟩, by decide +kernel, by decide +kernel, by decide +kernel⟩
set_option maxRecDepth 100000 in
theorem mi_X11_normal : MI yX11_normal := ⟨gd_t 1210 ⟨rfl, rfl⟩, gd_t 1211 ⟨rfl, rfl⟩⟩
set_option maxRecDepth 100000 in
theorem mb_X11_normalOf : MB yX11_normalOf cX11_normalOf 3 (some .int) 1 := ⟨gd_t 13 ⟨rfl, rfl⟩, gd_t 1216 ⟨rfl, rfl⟩, by decide +kernel, by decide +kernel, by decide +kernel⟩
set_option maxRecDepth 100000 in
theorem mi_X11_normalOf : MI yX11_normalOf := ⟨gd_t 1215 ⟨rfl, rfl⟩, gd_p 27 ⟨rfl, rfl⟩⟩
set_option maxRecDepth 100000 in
theorem mb_X11_of : MB yX11_of cX11_of 3 (some .int) 2 := ⟨gd_t 13 ⟨rfl, rfl⟩, gd_t 1220 ⟨rfl, rfl⟩, by decide +kernel, by decide +kernel, by decide +kernel⟩
set_option maxRecDepth 100000 in
theorem mi_X11_of : MI yX11_of := ⟨gd_t 1218 ⟨rfl, rfl⟩, gd_t 1219 ⟨rfl, rfl⟩⟩
set_option maxRecDepth 100000 in
theorem mb_X11_ones : MB yX11_ones cX11_ones 3 (some .int) 1 := ⟨gd_t 13 ⟨rfl, rfl⟩, gd_t 1373 ⟨rfl, rfl⟩, by decide +kernel, by decide +kernel, by decide +kernel⟩
set_option maxRecDepth 100000 in
theorem ms_X11_ones : Cond.static yX11_ones ∈ gd := gd_t 1372 ⟨rfl, rfl⟩
set_option maxRecDepth 100000 in
theorem mb_X11_order : MB yX11_order cX11_order 5 (some .int) 1 := ⟨gd_t 13 ⟨rfl, rfl⟩, gd_t 1377 ⟨rfl, rfl⟩, by decide +kernel, by decide +kernel, by decide +kernel⟩
set_option maxRecDepth 100000 in
theorem mi_X11_order : MI yX11_order := ⟨gd_t 1375 ⟨rfl, rfl⟩, gd_t 1376 ⟨rfl, rfl⟩⟩
set_option maxRecDepth 100000 in
theorem mb_X11_part : MB yX11_part cX11_part 6 (some .int) 3 := ⟨gd_t 13 ⟨rfl, rfl⟩, gd_t 1240 ⟨rfl, rfl⟩, by decide +kernel, by decide +kernel, by decide +kernel⟩
set_option maxRecDepth 100000 in
theorem mi_X11_part : MI yX11_part := ⟨gd_t 1238 ⟨rfl, rfl⟩, gd_t 1239 ⟨rfl, rfl⟩⟩
set_option maxRecDepth 100000 in
theorem mb_X11_pay : MB yX11_pay cX11_pay 4 (some .int) 3 := ⟨gd_t 13 ⟨rfl, rfl⟩, gd_t 1341 ⟨rfl, rfl⟩, by decide +kernel, by decide +kernel, by decide +kernel⟩
set_option maxRecDepth 100000 in
theorem mi_X11_pay : MI yX11_pay := ⟨gd_t 1339 ⟨rfl, rfl⟩, gd_t 1340 ⟨rfl, rfl⟩⟩
set_option maxRecDepth 100000 in
theorem mb_X11_payOf : MB yX11_payOf cX11_payOf 9 (some .int) 3 := ⟨gd_t 13 ⟨rfl, rfl⟩, gd_t 1345 ⟨rfl, rfl⟩, by decide +kernel, by decide +kernel, by decide +kernel⟩
set_option maxRecDepth 100000 in
theorem mi_X11_payOf : MI yX11_payOf := ⟨gd_t 1344 ⟨rfl, rfl⟩, gd_p 40 ⟨rfl, rfl⟩⟩
set_option maxRecDepth 100000 in
theorem mb_X11_pool : MB yX11_pool cX11_pool 16 (some .int) 3 := ⟨gd_t 13 ⟨rfl, rfl⟩, gd_t 1353 ⟨rfl, rfl⟩, by decide +kernel, by decide +kernel, by decide +kernel⟩
set_option maxRecDepth 100000 in
theorem mi_X11_pool : MI yX11_pool := ⟨gd_t 1351 ⟨rfl, rfl⟩, gd_t 1352 ⟨rfl, rfl⟩⟩
set_option maxRecDepth 100000 in
theorem mb_X11_rate : MB yX11_rate cX11_rate 4 (some .int) 2 := ⟨gd_t 13 ⟨rfl, rfl⟩, gd_t 1272 ⟨rfl, rfl⟩, by decide +kernel, by decide +kernel, by decide +kernel⟩
set_option maxRecDepth 100000 in
theorem mi_X11_rate : MI yX11_rate := ⟨gd_t 1270 ⟨rfl, rfl⟩, gd_t 1271 ⟨rfl, rfl⟩⟩
set_option maxRecDepth 100000 in
theorem mb_X11_read : MB yX11_read cX11_read 4 (some .int) 0 := ⟨gd_t 13 ⟨rfl, rfl⟩, gd_t 1295 ⟨rfl, rfl⟩, by decide +kernel, by decide +kernel, by decide +kernel⟩
set_option maxRecDepth 100000 in
theorem mi_X11_read : MI yX11_read := ⟨gd_t 1293 ⟨rfl, rfl⟩, gd_t 1294 ⟨rfl, rfl⟩⟩
set_option maxRecDepth 100000 in
theorem mb_X11_readAll : MB yX11_readAll cX11_readAll 4 (some .int) 0 := ⟨gd_t 13 ⟨rfl, rfl⟩, gd_t 1299 ⟨rfl, rfl⟩, by decide +kernel, by decide +kernel, by decide +kernel⟩
set_option maxRecDepth 100000 in
theorem mi_X11_readAll : MI yX11_readAll := ⟨gd_t 1298 ⟨rfl, rfl⟩, gd_p 36 ⟨rfl, rfl⟩⟩
set_option maxRecDepth 100000 in
theorem mb_X11_rule : MB yX11_rule cX11_rule 2 (some .int) 1 := ⟨gd_t 13 ⟨rfl, rfl⟩, gd_t 1313 ⟨rfl, rfl⟩, by decide +kernel, by decide +kernel, by decide +kernel⟩
set_option maxRecDepth 100000 in
theorem mi_X11_rule : MI yX11_rule := ⟨gd_t 1311 ⟨rfl, rfl⟩, gd_t 1312 ⟨rfl, rfl⟩⟩
set_option maxRecDepth 100000 in
theorem mb_X11_set : MB yX11_set cX11_set 3 (some .int) 1 := ⟨gd_t 13 ⟨rfl, rfl⟩, gd_t 1252 ⟨rfl, rfl⟩, by decide +kernel, by decide +kernel, by decide +kernel⟩
set_option maxRecDepth 100000 in
theorem mi_X11_set : MI yX11_set := ⟨gd_t 1250 ⟨rfl, rfl⟩, gd_t 1251 ⟨rfl, rfl⟩⟩
set_option maxRecDepth 100000 in
theorem mb_X11_slow : MB yX11_slow cX11_slow 12 (some .int) 2 := ⟨gd_t 13 ⟨rfl, rfl⟩, gd_t 1381 ⟨rfl, rfl⟩, by decide +kernel, by decide +kernel, by decide +kernel⟩
set_option maxRecDepth 100000 in
theorem mi_X11_slow : MI yX11_slow := ⟨gd_t 1379 ⟨rfl, rfl⟩, gd_t 1380 ⟨rfl, rfl⟩⟩
set_option maxRecDepth 100000 in
theorem mb_X11_standardOf : MB yX11_standardOf cX11_standardOf 3 (some .int) 1 := ⟨gd_t 13 ⟨rfl, rfl⟩, gd_t 1228 ⟨rfl, rfl⟩, by decide +kernel, by decide +kernel, by decide +kernel⟩
set_option maxRecDepth 100000 in
theorem mi_X11_standardOf : MI yX11_standardOf := ⟨gd_t 1227 ⟨rfl, rfl⟩, gd_p 29 ⟨rfl, rfl⟩⟩
set_option maxRecDepth 100000 in
theorem mb_X11_sumOf : MB yX11_sumOf cX11_sumOf 4 (some .int) 1 := ⟨gd_t 13 ⟨rfl, rfl⟩, gd_t 1260 ⟨rfl, rfl⟩, by decide +kernel, by decide +kernel, by decide +kernel⟩
set_option maxRecDepth 100000 in
theorem mi_X11_sumOf : MI yX11_sumOf := ⟨gd_t 1259 ⟨rfl, rfl⟩, gd_p 34 ⟨rfl, rfl⟩⟩
set_option maxRecDepth 100000 in
theorem mb_X11_tell : MB yX11_tell cX11_tell 2 (some .int) 1 := ⟨gd_t 13 ⟨rfl, rfl⟩, gd_t 1385 ⟨rfl, rfl⟩, by decide +kernel, by decide +kernel, by decide +kernel⟩
set_option maxRecDepth 100000 in
theorem mi_X11_tell : MI yX11_tell := ⟨gd_t 1383 ⟨rfl, rfl⟩, gd_t 1384 ⟨rfl, rfl⟩⟩
set_option maxRecDepth 100000 in
theorem mb_X11_wait : MB yX11_wait cX11_wait 5 (some .int) 4 := ⟨gd_t 13 ⟨rfl, rfl⟩, gd_t 1325 ⟨rfl, rfl⟩, by decide +kernel, by decide +kernel, by decide +kernel⟩
set_option maxRecDepth 100000 in
theorem mi_X11_wait : MI yX11_wait := ⟨gd_t 1323 ⟨rfl, rfl⟩, gd_t 1324 ⟨rfl, rfl⟩⟩
set_option maxRecDepth 100000 in
theorem mb_X11_week : MB yX11_week cX11_week 3 (some .int) 1 := ⟨gd_t 13 ⟨rfl, rfl⟩, gd_t 1287 ⟨rfl, rfl⟩, by decide +kernel, by decide +kernel, by decide +kernel⟩
set_option maxRecDepth 100000 in
theorem mi_X11_week : MI yX11_week := ⟨gd_t 1285 ⟨rfl, rfl⟩, gd_t 1286 ⟨rfl, rfl⟩⟩
set_option maxRecDepth 100000 in
theorem mb_X11_wordHere : MB yX11_wordHere cX11_wordHere 6 (some .int) 0 := ⟨gd_t 13 ⟨rfl, rfl⟩, gd_t 1303 ⟨rfl, rfl⟩, by decide +kernel, by decide +kernel, by decide +kernel⟩
set_option maxRecDepth 100000 in
theorem mi_X11_wordHere : MI yX11_wordHere := ⟨gd_t 1302 ⟨rfl, rfl⟩, gd_p 37 ⟨rfl, rfl⟩⟩
set_option maxRecDepth 100000 in
theorem mb_X11_work : MB yX11_work cX11_work 6 (some .int) 4 := ⟨gd_t 13 ⟨rfl, rfl⟩, gd_t 1317 ⟨rfl, rfl⟩, by decide +kernel, by decide +kernel, by decide +kernel⟩
set_option maxRecDepth 100000 in
theorem mi_X11_work : MI yX11_work := ⟨gd_t 1315 ⟨rfl, rfl⟩, gd_t 1316 ⟨rfl, rfl⟩⟩
set_option maxRecDepth 100000 in
theorem mb_X11_worth : MB yX11_worth cX11_worth 5 (some .int) 3 := ⟨gd_t 13 ⟨rfl, rfl⟩, gd_t 1283 ⟨rfl, rfl⟩, by decide +kernel, by decide +kernel, by decide +kernel⟩
set_option maxRecDepth 100000 in
theorem mi_X11_worth : MI yX11_worth := ⟨gd_t 1281 ⟨rfl, rfl⟩, gd_t 1282 ⟨rfl, rfl⟩⟩
set_option maxRecDepth 100000 in
theorem mb_X1_add : MB yX1_add cX1_add 2 (some .int) 1 := ⟨gd_t 2 ⟨rfl, rfl⟩, gd_t 368 ⟨rfl, rfl⟩, by decide +kernel, by decide +kernel, by decide +kernel⟩
set_option maxRecDepth 100000 in
theorem mi_X1_add : MI yX1_add := ⟨gd_t 366 ⟨rfl, rfl⟩, gd_t 367 ⟨rfl, rfl⟩⟩
set_option maxRecDepth 100000 in
theorem mb_X1_allowanceOf : MB yX1_allowanceOf cX1_allowanceOf 2 (some .int) 1 := ⟨gd_t 2 ⟨rfl, rfl⟩, gd_t 386 ⟨rfl, rfl⟩, by decide +kernel, by decide +kernel, by decide +kernel⟩
set_option maxRecDepth 100000 in
theorem mi_X1_allowanceOf : MI yX1_allowanceOf := ⟨gd_t 384 ⟨rfl, rfl⟩, gd_t 385 ⟨rfl, rfl⟩⟩
set_option maxRecDepth 100000 in
theorem mb_X1_has : MB yX1_has cX1_has 2 (some .boolean) 1 := ⟨gd_t 2 ⟨rfl, rfl⟩, gd_t 376 ⟨rfl, rfl⟩, by decide +kernel, by decide +kernel, by decide +kernel⟩
set_option maxRecDepth 100000 in
theorem mi_X1_has : MI yX1_has := ⟨gd_t 374 ⟨rfl, rfl⟩, gd_t 375 ⟨rfl, rfl⟩⟩
set_option maxRecDepth 100000 in
theorem mb_X1_init : MB yX1_init cX1_init 1 none 0 := ⟨gd_t 2 ⟨rfl, rfl⟩, gd_t 31 ⟨rfl, rfl⟩, by decide +kernel, by decide +kernel, by decide +kernel⟩
set_option maxRecDepth 100000 in
theorem mb_X1_isFull : MB yX1_isFull cX1_isFull 1 (some .boolean) 0 := ⟨gd_t 2 ⟨rfl, rfl⟩, gd_t 364 ⟨rfl, rfl⟩, by decide +kernel, by decide +kernel, by decide +kernel⟩
set_option maxRecDepth 100000 in
theorem mi_X1_isFull : MI yX1_isFull := ⟨gd_t 362 ⟨rfl, rfl⟩, gd_t 363 ⟨rfl, rfl⟩⟩
set_option maxRecDepth 100000 in
theorem mb_X1_isKind : MB yX1_isKind cX1_isKind 1 (some .boolean) 1 := ⟨gd_t 2 ⟨rfl, rfl⟩, gd_t 352 ⟨rfl, rfl⟩, by decide +kernel, by decide +kernel, by decide +kernel⟩
set_option maxRecDepth 100000 in
theorem ms_X1_isKind : Cond.static yX1_isKind ∈ gd := gd_t 351 ⟨rfl, rfl⟩
set_option maxRecDepth 100000 in
theorem mb_X1_isUnder : MB yX1_isUnder cX1_isUnder 5 (some .boolean) 2 := ⟨gd_t 2 ⟨rfl, rfl⟩, gd_t 380 ⟨rfl, rfl⟩, by decide +kernel, by decide +kernel, by decide +kernel⟩
set_option maxRecDepth 100000 in
theorem mi_X1_isUnder : MI yX1_isUnder := ⟨gd_t 378 ⟨rfl, rfl⟩, gd_t 379 ⟨rfl, rfl⟩⟩
set_option maxRecDepth 100000 in
theorem mb_X1_kindOf : MB yX1_kindOf cX1_kindOf 2 (some .int) 1 := ⟨gd_t 2 ⟨rfl, rfl⟩, gd_t 457 ⟨rfl, rfl⟩, by decide +kernel, by decide +kernel, by decide +kernel⟩
set_option maxRecDepth 100000 in
theorem mi_X1_kindOf : MI yX1_kindOf := ⟨gd_t 455 ⟨rfl, rfl⟩, gd_t 456 ⟨rfl, rfl⟩⟩
set_option maxRecDepth 100000 in
theorem mb_X1_many : MB yX1_many cX1_many 1 (some .int) 0 := ⟨gd_t 2 ⟨rfl, rfl⟩, gd_t 987 ⟨rfl, rfl⟩, by decide +kernel, by decide +kernel, by decide +kernel⟩
set_option maxRecDepth 100000 in
theorem mi_X1_many : MI yX1_many := ⟨gd_t 985 ⟨rfl, rfl⟩, gd_t 986 ⟨rfl, rfl⟩⟩
set_option maxRecDepth 100000 in
theorem mb_X1_setAllowances : MB yX1_setAllowances cX1_setAllowances 3 none 2 := ⟨gd_t 2 ⟨rfl, rfl⟩, gd_t 395 ⟨rfl, rfl⟩, by decide +kernel, by decide +kernel, by decide +kernel⟩
set_option maxRecDepth 100000 in
theorem mi_X1_setAllowances : MI yX1_setAllowances := ⟨gd_t 393 ⟨rfl, rfl⟩, gd_t 394 ⟨rfl, rfl⟩⟩
set_option maxRecDepth 100000 in
theorem mb_X2_add : MB yX2_add cX2_add 1 (some .int) 0 := ⟨gd_t 4 ⟨rfl, rfl⟩, gd_t 494 ⟨rfl, rfl⟩, by decide +kernel, by decide +kernel, by decide +kernel⟩
set_option maxRecDepth 100000 in
theorem mi_X2_add : MI yX2_add := ⟨gd_t 492 ⟨rfl, rfl⟩, gd_t 493 ⟨rfl, rfl⟩⟩
set_option maxRecDepth 100000 in
theorem mb_X2_addPart : MB yX2_addPart cX2_addPart 5 (some .int) 3 := ⟨gd_t 4 ⟨rfl, rfl⟩, gd_t 519 ⟨rfl, rfl⟩, by decide +kernel, by decide +kernel, by decide +kernel⟩
set_option maxRecDepth 100000 in
theorem mi_X2_addPart : MI yX2_addPart := ⟨gd_t 517 ⟨rfl, rfl⟩, gd_t 518 ⟨rfl, rfl⟩⟩
set_option maxRecDepth 100000 in
theorem mb_X2_clearMarks : MB yX2_clearMarks cX2_clearMarks 3 none 1 := ⟨gd_t 4 ⟨rfl, rfl⟩, gd_t 571 ⟨rfl, rfl⟩, by decide +kernel, by decide +kernel, by decide +kernel⟩
set_option maxRecDepth 100000 in
theorem mi_X2_clearMarks : MI yX2_clearMarks := ⟨gd_t 569 ⟨rfl, rfl⟩, gd_t 570 ⟨rfl, rfl⟩⟩
set_option maxRecDepth 100000 in
theorem mb_X2_elementAt : MB yX2_elementAt cX2_elementAt 3 (some .int) 2 := ⟨gd_t 4 ⟨rfl, rfl⟩, gd_t 544 ⟨rfl, rfl⟩, by decide +kernel, by decide +kernel, by decide +kernel⟩
set_option maxRecDepth 100000 in
theorem mi_X2_elementAt : MI yX2_elementAt := ⟨gd_t 542 ⟨rfl, rfl⟩, gd_t 543 ⟨rfl, rfl⟩⟩
set_option maxRecDepth 100000 in
theorem mb_X2_has : MB yX2_has cX2_has 2 (some .boolean) 1 := ⟨gd_t 4 ⟨rfl, rfl⟩, gd_t 502 ⟨rfl, rfl⟩, by decide +kernel, by decide +kernel, by decide +kernel⟩
set_option maxRecDepth 100000 in
theorem mi_X2_has : MI yX2_has := ⟨gd_t 500 ⟨rfl, rfl⟩, gd_t 501 ⟨rfl, rfl⟩⟩
set_option maxRecDepth 100000 in
theorem mb_X2_init : MB yX2_init cX2_init 1 none 0 := ⟨gd_t 4 ⟨rfl, rfl⟩, gd_t 106 ⟨rfl, rfl⟩, by decide +kernel, by decide +kernel, by decide +kernel⟩
set_option maxRecDepth 100000 in
theorem mb_X2_isFull : MB yX2_isFull cX2_isFull 1 (some .boolean) 0 := ⟨gd_t 4 ⟨rfl, rfl⟩, gd_t 490 ⟨rfl, rfl⟩, by decide +kernel, by decide +kernel, by decide +kernel⟩
set_option maxRecDepth 100000 in
theorem mi_X2_isFull : MI yX2_isFull := ⟨gd_t 488 ⟨rfl, rfl⟩, gd_t 489 ⟨rfl, rfl⟩⟩
set_option maxRecDepth 100000 in
theorem mb_X2_isFullOfParts : MB yX2_isFullOfParts cX2_isFullOfParts 2 (some .boolean) 1 := ⟨gd_t 4 ⟨rfl, rfl⟩, gd_t 515 ⟨rfl, rfl⟩, by decide +kernel, by decide +kernel, by decide +kernel⟩
set_option maxRecDepth 100000 in
theorem mi_X2_isFullOfParts : MI yX2_isFullOfParts := ⟨gd_t 513 ⟨rfl, rfl⟩, gd_t 514 ⟨rfl, rfl⟩⟩
set_option maxRecDepth 100000 in
theorem mb_X2_isMarked : MB yX2_isMarked cX2_isMarked 3 (some .boolean) 2 := ⟨gd_t 4 ⟨rfl, rfl⟩, gd_t 540 ⟨rfl, rfl⟩, by decide +kernel, by decide +kernel, by decide +kernel⟩
set_option maxRecDepth 100000 in
theorem mi_X2_isMarked : MI yX2_isMarked := ⟨gd_t 538 ⟨rfl, rfl⟩, gd_t 539 ⟨rfl, rfl⟩⟩
set_option maxRecDepth 100000 in
theorem mb_X2_many : MB yX2_many cX2_many 1 (some .int) 0 := ⟨gd_t 4 ⟨rfl, rfl⟩, gd_t 579 ⟨rfl, rfl⟩, by decide +kernel, by decide +kernel, by decide +kernel⟩
set_option maxRecDepth 100000 in
theorem mi_X2_many : MI yX2_many := ⟨gd_t 577 ⟨rfl, rfl⟩, gd_t 578 ⟨rfl, rfl⟩⟩
set_option maxRecDepth 100000 in
theorem mb_X2_mark : MB yX2_mark cX2_mark 3 none 2 := ⟨gd_t 4 ⟨rfl, rfl⟩, gd_t 583 ⟨rfl, rfl⟩, by decide +kernel, by decide +kernel, by decide +kernel⟩
set_option maxRecDepth 100000 in
theorem mi_X2_mark : MI yX2_mark := ⟨gd_t 581 ⟨rfl, rfl⟩, gd_t 582 ⟨rfl, rfl⟩⟩
set_option maxRecDepth 100000 in
theorem mb_X2_oftenAt : MB yX2_oftenAt cX2_oftenAt 3 (some .int) 2 := ⟨gd_t 4 ⟨rfl, rfl⟩, gd_t 567 ⟨rfl, rfl⟩, by decide +kernel, by decide +kernel, by decide +kernel⟩
set_option maxRecDepth 100000 in
theorem mi_X2_oftenAt : MI yX2_oftenAt := ⟨gd_t 565 ⟨rfl, rfl⟩, gd_t 566 ⟨rfl, rfl⟩⟩
set_option maxRecDepth 100000 in
theorem mb_X2_partMany : MB yX2_partMany cX2_partMany 2 (some .int) 1 := ⟨gd_t 4 ⟨rfl, rfl⟩, gd_t 527 ⟨rfl, rfl⟩, by decide +kernel, by decide +kernel, by decide +kernel⟩
set_option maxRecDepth 100000 in
theorem mi_X2_partMany : MI yX2_partMany := ⟨gd_t 525 ⟨rfl, rfl⟩, gd_t 526 ⟨rfl, rfl⟩⟩
set_option maxRecDepth 100000 in
theorem mb_X2_placeOf : MB yX2_placeOf cX2_placeOf 4 (some .int) 2 := ⟨gd_t 4 ⟨rfl, rfl⟩, gd_t 507 ⟨rfl, rfl⟩, by decide +kernel, by decide +kernel, by decide +kernel⟩
set_option maxRecDepth 100000 in
theorem mi_X2_placeOf : MI yX2_placeOf := ⟨gd_t 505 ⟨rfl, rfl⟩, gd_t 506 ⟨rfl, rfl⟩⟩
set_option maxRecDepth 100000 in
theorem mb_X3_allOf : MB yX3_allOf cX3_allOf 5 (some .int) 2 := ⟨gd_t 10 ⟨rfl, rfl⟩, gd_t 835 ⟨rfl, rfl⟩, by decide +kernel, by decide +kernel, by decide +kernel⟩
set_option maxRecDepth 100000 in
theorem mi_X3_allOf : MI yX3_allOf := ⟨gd_t 833 ⟨rfl, rfl⟩, gd_t 834 ⟨rfl, rfl⟩⟩
set_option maxRecDepth 100000 in
theorem mb_X3_forWaiting : MB yX3_forWaiting cX3_forWaiting 3 (some .int) 2 := ⟨gd_t 10 ⟨rfl, rfl⟩, gd_t 822 ⟨rfl, rfl⟩, by decide +kernel, by decide +kernel, by decide +kernel⟩
set_option maxRecDepth 100000 in
theorem mi_X3_forWaiting : MI yX3_forWaiting := ⟨gd_t 821 ⟨rfl, rfl⟩, gd_p 14 ⟨rfl, rfl⟩⟩
set_option maxRecDepth 100000 in
theorem mb_X3_init : MB yX3_init cX3_init 4 none 3 := ⟨gd_t 10 ⟨rfl, rfl⟩, gd_t 244 ⟨rfl, rfl⟩, by decide +kernel, by decide +kernel, by decide +kernel⟩
set_option maxRecDepth 100000 in
theorem mb_X3_shareOf : MB yX3_shareOf cX3_shareOf 13 (some .int) 3 := ⟨gd_t 10 ⟨rfl, rfl⟩, gd_t 855 ⟨rfl, rfl⟩, by decide +kernel, by decide +kernel, by decide +kernel⟩
set_option maxRecDepth 100000 in
theorem mi_X3_shareOf : MI yX3_shareOf := ⟨gd_t 853 ⟨rfl, rfl⟩, gd_t 854 ⟨rfl, rfl⟩⟩
set_option maxRecDepth 100000 in
theorem mb_X3_tellOf : MB yX3_tellOf cX3_tellOf 4 (some .int) 3 := ⟨gd_t 10 ⟨rfl, rfl⟩, gd_t 813 ⟨rfl, rfl⟩, by decide +kernel, by decide +kernel, by decide +kernel⟩
set_option maxRecDepth 100000 in
theorem mi_X3_tellOf : MI yX3_tellOf := ⟨gd_t 811 ⟨rfl, rfl⟩, gd_t 812 ⟨rfl, rfl⟩⟩
set_option maxRecDepth 100000 in
theorem mb_X4_beginOf : MB yX4_beginOf cX4_beginOf 2 (some .int) 1 := ⟨gd_t 5 ⟨rfl, rfl⟩, gd_t 599 ⟨rfl, rfl⟩, by decide +kernel, by decide +kernel, by decide +kernel⟩
set_option maxRecDepth 100000 in
theorem mi_X4_beginOf : MI yX4_beginOf := ⟨gd_t 597 ⟨rfl, rfl⟩, gd_t 598 ⟨rfl, rfl⟩⟩
set_option maxRecDepth 100000 in
theorem mb_X4_canMake : MB yX4_canMake cX4_canMake 3 (some .boolean) 1 := ⟨gd_t 5 ⟨rfl, rfl⟩, gd_t 535 ⟨rfl, rfl⟩, by decide +kernel, by decide +kernel, by decide +kernel⟩
set_option maxRecDepth 100000 in
theorem mi_X4_canMake : MI yX4_canMake := ⟨gd_t 533 ⟨rfl, rfl⟩, gd_t 534 ⟨rfl, rfl⟩⟩
set_option maxRecDepth 100000 in
theorem mb_X4_inForce : MB yX4_inForce cX4_inForce 4 (some .int) 2 := ⟨gd_t 5 ⟨rfl, rfl⟩, gd_t 611 ⟨rfl, rfl⟩, by decide +kernel, by decide +kernel, by decide +kernel⟩
set_option maxRecDepth 100000 in
theorem mi_X4_inForce : MI yX4_inForce := ⟨gd_t 609 ⟨rfl, rfl⟩, gd_t 610 ⟨rfl, rfl⟩⟩
set_option maxRecDepth 100000 in
theorem mb_X4_init : MB yX4_init cX4_init 3 none 2 := ⟨gd_t 5 ⟨rfl, rfl⟩, gd_t 129 ⟨rfl, rfl⟩, by decide +kernel, by decide +kernel, by decide +kernel⟩
set_option maxRecDepth 100000 in
theorem mb_X4_isFull : MB yX4_isFull cX4_isFull 1 (some .boolean) 0 := ⟨gd_t 5 ⟨rfl, rfl⟩, gd_t 552 ⟨rfl, rfl⟩, by decide +kernel, by decide +kernel, by decide +kernel⟩
set_option maxRecDepth 100000 in
theorem mi_X4_isFull : MI yX4_isFull := ⟨gd_t 550 ⟨rfl, rfl⟩, gd_t 551 ⟨rfl, rfl⟩⟩
set_option maxRecDepth 100000 in
theorem mb_X4_latestOf : MB yX4_latestOf cX4_latestOf 3 (some .int) 1 := ⟨gd_t 5 ⟨rfl, rfl⟩, gd_t 511 ⟨rfl, rfl⟩, by decide +kernel, by decide +kernel, by decide +kernel⟩
set_option maxRecDepth 100000 in
theorem mi_X4_latestOf : MI yX4_latestOf := ⟨gd_t 509 ⟨rfl, rfl⟩, gd_t 510 ⟨rfl, rfl⟩⟩
set_option maxRecDepth 100000 in
theorem mb_X4_make : MB yX4_make cX4_make 7 (some .int) 2 := ⟨gd_t 5 ⟨rfl, rfl⟩, gd_t 556 ⟨rfl, rfl⟩, by decide +kernel, by decide +kernel, by decide +kernel⟩
set_option maxRecDepth 100000 in
theorem mi_X4_make : MI yX4_make := ⟨gd_t 554 ⟨rfl, rfl⟩, gd_t 555 ⟨rfl, rfl⟩⟩
set_option maxRecDepth 100000 in
theorem mb_X4_many : MB yX4_many cX4_many 1 (some .int) 0 := ⟨gd_t 5 ⟨rfl, rfl⟩, gd_t 995 ⟨rfl, rfl⟩, by decide +kernel, by decide +kernel, by decide +kernel⟩
set_option maxRecDepth 100000 in
theorem mi_X4_many : MI yX4_many := ⟨gd_t 993 ⟨rfl, rfl⟩, gd_t 994 ⟨rfl, rfl⟩⟩
set_option maxRecDepth 100000 in
theorem mb_X4_mayMove : MB yX4_mayMove cX4_mayMove 7 (some .boolean) 2 := ⟨gd_t 5 ⟨rfl, rfl⟩, gd_t 595 ⟨rfl, rfl⟩, by decide +kernel, by decide +kernel, by decide +kernel⟩
set_option maxRecDepth 100000 in
theorem mi_X4_mayMove : MI yX4_mayMove := ⟨gd_t 593 ⟨rfl, rfl⟩, gd_t 594 ⟨rfl, rfl⟩⟩
set_option maxRecDepth 100000 in
theorem mb_X4_sumOf : MB yX4_sumOf cX4_sumOf 2 (some .int) 1 := ⟨gd_t 5 ⟨rfl, rfl⟩, gd_t 615 ⟨rfl, rfl⟩, by decide +kernel, by decide +kernel, by decide +kernel⟩
set_option maxRecDepth 100000 in
theorem mi_X4_sumOf : MI yX4_sumOf := ⟨gd_t 613 ⟨rfl, rfl⟩, gd_t 614 ⟨rfl, rfl⟩⟩
set_option maxRecDepth 100000 in
theorem mb_X4_worthOf : MB yX4_worthOf cX4_worthOf 3 (some .int) 2 := ⟨gd_t 5 ⟨rfl, rfl⟩, gd_t 563 ⟨rfl, rfl⟩, by decide +kernel, by decide +kernel, by decide +kernel⟩
set_option maxRecDepth 100000 in
theorem mi_X4_worthOf : MI yX4_worthOf := ⟨gd_t 561 ⟨rfl, rfl⟩, gd_t 562 ⟨rfl, rfl⟩⟩
set_option maxRecDepth 100000 in
theorem mb_X5_addByte : MB yX5_addByte cX5_addByte 2 (some .int) 1 := ⟨gd_t 6 ⟨rfl, rfl⟩, gd_t 636 ⟨rfl, rfl⟩, by decide +kernel, by decide +kernel, by decide +kernel⟩
set_option maxRecDepth 100000 in
theorem mi_X5_addByte : MI yX5_addByte := ⟨gd_t 634 ⟨rfl, rfl⟩, gd_t 635 ⟨rfl, rfl⟩⟩
set_option maxRecDepth 100000 in
theorem mb_X5_alikeWith : MB yX5_alikeWith cX5_alikeWith 3 (some .int) 1 := ⟨gd_t 6 ⟨rfl, rfl⟩, gd_t 669 ⟨rfl, rfl⟩, by decide +kernel, by decide +kernel, by decide +kernel⟩
set_option maxRecDepth 100000 in
theorem mi_X5_alikeWith : MI yX5_alikeWith := ⟨gd_t 668 ⟨rfl, rfl⟩, gd_p 8 ⟨rfl, rfl⟩⟩
set_option maxRecDepth 100000 in
theorem mb_X5_byteMany : MB yX5_byteMany cX5_byteMany 1 (some .int) 0 := ⟨gd_t 6 ⟨rfl, rfl⟩, gd_t 1003 ⟨rfl, rfl⟩, by decide +kernel, by decide +kernel, by decide +kernel⟩
set_option maxRecDepth 100000 in
theorem mi_X5_byteMany : MI yX5_byteMany := ⟨gd_t 1001 ⟨rfl, rfl⟩, gd_t 1002 ⟨rfl, rfl⟩⟩
set_option maxRecDepth 100000 in
theorem mb_X5_init : MB yX5_init cX5_init 1 none 0 := ⟨gd_t 6 ⟨rfl, rfl⟩, gd_t 157 ⟨rfl, rfl⟩, by decide +kernel, by decide +kernel, by decide +kernel⟩
set_option maxRecDepth 100000 in
theorem mb_X5_isFullOfBytes : MB yX5_isFullOfBytes cX5_isFullOfBytes 1 (some .boolean) 0 := ⟨gd_t 6 ⟨rfl, rfl⟩, gd_t 632 ⟨rfl, rfl⟩, by decide +kernel, by decide +kernel, by decide +kernel⟩
set_option maxRecDepth 100000 in
theorem mi_X5_isFullOfBytes : MI yX5_isFullOfBytes := ⟨gd_t 630 ⟨rfl, rfl⟩, gd_t 631 ⟨rfl, rfl⟩⟩
set_option maxRecDepth 100000 in
theorem mb_X5_readClause : MB yX5_readClause cX5_readClause 3 (some .boolean) 0 := ⟨gd_t 6 ⟨rfl, rfl⟩, gd_t 653 ⟨rfl, rfl⟩, by decide +kernel, by decide +kernel, by decide +kernel⟩
set_option maxRecDepth 100000 in
theorem mi_X5_readClause : MI yX5_readClause := ⟨gd_t 652 ⟨rfl, rfl⟩, gd_p 6 ⟨rfl, rfl⟩⟩
set_option maxRecDepth 100000 in
theorem mb_X5_readClauses : MB yX5_readClauses cX5_readClauses 2 (some .boolean) 0 := ⟨gd_t 6 ⟨rfl, rfl⟩, gd_t 648 ⟨rfl, rfl⟩, by decide +kernel, by decide +kernel, by decide +kernel⟩
set_option maxRecDepth 100000 in
theorem mi_X5_readClauses : MI yX5_readClauses := ⟨gd_t 647 ⟨rfl, rfl⟩, gd_p 5 ⟨rfl, rfl⟩⟩
set_option maxRecDepth 100000 in
theorem mb_X5_readNumber : MB yX5_readNumber cX5_readNumber 3 (some .int) 0 := ⟨gd_t 6 ⟨rfl, rfl⟩, gd_t 726 ⟨rfl, rfl⟩, by decide +kernel, by decide +kernel, by decide +kernel⟩
set_option maxRecDepth 100000 in
theorem mi_X5_readNumber : MI yX5_readNumber := ⟨gd_t 725 ⟨rfl, rfl⟩, gd_p 10 ⟨rfl, rfl⟩⟩
set_option maxRecDepth 100000 in
theorem mb_X5_readSign : MB yX5_readSign cX5_readSign 2 (some .boolean) 1 := ⟨gd_t 6 ⟨rfl, rfl⟩, gd_t 722 ⟨rfl, rfl⟩, by decide +kernel, by decide +kernel, by decide +kernel⟩
set_option maxRecDepth 100000 in
theorem mi_X5_readSign : MI yX5_readSign := ⟨gd_t 721 ⟨rfl, rfl⟩, gd_p 9 ⟨rfl, rfl⟩⟩
set_option maxRecDepth 100000 in
theorem mb_X5_readWord : MB yX5_readWord cX5_readWord 5 (some .int) 0 := ⟨gd_t 6 ⟨rfl, rfl⟩, gd_t 657 ⟨rfl, rfl⟩, by decide +kernel, by decide +kernel, by decide +kernel⟩
set_option maxRecDepth 100000 in
theorem mi_X5_readWord : MI yX5_readWord := ⟨gd_t 656 ⟨rfl, rfl⟩, gd_p 7 ⟨rfl, rfl⟩⟩
set_option maxRecDepth 100000 in
theorem mb_X5_takeNewValues : MB yX5_takeNewValues cX5_takeNewValues 3 (some .int) 0 := ⟨gd_t 6 ⟨rfl, rfl⟩, gd_t 733 ⟨rfl, rfl⟩, by decide +kernel, by decide +kernel, by decide +kernel⟩
set_option maxRecDepth 100000 in
theorem mi_X5_takeNewValues : MI yX5_takeNewValues := ⟨gd_t 732 ⟨rfl, rfl⟩, gd_p 11 ⟨rfl, rfl⟩⟩
set_option maxRecDepth 100000 in
theorem mb_X5_takeTape : MB yX5_takeTape cX5_takeTape 2 (some .int) 0 := ⟨gd_t 6 ⟨rfl, rfl⟩, gd_t 644 ⟨rfl, rfl⟩, by decide +kernel, by decide +kernel, by decide +kernel⟩
set_option maxRecDepth 100000 in
theorem mi_X5_takeTape : MI yX5_takeTape := ⟨gd_t 642 ⟨rfl, rfl⟩, gd_t 643 ⟨rfl, rfl⟩⟩
set_option maxRecDepth 100000 in
theorem mb_X5_valueOf : MB yX5_valueOf cX5_valueOf 2 (some .int) 1 := ⟨gd_t 6 ⟨rfl, rfl⟩, gd_t 591 ⟨rfl, rfl⟩, by decide +kernel, by decide +kernel, by decide +kernel⟩
set_option maxRecDepth 100000 in
theorem mi_X5_valueOf : MI yX5_valueOf := ⟨gd_t 589 ⟨rfl, rfl⟩, gd_t 590 ⟨rfl, rfl⟩⟩
set_option maxRecDepth 100000 in
theorem mb_X5_wordOf : MB yX5_wordOf cX5_wordOf 1 (some (.object "java/lang/String")) 1 := ⟨gd_t 6 ⟨rfl, rfl⟩, gd_t 660 ⟨rfl, rfl⟩, by decide +kernel, by decide +kernel, by decide +kernel⟩
set_option maxRecDepth 100000 in
theorem ms_X5_wordOf : Cond.static yX5_wordOf ∈ gd := gd_t 659 ⟨rfl, rfl⟩
set_option maxRecDepth 100000 in
theorem mb_X6_addRow : MB yX6_addRow cX6_addRow 6 none 3 := ⟨gd_t 12 ⟨rfl, rfl⟩, gd_t 966 ⟨rfl, rfl⟩, by decide +kernel, by decide +kernel, by decide +kernel⟩
set_option maxRecDepth 100000 in
theorem mi_X6_addRow : MI yX6_addRow := ⟨gd_t 965 ⟨rfl, rfl⟩, gd_p 21 ⟨rfl, rfl⟩⟩
set_option maxRecDepth 100000 in
theorem mb_X6_canTell : MB yX6_canTell cX6_canTell 1 (some .boolean) 0 := ⟨gd_t 12 ⟨rfl, rfl⟩, gd_t 948 ⟨rfl, rfl⟩, by decide +kernel, by decide +kernel, by decide +kernel⟩
set_option maxRecDepth 100000 in
theorem mi_X6_canTell : MI yX6_canTell := ⟨gd_t 946 ⟨rfl, rfl⟩, gd_t 947 ⟨rfl, rfl⟩⟩
set_option maxRecDepth 100000 in
theorem mb_X6_countWays : MB yX6_countWays cX6_countWays 4 none 0 := ⟨gd_t 12 ⟨rfl, rfl⟩, gd_t 956 ⟨rfl, rfl⟩, by decide +kernel, by decide +kernel, by decide +kernel⟩
set_option maxRecDepth 100000 in
theorem mi_X6_countWays : MI yX6_countWays := ⟨gd_t 955 ⟨rfl, rfl⟩, gd_p 19 ⟨rfl, rfl⟩⟩
set_option maxRecDepth 100000 in
theorem mb_X6_gather : MB yX6_gather cX6_gather 5 none 2 := ⟨gd_t 12 ⟨rfl, rfl⟩, gd_t 932 ⟨rfl, rfl⟩, by decide +kernel, by decide +kernel, by decide +kernel⟩
set_option maxRecDepth 100000 in
theorem mi_X6_gather : MI yX6_gather := ⟨gd_t 930 ⟨rfl, rfl⟩, gd_t 931 ⟨rfl, rfl⟩⟩
set_option maxRecDepth 100000 in
theorem mb_X6_init : MB yX6_init cX6_init 2 none 1 := ⟨gd_t 12 ⟨rfl, rfl⟩, gd_t 280 ⟨rfl, rfl⟩, by decide +kernel, by decide +kernel, by decide +kernel⟩
set_option maxRecDepth 100000 in
theorem mb_X6_isBeyondDoubt : MB yX6_isBeyondDoubt cX6_isBeyondDoubt 5 (some .boolean) 0 := ⟨gd_t 12 ⟨rfl, rfl⟩, gd_t 952 ⟨rfl, rfl⟩, by decide +kernel, by decide +kernel, by decide +kernel⟩
set_option maxRecDepth 100000 in
theorem mi_X6_isBeyondDoubt : MI yX6_isBeyondDoubt := ⟨gd_t 950 ⟨rfl, rfl⟩, gd_t 951 ⟨rfl, rfl⟩⟩
set_option maxRecDepth 100000 in
theorem mb_X6_rankOf : MB yX6_rankOf cX6_rankOf 4 (some .int) 1 := ⟨gd_t 12 ⟨rfl, rfl⟩, gd_t 961 ⟨rfl, rfl⟩, by decide +kernel, by decide +kernel, by decide +kernel⟩
set_option maxRecDepth 100000 in
theorem mi_X6_rankOf : MI yX6_rankOf := ⟨gd_t 960 ⟨rfl, rfl⟩, gd_p 20 ⟨rfl, rfl⟩⟩
set_option maxRecDepth 100000 in
theorem mb_X6_watchedRanks : MB yX6_watchedRanks cX6_watchedRanks 3 (some .int) 0 := ⟨gd_t 12 ⟨rfl, rfl⟩, gd_t 970 ⟨rfl, rfl⟩, by decide +kernel, by decide +kernel, by decide +kernel⟩
set_option maxRecDepth 100000 in
theorem mi_X6_watchedRanks : MI yX6_watchedRanks := ⟨gd_t 969 ⟨rfl, rfl⟩, gd_p 22 ⟨rfl, rfl⟩⟩
set_option maxRecDepth 100000 in
theorem mb_X7_add : MB yX7_add cX7_add 5 (some .int) 4 := ⟨gd_t 9 ⟨rfl, rfl⟩, gd_t 774 ⟨rfl, rfl⟩, by decide +kernel, by decide +kernel, by decide +kernel⟩
set_option maxRecDepth 100000 in
theorem mi_X7_add : MI yX7_add := ⟨gd_t 772 ⟨rfl, rfl⟩, gd_t 773 ⟨rfl, rfl⟩⟩
set_option maxRecDepth 100000 in
theorem mb_X7_init : MB yX7_init cX7_init 1 none 0 := ⟨gd_t 9 ⟨rfl, rfl⟩, gd_t 222 ⟨rfl, rfl⟩, by decide +kernel, by decide +kernel, by decide +kernel⟩
set_option maxRecDepth 100000 in
theorem mb_X7_isFull : MB yX7_isFull cX7_isFull 1 (some .boolean) 0 := ⟨gd_t 9 ⟨rfl, rfl⟩, gd_t 770 ⟨rfl, rfl⟩, by decide +kernel, by decide +kernel, by decide +kernel⟩
set_option maxRecDepth 100000 in
theorem mi_X7_isFull : MI yX7_isFull := ⟨gd_t 768 ⟨rfl, rfl⟩, gd_t 769 ⟨rfl, rfl⟩⟩
set_option maxRecDepth 100000 in
theorem mb_X7_many : MB yX7_many cX7_many 1 (some .int) 0 := ⟨gd_t 9 ⟨rfl, rfl⟩, gd_t 999 ⟨rfl, rfl⟩, by decide +kernel, by decide +kernel, by decide +kernel⟩
set_option maxRecDepth 100000 in
theorem mi_X7_many : MI yX7_many := ⟨gd_t 997 ⟨rfl, rfl⟩, gd_t 998 ⟨rfl, rfl⟩⟩
set_option maxRecDepth 100000 in
theorem mb_X7_minutesFor : MB yX7_minutesFor cX7_minutesFor 2 (some .int) 1 := ⟨gd_t 9 ⟨rfl, rfl⟩, gd_t 844 ⟨rfl, rfl⟩, by decide +kernel, by decide +kernel, by decide +kernel⟩
set_option maxRecDepth 100000 in
theorem mi_X7_minutesFor : MI yX7_minutesFor := ⟨gd_t 842 ⟨rfl, rfl⟩, gd_t 843 ⟨rfl, rfl⟩⟩
set_option maxRecDepth 100000 in
theorem mb_X7_minutesIn : MB yX7_minutesIn cX7_minutesIn 5 (some .int) 2 := ⟨gd_t 9 ⟨rfl, rfl⟩, gd_t 826 ⟨rfl, rfl⟩, by decide +kernel, by decide +kernel, by decide +kernel⟩
set_option maxRecDepth 100000 in
theorem mi_X7_minutesIn : MI yX7_minutesIn := ⟨gd_t 824 ⟨rfl, rfl⟩, gd_t 825 ⟨rfl, rfl⟩⟩
set_option maxRecDepth 100000 in
theorem mb_X8_addCycle : MB yX8_addCycle cX8_addCycle 5 (some .int) 4 := ⟨gd_t 3 ⟨rfl, rfl⟩, gd_t 433 ⟨rfl, rfl⟩, by decide +kernel, by decide +kernel, by decide +kernel⟩
set_option maxRecDepth 100000 in
theorem mi_X8_addCycle : MI yX8_addCycle := ⟨gd_t 431 ⟨rfl, rfl⟩, gd_t 432 ⟨rfl, rfl⟩⟩
set_option maxRecDepth 100000 in
theorem mb_X8_addFilm : MB yX8_addFilm cX8_addFilm 3 (some .int) 2 := ⟨gd_t 3 ⟨rfl, rfl⟩, gd_t 413 ⟨rfl, rfl⟩, by decide +kernel, by decide +kernel, by decide +kernel⟩
set_option maxRecDepth 100000 in
theorem mi_X8_addFilm : MI yX8_addFilm := ⟨gd_t 411 ⟨rfl, rfl⟩, gd_t 412 ⟨rfl, rfl⟩⟩
set_option maxRecDepth 100000 in
theorem mb_X8_cycleMany : MB yX8_cycleMany cX8_cycleMany 1 (some .int) 0 := ⟨gd_t 3 ⟨rfl, rfl⟩, gd_t 441 ⟨rfl, rfl⟩, by decide +kernel, by decide +kernel, by decide +kernel⟩
set_option maxRecDepth 100000 in
theorem mi_X8_cycleMany : MI yX8_cycleMany := ⟨gd_t 439 ⟨rfl, rfl⟩, gd_t 440 ⟨rfl, rfl⟩⟩
set_option maxRecDepth 100000 in
theorem mb_X8_filmMany : MB yX8_filmMany cX8_filmMany 1 (some .int) 0 := ⟨gd_t 3 ⟨rfl, rfl⟩, gd_t 991 ⟨rfl, rfl⟩, by decide +kernel, by decide +kernel, by decide +kernel⟩
set_option maxRecDepth 100000 in
theorem mi_X8_filmMany : MI yX8_filmMany := ⟨gd_t 989 ⟨rfl, rfl⟩, gd_t 990 ⟨rfl, rfl⟩⟩
set_option maxRecDepth 100000 in
theorem mb_X8_gatherNormals : MB yX8_gatherNormals cX8_gatherNormals 3 none 1 := ⟨gd_t 3 ⟨rfl, rfl⟩, gd_t 465 ⟨rfl, rfl⟩, by decide +kernel, by decide +kernel, by decide +kernel⟩
set_option maxRecDepth 100000 in
theorem mi_X8_gatherNormals : MI yX8_gatherNormals := ⟨gd_t 464 ⟨rfl, rfl⟩, gd_p 1 ⟨rfl, rfl⟩⟩
set_option maxRecDepth 100000 in
theorem mb_X8_habitOf : MB yX8_habitOf cX8_habitOf 2 (some .int) 1 := ⟨gd_t 3 ⟨rfl, rfl⟩, gd_t 421 ⟨rfl, rfl⟩, by decide +kernel, by decide +kernel, by decide +kernel⟩
set_option maxRecDepth 100000 in
theorem mi_X8_habitOf : MI yX8_habitOf := ⟨gd_t 419 ⟨rfl, rfl⟩, gd_t 420 ⟨rfl, rfl⟩⟩
set_option maxRecDepth 100000 in
theorem mb_X8_init : MB yX8_init cX8_init 2 none 1 := ⟨gd_t 3 ⟨rfl, rfl⟩, gd_t 51 ⟨rfl, rfl⟩, by decide +kernel, by decide +kernel, by decide +kernel⟩
set_option maxRecDepth 100000 in
theorem mb_X8_isFullOfCycles : MB yX8_isFullOfCycles cX8_isFullOfCycles 1 (some .boolean) 0 := ⟨gd_t 3 ⟨rfl, rfl⟩, gd_t 429 ⟨rfl, rfl⟩, by decide +kernel, by decide +kernel, by decide +kernel⟩
set_option maxRecDepth 100000 in
theorem mi_X8_isFullOfCycles : MI yX8_isFullOfCycles := ⟨gd_t 427 ⟨rfl, rfl⟩, gd_t 428 ⟨rfl, rfl⟩⟩
set_option maxRecDepth 100000 in
theorem mb_X8_isFullOfFilms : MB yX8_isFullOfFilms cX8_isFullOfFilms 1 (some .boolean) 0 := ⟨gd_t 3 ⟨rfl, rfl⟩, gd_t 409 ⟨rfl, rfl⟩, by decide +kernel, by decide +kernel, by decide +kernel⟩
set_option maxRecDepth 100000 in
theorem mi_X8_isFullOfFilms : MI yX8_isFullOfFilms := ⟨gd_t 407 ⟨rfl, rfl⟩, gd_t 408 ⟨rfl, rfl⟩⟩
set_option maxRecDepth 100000 in
theorem mb_X8_isTimed : MB yX8_isTimed cX8_isTimed 3 (some .boolean) 1 := ⟨gd_t 3 ⟨rfl, rfl⟩, gd_t 548 ⟨rfl, rfl⟩, by decide +kernel, by decide +kernel, by decide +kernel⟩
set_option maxRecDepth 100000 in
theorem mi_X8_isTimed : MI yX8_isTimed := ⟨gd_t 546 ⟨rfl, rfl⟩, gd_t 547 ⟨rfl, rfl⟩⟩
set_option maxRecDepth 100000 in
theorem mb_X8_keepNormals : MB yX8_keepNormals cX8_keepNormals 4 none 0 := ⟨gd_t 3 ⟨rfl, rfl⟩, gd_t 474 ⟨rfl, rfl⟩, by decide +kernel, by decide +kernel, by decide +kernel⟩
set_option maxRecDepth 100000 in
theorem mi_X8_keepNormals : MI yX8_keepNormals := ⟨gd_t 473 ⟨rfl, rfl⟩, gd_p 3 ⟨rfl, rfl⟩⟩
set_option maxRecDepth 100000 in
theorem mb_X8_normalOf : MB yX8_normalOf cX8_normalOf 3 (some .int) 1 := ⟨gd_t 3 ⟨rfl, rfl⟩, gd_t 445 ⟨rfl, rfl⟩, by decide +kernel, by decide +kernel, by decide +kernel⟩
set_option maxRecDepth 100000 in
theorem mi_X8_normalOf : MI yX8_normalOf := ⟨gd_t 443 ⟨rfl, rfl⟩, gd_t 444 ⟨rfl, rfl⟩⟩
set_option maxRecDepth 100000 in
theorem mb_X8_putInOrder : MB yX8_putInOrder cX8_putInOrder 3 none 1 := ⟨gd_t 3 ⟨rfl, rfl⟩, gd_t 470 ⟨rfl, rfl⟩, by decide +kernel, by decide +kernel, by decide +kernel⟩
set_option maxRecDepth 100000 in
theorem mi_X8_putInOrder : MI yX8_putInOrder := ⟨gd_t 469 ⟨rfl, rfl⟩, gd_p 2 ⟨rfl, rfl⟩⟩
set_option maxRecDepth 100000 in
theorem mb_X8_studied : MB yX8_studied cX8_studied 2 (some .int) 1 := ⟨gd_t 3 ⟨rfl, rfl⟩, gd_t 482 ⟨rfl, rfl⟩, by decide +kernel, by decide +kernel, by decide +kernel⟩
set_option maxRecDepth 100000 in
theorem mi_X8_studied : MI yX8_studied := ⟨gd_t 480 ⟨rfl, rfl⟩, gd_t 481 ⟨rfl, rfl⟩⟩
set_option maxRecDepth 100000 in
theorem mb_X8_study : MB yX8_study cX8_study 3 none 1 := ⟨gd_t 3 ⟨rfl, rfl⟩, gd_t 461 ⟨rfl, rfl⟩, by decide +kernel, by decide +kernel, by decide +kernel⟩
set_option maxRecDepth 100000 in
theorem mi_X8_study : MI yX8_study := ⟨gd_t 459 ⟨rfl, rfl⟩, gd_t 460 ⟨rfl, rfl⟩⟩
set_option maxRecDepth 100000 in
theorem mb_X9_add : MB yX9_add cX9_add 5 (some .int) 4 := ⟨gd_t 7 ⟨rfl, rfl⟩, gd_t 758 ⟨rfl, rfl⟩, by decide +kernel, by decide +kernel, by decide +kernel⟩
set_option maxRecDepth 100000 in
theorem mi_X9_add : MI yX9_add := ⟨gd_t 756 ⟨rfl, rfl⟩, gd_t 757 ⟨rfl, rfl⟩⟩
set_option maxRecDepth 100000 in
theorem mb_X9_earnedBy : MB yX9_earnedBy cX9_earnedBy 6 (some .int) 1 := ⟨gd_t 7 ⟨rfl, rfl⟩, gd_t 794 ⟨rfl, rfl⟩, by decide +kernel, by decide +kernel, by decide +kernel⟩
set_option maxRecDepth 100000 in
theorem mi_X9_earnedBy : MI yX9_earnedBy := ⟨gd_t 792 ⟨rfl, rfl⟩, gd_t 793 ⟨rfl, rfl⟩⟩
set_option maxRecDepth 100000 in
theorem mb_X9_earnedIn : MB yX9_earnedIn cX9_earnedIn 5 (some .int) 2 := ⟨gd_t 7 ⟨rfl, rfl⟩, gd_t 817 ⟨rfl, rfl⟩, by decide +kernel, by decide +kernel, by decide +kernel⟩
set_option maxRecDepth 100000 in
theorem mi_X9_earnedIn : MI yX9_earnedIn := ⟨gd_t 815 ⟨rfl, rfl⟩, gd_t 816 ⟨rfl, rfl⟩⟩
set_option maxRecDepth 100000 in
theorem mb_X9_goodAt : MB yX9_goodAt cX9_goodAt 2 (some .int) 1 := ⟨gd_t 7 ⟨rfl, rfl⟩, gd_t 939 ⟨rfl, rfl⟩, by decide +kernel, by decide +kernel, by decide +kernel⟩
set_option maxRecDepth 100000 in
theorem mi_X9_goodAt : MI yX9_goodAt := ⟨gd_t 937 ⟨rfl, rfl⟩, gd_t 938 ⟨rfl, rfl⟩⟩
set_option maxRecDepth 100000 in
theorem mb_X9_init : MB yX9_init cX9_init 3 none 2 := ⟨gd_t 7 ⟨rfl, rfl⟩, gd_t 179 ⟨rfl, rfl⟩, by decide +kernel, by decide +kernel, by decide +kernel⟩
set_option maxRecDepth 100000 in
theorem mb_X9_isFull : MB yX9_isFull cX9_isFull 1 (some .boolean) 0 := ⟨gd_t 7 ⟨rfl, rfl⟩, gd_t 754 ⟨rfl, rfl⟩, by decide +kernel, by decide +kernel, by decide +kernel⟩
set_option maxRecDepth 100000 in
theorem mi_X9_isFull : MI yX9_isFull := ⟨gd_t 752 ⟨rfl, rfl⟩, gd_t 753 ⟨rfl, rfl⟩⟩
set_option maxRecDepth 100000 in
theorem mb_X9_isWatched : MB yX9_isWatched cX9_isWatched 2 (some .boolean) 1 := ⟨gd_t 7 ⟨rfl, rfl⟩, gd_t 944 ⟨rfl, rfl⟩, by decide +kernel, by decide +kernel, by decide +kernel⟩
set_option maxRecDepth 100000 in
theorem mi_X9_isWatched : MI yX9_isWatched := ⟨gd_t 942 ⟨rfl, rfl⟩, gd_t 943 ⟨rfl, rfl⟩⟩
set_option maxRecDepth 100000 in
theorem mb_X9_jobAt : MB yX9_jobAt cX9_jobAt 2 (some .int) 1 := ⟨gd_t 7 ⟨rfl, rfl⟩, gd_t 881 ⟨rfl, rfl⟩, by decide +kernel, by decide +kernel, by decide +kernel⟩
set_option maxRecDepth 100000 in
theorem mi_X9_jobAt : MI yX9_jobAt := ⟨gd_t 879 ⟨rfl, rfl⟩, gd_t 880 ⟨rfl, rfl⟩⟩
set_option maxRecDepth 100000 in
theorem mb_X9_learnersMore : MB yX9_learnersMore cX9_learnersMore 5 (some .int) 2 := ⟨gd_t 7 ⟨rfl, rfl⟩, gd_t 804 ⟨rfl, rfl⟩, by decide +kernel, by decide +kernel, by decide +kernel⟩
set_option maxRecDepth 100000 in
theorem mi_X9_learnersMore : MI yX9_learnersMore := ⟨gd_t 803 ⟨rfl, rfl⟩, gd_p 13 ⟨rfl, rfl⟩⟩
set_option maxRecDepth 100000 in
theorem mb_X9_many : MB yX9_many cX9_many 1 (some .int) 0 := ⟨gd_t 7 ⟨rfl, rfl⟩, gd_t 790 ⟨rfl, rfl⟩, by decide +kernel, by decide +kernel, by decide +kernel⟩
set_option maxRecDepth 100000 in
theorem mi_X9_many : MI yX9_many := ⟨gd_t 788 ⟨rfl, rfl⟩, gd_t 789 ⟨rfl, rfl⟩⟩
set_option maxRecDepth 100000 in
theorem mb_X9_minutesAt : MB yX9_minutesAt cX9_minutesAt 2 (some .int) 1 := ⟨gd_t 7 ⟨rfl, rfl⟩, gd_t 886 ⟨rfl, rfl⟩, by decide +kernel, by decide +kernel, by decide +kernel⟩
set_option maxRecDepth 100000 in
theorem mi_X9_minutesAt : MI yX9_minutesAt := ⟨gd_t 884 ⟨rfl, rfl⟩, gd_t 885 ⟨rfl, rfl⟩⟩
set_option maxRecDepth 100000 in
theorem mb_X9_minutesIn : MB yX9_minutesIn cX9_minutesIn 5 (some .int) 2 := ⟨gd_t 7 ⟨rfl, rfl⟩, gd_t 831 ⟨rfl, rfl⟩, by decide +kernel, by decide +kernel, by decide +kernel⟩
set_option maxRecDepth 100000 in
theorem mi_X9_minutesIn : MI yX9_minutesIn := ⟨gd_t 829 ⟨rfl, rfl⟩, gd_t 830 ⟨rfl, rfl⟩⟩
set_option maxRecDepth 100000 in
theorem mb_X9_swapBegin : MB yX9_swapBegin cX9_swapBegin 5 (some .int) 3 := ⟨gd_t 7 ⟨rfl, rfl⟩, gd_t 782 ⟨rfl, rfl⟩, by decide +kernel, by decide +kernel, by decide +kernel⟩
set_option maxRecDepth 100000 in
theorem mi_X9_swapBegin : MI yX9_swapBegin := ⟨gd_t 780 ⟨rfl, rfl⟩, gd_t 781 ⟨rfl, rfl⟩⟩
set_option maxRecDepth 100000 in
theorem mb_X9_workerAt : MB yX9_workerAt cX9_workerAt 2 (some .int) 1 := ⟨gd_t 7 ⟨rfl, rfl⟩, gd_t 877 ⟨rfl, rfl⟩, by decide +kernel, by decide +kernel, by decide +kernel⟩
set_option maxRecDepth 100000 in
theorem mi_X9_workerAt : MI yX9_workerAt := ⟨gd_t 875 ⟨rfl, rfl⟩, gd_t 876 ⟨rfl, rfl⟩⟩
end
section
-- BenchTimesModel.finding
theorem dX11_finding_0 : di cX11_finding 0 (.aload_n 0) 1 1 := ⟨by decide +kernel, rfl⟩
theorem dX11_finding_1 : di cX11_finding 1 (.getfield 105) 3 4 := ⟨by decide +kernel, rfl⟩
theorem dX11_finding_4 : di cX11_finding 4 (.iload_n 1) 1 5 := ⟨by decide +kernel, rfl⟩
theorem dX11_finding_5 : di cX11_finding 5 (.dup2) 1 6 := ⟨by decide +kernel, rfl⟩
theorem dX11_finding_6 : di cX11_finding 6 (.iaload) 1 7 := ⟨by decide +kernel, rfl⟩
theorem dX11_finding_7 : di cX11_finding 7 (.iconst 1) 1 8 := ⟨by decide +kernel, rfl⟩
theorem dX11_finding_8 : di cX11_finding 8 (.iadd) 1 9 := ⟨by decide +kernel, rfl⟩
theorem dX11_finding_9 : di cX11_finding 9 (.iastore) 1 10 := ⟨by decide +kernel, rfl⟩
theorem dX11_finding_10 : di cX11_finding 10 (.ldc 126) 2 12 := ⟨by decide +kernel, rfl⟩
theorem dX11_finding_12 : di cX11_finding 12 (.iload_n 1) 1 13 := ⟨by decide +kernel, rfl⟩
theorem dX11_finding_13 : di cX11_finding 13 (.isub) 1 14 := ⟨by decide +kernel, rfl⟩
theorem dX11_finding_14 : di cX11_finding 14 (.ireturn) 1 15 := ⟨by decide +kernel, rfl⟩
def f_X11_finding (v1 : Int32) (M : Mem) : Option Ret := gV v1 6 (gV v1 6 (bM (up2 M 95 v1.toNatClampNeg ((M.1 95 v1.toNatClampNeg) + (1 : Int32))) (fun M1 => some ((-1000000000 : Int32) - v1, M1))))
set_option maxRecDepth 100000 in
theorem ok_X11_finding {l : Launch} {g : Cx} {v1 : Int32} {M : Mem} {r : Int32} {Mr : Mem} (h : f_X11_finding v1 M = some (r, Mr)) : CT l g yX11_finding cX11_finding 2 (some .int) 0 0 [.ref (g.1 11), .int v1] M (PI r Mr) := by
  refine CT_of (lv := [some (.ref (g.1 11)), some (.int v1)]) (by decide) rfl (Nat.le_of_ble_eq_true rfl) ?_
  unfold f_X11_finding at h
  refine A_aload_n dX11_finding_0 rfl ?_
  refine A_getf dX11_finding_1 fw_X11_105 ob11 rfl ?_
  refine A_iload_n dX11_finding_4 rfl ?_
  refine A_dup2 dX11_finding_5 rfl rfl ?_
  obtain ⟨hg, h⟩ := gV_go h
  refine A_iald dX11_finding_6 ia95 hg ?_
  refine A_iconst (v := 1) dX11_finding_7 (by decide) ?_
  refine A_iadd dX11_finding_8 ?_
  obtain ⟨hg, h⟩ := gV_go h
  refine A_iast dX11_finding_9 ia95 hg (bM_go h (fun M1 h => ?_))
  refine A_ldc dX11_finding_10 kc_X11_126 ?_
  refine A_iload_n dX11_finding_12 rfl ?_
  refine A_isub dX11_finding_13 ?_
  exact A_iret dX11_finding_14 (pI_go h)
-- BenchTimesModel.isIn
theorem dX11_isIn_0 : di cX11_isIn 0 (.iload_n 0) 1 1 := ⟨by decide +kernel, rfl⟩
theorem dX11_isIn_1 : di cX11_isIn 1 (.iload_n 1) 1 2 := ⟨by decide +kernel, rfl⟩
theorem dX11_isIn_2 : dj cX11_isIn 2 (.if_icmp .lt) 5 14 := ⟨12, by decide +kernel, rfl, rfl⟩
theorem dX11_isIn_5 : di cX11_isIn 5 (.iload_n 0) 1 6 := ⟨by decide +kernel, rfl⟩
theorem dX11_isIn_6 : di cX11_isIn 6 (.iload_n 2) 1 7 := ⟨by decide +kernel, rfl⟩
theorem dX11_isIn_7 : dj cX11_isIn 7 (.if_icmp .gt) 10 14 := ⟨7, by decide +kernel, rfl, rfl⟩
theorem dX11_isIn_10 : di cX11_isIn 10 (.iconst 1) 1 11 := ⟨by decide +kernel, rfl⟩
theorem dX11_isIn_11 : dj cX11_isIn 11 .goto 14 15 := ⟨4, by decide +kernel, rfl, rfl⟩
theorem dX11_isIn_14 : di cX11_isIn 14 (.iconst 0) 1 15 := ⟨by decide +kernel, rfl⟩
theorem dX11_isIn_15 : di cX11_isIn 15 (.ireturn) 1 16 := ⟨by decide +kernel, rfl⟩
def f_X11_isIn (v0 : Int32) (v1 : Int32) (v2 : Int32) (M : Mem) : Option Ret := jn (α := Int32 → Option Ret) (fun (z2 : Int32) => gZ z2 (some (z2, M))) (fun J1 => if v0 < v1 then (J1 (0 : Int32)) else (if v2 < v0 then (J1 (0 : Int32)) else (J1 (1 : Int32))))
set_option maxRecDepth 100000 in
theorem ok_X11_isIn {l : Launch} {g : Cx} {v0 : Int32} {v1 : Int32} {v2 : Int32} {M : Mem} {r : Int32} {Mr : Mem} (h : f_X11_isIn v0 v1 v2 M = some (r, Mr)) : CT l g yX11_isIn cX11_isIn 3 (some .boolean) 0 0 [.int v0, .int v1, .int v2] M (PI r Mr) := by
  refine CT_of (lv := [some (.int v0), some (.int v1), some (.int v2)]) (by decide) rfl (Nat.le_of_ble_eq_true rfl) ?_
  unfold f_X11_isIn at h
  refine A_iload_n dX11_isIn_0 rfl ?_
  refine A_iload_n dX11_isIn_1 rfl ?_
  obtain ⟨J1, hJ1, h⟩ := jn_go h
  have JJ1 : ∀ (z2 : Int32), J1 z2 = some (r, Mr) → AT l g RX11 cX11_isIn 3 (some .boolean) (rmM 0 0) (PI r Mr) 15 [some (.int v0), some (.int v1), some (.int v2)] [.int z2] M := by
    intro z2 h
    rw [hJ1] at h
    obtain ⟨hg, h⟩ := gZ_go h
    exact A_zret dX11_isIn_15 hg (pI_go h)
  refine A_icmp_lt dX11_isIn_2 (fun hc => ?_) (fun hc => ?_)
  · have h := gT_go hc h
    refine A_iconst (v := 0) dX11_isIn_14 (by decide) ?_
    exact A_le (lvLe_s (lvLe_s (lvLe_s lvLe_0))) (JJ1 _ h)
  · have h := gF_go hc h
    refine A_iload_n dX11_isIn_5 rfl ?_
    refine A_iload_n dX11_isIn_6 rfl ?_
    refine A_icmp_gt dX11_isIn_7 (fun hc => ?_) (fun hc => ?_)
    · have h := gT_go hc h
      refine A_iconst (v := 0) dX11_isIn_14 (by decide) ?_
      exact A_le (lvLe_s (lvLe_s (lvLe_s lvLe_0))) (JJ1 _ h)
    · have h := gF_go hc h
      refine A_iconst (v := 1) dX11_isIn_10 (by decide) ?_
      refine A_goto dX11_isIn_11 ?_
      exact A_le (lvLe_s (lvLe_s (lvLe_s lvLe_0))) (JJ1 _ h)
-- BenchTimesModel.isElement
theorem dX11_isElement_0 : di cX11_isElement 0 (.iload_n 1) 1 1 := ⟨by decide +kernel, rfl⟩
theorem dX11_isElement_1 : dj cX11_isElement 1 (.ifCond .lt) 4 16 := ⟨15, by decide +kernel, rfl, rfl⟩
theorem dX11_isElement_4 : di cX11_isElement 4 (.iload_n 1) 1 5 := ⟨by decide +kernel, rfl⟩
theorem dX11_isElement_5 : di cX11_isElement 5 (.aload_n 0) 1 6 := ⟨by decide +kernel, rfl⟩
theorem dX11_isElement_6 : di cX11_isElement 6 (.getfield 127) 3 9 := ⟨by decide +kernel, rfl⟩
theorem dX11_isElement_9 : dj cX11_isElement 9 (.if_icmp .ge) 12 16 := ⟨7, by decide +kernel, rfl, rfl⟩
theorem dX11_isElement_12 : di cX11_isElement 12 (.iconst 1) 1 13 := ⟨by decide +kernel, rfl⟩
theorem dX11_isElement_13 : dj cX11_isElement 13 .goto 16 17 := ⟨4, by decide +kernel, rfl, rfl⟩
theorem dX11_isElement_16 : di cX11_isElement 16 (.iconst 0) 1 17 := ⟨by decide +kernel, rfl⟩
theorem dX11_isElement_17 : di cX11_isElement 17 (.ireturn) 1 18 := ⟨by decide +kernel, rfl⟩
def f_X11_isElement (v1 : Int32) (M : Mem) : Option Ret := jn (α := Int32 → Option Ret) (fun (z2 : Int32) => gZ z2 (some (z2, M))) (fun J1 => if v1 < 0 then (J1 (0 : Int32)) else (if (M.1 11 0) ≤ v1 then (J1 (0 : Int32)) else (J1 (1 : Int32))))
set_option maxRecDepth 100000 in
theorem ok_X11_isElement {l : Launch} {g : Cx} {v1 : Int32} {M : Mem} {r : Int32} {Mr : Mem} (h : f_X11_isElement v1 M = some (r, Mr)) : CT l g yX11_isElement cX11_isElement 2 (some .boolean) 0 0 [.ref (g.1 11), .int v1] M (PI r Mr) := by
  refine CT_of (lv := [some (.ref (g.1 11)), some (.int v1)]) (by decide) rfl (Nat.le_of_ble_eq_true rfl) ?_
  unfold f_X11_isElement at h
  refine A_iload_n dX11_isElement_0 rfl ?_
  obtain ⟨J1, hJ1, h⟩ := jn_go h
  have JJ1 : ∀ (z2 : Int32), J1 z2 = some (r, Mr) → AT l g RX11 cX11_isElement 2 (some .boolean) (rmM 0 0) (PI r Mr) 17 [some (.ref (g.1 11)), some (.int v1)] [.int z2] M := by
    intro z2 h
    rw [hJ1] at h
    obtain ⟨hg, h⟩ := gZ_go h
    exact A_zret dX11_isElement_17 hg (pI_go h)
  refine A_if_lt dX11_isElement_1 (fun hc => ?_) (fun hc => ?_)
  · have h := gT_go hc h
    refine A_iconst (v := 0) dX11_isElement_16 (by decide) ?_
    exact A_le (lvLe_s (lvLe_s lvLe_0)) (JJ1 _ h)
  · have h := gF_go hc h
    refine A_iload_n dX11_isElement_4 rfl ?_
    refine A_aload_n dX11_isElement_5 rfl ?_
    refine A_getf dX11_isElement_6 fw_X11_127 ob11 rfl ?_
    refine A_icmp_ge dX11_isElement_9 (fun hc => ?_) (fun hc => ?_)
    · have h := gT_go hc h
      refine A_iconst (v := 0) dX11_isElement_16 (by decide) ?_
      exact A_le (lvLe_s (lvLe_s lvLe_0)) (JJ1 _ h)
    · have h := gF_go hc h
      refine A_iconst (v := 1) dX11_isElement_12 (by decide) ?_
      refine A_goto dX11_isElement_13 ?_
      exact A_le (lvLe_s (lvLe_s lvLe_0)) (JJ1 _ h)
-- BenchTimesModel.isJob
theorem dX11_isJob_0 : di cX11_isJob 0 (.iload_n 1) 1 1 := ⟨by decide +kernel, rfl⟩
theorem dX11_isJob_1 : dj cX11_isJob 1 (.ifCond .lt) 4 16 := ⟨15, by decide +kernel, rfl, rfl⟩
theorem dX11_isJob_4 : di cX11_isJob 4 (.iload_n 1) 1 5 := ⟨by decide +kernel, rfl⟩
theorem dX11_isJob_5 : di cX11_isJob 5 (.aload_n 0) 1 6 := ⟨by decide +kernel, rfl⟩
theorem dX11_isJob_6 : di cX11_isJob 6 (.getfield 130) 3 9 := ⟨by decide +kernel, rfl⟩
theorem dX11_isJob_9 : dj cX11_isJob 9 (.if_icmp .ge) 12 16 := ⟨7, by decide +kernel, rfl, rfl⟩
theorem dX11_isJob_12 : di cX11_isJob 12 (.iconst 1) 1 13 := ⟨by decide +kernel, rfl⟩
theorem dX11_isJob_13 : dj cX11_isJob 13 .goto 16 17 := ⟨4, by decide +kernel, rfl, rfl⟩
theorem dX11_isJob_16 : di cX11_isJob 16 (.iconst 0) 1 17 := ⟨by decide +kernel, rfl⟩
theorem dX11_isJob_17 : di cX11_isJob 17 (.ireturn) 1 18 := ⟨by decide +kernel, rfl⟩
def f_X11_isJob (v1 : Int32) (M : Mem) : Option Ret := jn (α := Int32 → Option Ret) (fun (z2 : Int32) => gZ z2 (some (z2, M))) (fun J1 => if v1 < 0 then (J1 (0 : Int32)) else (if (M.1 11 12) ≤ v1 then (J1 (0 : Int32)) else (J1 (1 : Int32))))
set_option maxRecDepth 100000 in
theorem ok_X11_isJob {l : Launch} {g : Cx} {v1 : Int32} {M : Mem} {r : Int32} {Mr : Mem} (h : f_X11_isJob v1 M = some (r, Mr)) : CT l g yX11_isJob cX11_isJob 2 (some .boolean) 0 0 [.ref (g.1 11), .int v1] M (PI r Mr) := by
  refine CT_of (lv := [some (.ref (g.1 11)), some (.int v1)]) (by decide) rfl (Nat.le_of_ble_eq_true rfl) ?_
  unfold f_X11_isJob at h
  refine A_iload_n dX11_isJob_0 rfl ?_
  obtain ⟨J1, hJ1, h⟩ := jn_go h
  have JJ1 : ∀ (z2 : Int32), J1 z2 = some (r, Mr) → AT l g RX11 cX11_isJob 2 (some .boolean) (rmM 0 0) (PI r Mr) 17 [some (.ref (g.1 11)), some (.int v1)] [.int z2] M := by
    intro z2 h
    rw [hJ1] at h
    obtain ⟨hg, h⟩ := gZ_go h
    exact A_zret dX11_isJob_17 hg (pI_go h)
  refine A_if_lt dX11_isJob_1 (fun hc => ?_) (fun hc => ?_)
  · have h := gT_go hc h
    refine A_iconst (v := 0) dX11_isJob_16 (by decide) ?_
    exact A_le (lvLe_s (lvLe_s lvLe_0)) (JJ1 _ h)
  · have h := gF_go hc h
    refine A_iload_n dX11_isJob_4 rfl ?_
    refine A_aload_n dX11_isJob_5 rfl ?_
    refine A_getf dX11_isJob_6 fw_X11_130 ob11 rfl ?_
    refine A_icmp_ge dX11_isJob_9 (fun hc => ?_) (fun hc => ?_)
    · have h := gT_go hc h
      refine A_iconst (v := 0) dX11_isJob_16 (by decide) ?_
      exact A_le (lvLe_s (lvLe_s lvLe_0)) (JJ1 _ h)
    · have h := gF_go hc h
      refine A_iconst (v := 1) dX11_isJob_12 (by decide) ?_
      refine A_goto dX11_isJob_13 ?_
      exact A_le (lvLe_s (lvLe_s lvLe_0)) (JJ1 _ h)
-- BenchTimesModel.isWorker
theorem dX11_isWorker_0 : di cX11_isWorker 0 (.iload_n 0) 1 1 := ⟨by decide +kernel, rfl⟩
theorem dX11_isWorker_1 : di cX11_isWorker 1 (.iconst 0) 1 2 := ⟨by decide +kernel, rfl⟩
theorem dX11_isWorker_2 : di cX11_isWorker 2 (.bipush 7) 2 4 := ⟨by decide +kernel, rfl⟩
theorem dX11_isWorker_4 : di cX11_isWorker 4 (.invokestatic 133) 3 7 := ⟨by decide +kernel, rfl⟩
theorem dX11_isWorker_7 : di cX11_isWorker 7 (.ireturn) 1 8 := ⟨by decide +kernel, rfl⟩
def f_X11_isWorker (v0 : Int32) (M : Mem) : Option Ret := bE (f_X11_isIn v0 (0 : Int32) (7 : Int32) M) (fun r2 M1 => gZ r2 (some (r2, M1)))
set_option maxRecDepth 100000 in
theorem ok_X11_isWorker {l : Launch} {g : Cx} {v0 : Int32} {M : Mem} {r : Int32} {Mr : Mem} (h : f_X11_isWorker v0 M = some (r, Mr)) : CT l g yX11_isWorker cX11_isWorker 1 (some .boolean) 1 22 [.int v0] M (PI r Mr) := by
  refine CT_of (lv := [some (.int v0)]) (by decide) rfl (Nat.le_of_ble_eq_true rfl) ?_
  unfold f_X11_isWorker at h
  refine A_iload_n dX11_isWorker_0 rfl ?_
  refine A_iconst (v := 0) dX11_isWorker_1 (by decide) ?_
  refine A_bipush (v := 7) dX11_isWorker_2 (by decide) ?_
  obtain ⟨r2, M1, h1, h⟩ := bE_go h
  refine A_cSi3 dX11_isWorker_4 ml_X11_133 mb_X11_isIn ms_X11_isIn ⟨Nat.le_of_ble_eq_true rfl, Nat.le_of_ble_eq_true rfl⟩ (Nat.le_of_ble_eq_true rfl) (ok_X11_isIn h1) ?_
  obtain ⟨hg, h⟩ := gZ_go h
  exact A_zret dX11_isWorker_7 hg (pI_go h)
-- BenchTimesModel.isWeek
theorem dX11_isWeek_0 : di cX11_isWeek 0 (.iload_n 0) 1 1 := ⟨by decide +kernel, rfl⟩
theorem dX11_isWeek_1 : di cX11_isWeek 1 (.iconst 0) 1 2 := ⟨by decide +kernel, rfl⟩
theorem dX11_isWeek_2 : di cX11_isWeek 2 (.sipush 500) 3 5 := ⟨by decide +kernel, rfl⟩
theorem dX11_isWeek_5 : di cX11_isWeek 5 (.invokestatic 133) 3 8 := ⟨by decide +kernel, rfl⟩
theorem dX11_isWeek_8 : di cX11_isWeek 8 (.ireturn) 1 9 := ⟨by decide +kernel, rfl⟩
def f_X11_isWeek (v0 : Int32) (M : Mem) : Option Ret := bE (f_X11_isIn v0 (0 : Int32) (500 : Int32) M) (fun r2 M1 => gZ r2 (some (r2, M1)))
set_option maxRecDepth 100000 in
theorem ok_X11_isWeek {l : Launch} {g : Cx} {v0 : Int32} {M : Mem} {r : Int32} {Mr : Mem} (h : f_X11_isWeek v0 M = some (r, Mr)) : CT l g yX11_isWeek cX11_isWeek 1 (some .boolean) 1 22 [.int v0] M (PI r Mr) := by
  refine CT_of (lv := [some (.int v0)]) (by decide) rfl (Nat.le_of_ble_eq_true rfl) ?_
  unfold f_X11_isWeek at h
  refine A_iload_n dX11_isWeek_0 rfl ?_
  refine A_iconst (v := 0) dX11_isWeek_1 (by decide) ?_
  refine A_sipush (v := 500) dX11_isWeek_2 (by decide) ?_
  obtain ⟨r2, M1, h1, h⟩ := bE_go h
  refine A_cSi3 dX11_isWeek_5 ml_X11_133 mb_X11_isIn ms_X11_isIn ⟨Nat.le_of_ble_eq_true rfl, Nat.le_of_ble_eq_true rfl⟩ (Nat.le_of_ble_eq_true rfl) (ok_X11_isIn h1) ?_
  obtain ⟨hg, h⟩ := gZ_go h
  exact A_zret dX11_isWeek_8 hg (pI_go h)
-- BenchTimesModel.isPace
theorem dX11_isPace_0 : di cX11_isPace 0 (.iload_n 0) 1 1 := ⟨by decide +kernel, rfl⟩
theorem dX11_isPace_1 : di cX11_isPace 1 (.bipush 50) 2 3 := ⟨by decide +kernel, rfl⟩
theorem dX11_isPace_3 : di cX11_isPace 3 (.sipush 150) 3 6 := ⟨by decide +kernel, rfl⟩
theorem dX11_isPace_6 : di cX11_isPace 6 (.invokestatic 133) 3 9 := ⟨by decide +kernel, rfl⟩
theorem dX11_isPace_9 : di cX11_isPace 9 (.ireturn) 1 10 := ⟨by decide +kernel, rfl⟩
def f_X11_isPace (v0 : Int32) (M : Mem) : Option Ret := bE (f_X11_isIn v0 (50 : Int32) (150 : Int32) M) (fun r2 M1 => gZ r2 (some (r2, M1)))
set_option maxRecDepth 100000 in
theorem ok_X11_isPace {l : Launch} {g : Cx} {v0 : Int32} {M : Mem} {r : Int32} {Mr : Mem} (h : f_X11_isPace v0 M = some (r, Mr)) : CT l g yX11_isPace cX11_isPace 1 (some .boolean) 1 22 [.int v0] M (PI r Mr) := by
  refine CT_of (lv := [some (.int v0)]) (by decide) rfl (Nat.le_of_ble_eq_true rfl) ?_
  unfold f_X11_isPace at h
  refine A_iload_n dX11_isPace_0 rfl ?_
  refine A_bipush (v := 50) dX11_isPace_1 (by decide) ?_
  refine A_sipush (v := 150) dX11_isPace_3 (by decide) ?_
  obtain ⟨r2, M1, h1, h⟩ := bE_go h
  refine A_cSi3 dX11_isPace_6 ml_X11_133 mb_X11_isIn ms_X11_isIn ⟨Nat.le_of_ble_eq_true rfl, Nat.le_of_ble_eq_true rfl⟩ (Nat.le_of_ble_eq_true rfl) (ok_X11_isIn h1) ?_
  obtain ⟨hg, h⟩ := gZ_go h
  exact A_zret dX11_isPace_9 hg (pI_go h)
-- BenchTimesModel.element
theorem dX11_element_0 : di cX11_element 0 (.iload_n 1) 1 1 := ⟨by decide +kernel, rfl⟩
theorem dX11_element_1 : di cX11_element 1 (.iconst 0) 1 2 := ⟨by decide +kernel, rfl⟩
theorem dX11_element_2 : di cX11_element 2 (.iconst 3) 1 3 := ⟨by decide +kernel, rfl⟩
theorem dX11_element_3 : di cX11_element 3 (.invokestatic 133) 3 6 := ⟨by decide +kernel, rfl⟩
theorem dX11_element_6 : dj cX11_element 6 (.ifCond .ne) 9 15 := ⟨9, by decide +kernel, rfl, rfl⟩
theorem dX11_element_9 : di cX11_element 9 (.aload_n 0) 1 10 := ⟨by decide +kernel, rfl⟩
theorem dX11_element_10 : di cX11_element 10 (.iconst 1) 1 11 := ⟨by decide +kernel, rfl⟩
theorem dX11_element_11 : di cX11_element 11 (.invokevirtual 137) 3 14 := ⟨by decide +kernel, rfl⟩
theorem dX11_element_14 : di cX11_element 14 (.ireturn) 1 15 := ⟨by decide +kernel, rfl⟩
theorem dX11_element_15 : di cX11_element 15 (.aload_n 0) 1 16 := ⟨by decide +kernel, rfl⟩
theorem dX11_element_16 : di cX11_element 16 (.getfield 127) 3 19 := ⟨by decide +kernel, rfl⟩
theorem dX11_element_19 : di cX11_element 19 (.bipush 12) 2 21 := ⟨by decide +kernel, rfl⟩
theorem dX11_element_21 : dj cX11_element 21 (.if_icmp .ne) 24 30 := ⟨9, by decide +kernel, rfl, rfl⟩
theorem dX11_element_24 : di cX11_element 24 (.aload_n 0) 1 25 := ⟨by decide +kernel, rfl⟩
theorem dX11_element_25 : di cX11_element 25 (.iconst 4) 1 26 := ⟨by decide +kernel, rfl⟩
theorem dX11_element_26 : di cX11_element 26 (.invokevirtual 137) 3 29 := ⟨by decide +kernel, rfl⟩
theorem dX11_element_29 : di cX11_element 29 (.ireturn) 1 30 := ⟨by decide +kernel, rfl⟩
theorem dX11_element_30 : di cX11_element 30 (.aload_n 0) 1 31 := ⟨by decide +kernel, rfl⟩
theorem dX11_element_31 : di cX11_element 31 (.getfield 7) 3 34 := ⟨by decide +kernel, rfl⟩
theorem dX11_element_34 : di cX11_element 34 (.aload_n 0) 1 35 := ⟨by decide +kernel, rfl⟩
theorem dX11_element_35 : di cX11_element 35 (.getfield 127) 3 38 := ⟨by decide +kernel, rfl⟩
theorem dX11_element_38 : di cX11_element 38 (.iload_n 1) 1 39 := ⟨by decide +kernel, rfl⟩
theorem dX11_element_39 : di cX11_element 39 (.iastore) 1 40 := ⟨by decide +kernel, rfl⟩
theorem dX11_element_40 : di cX11_element 40 (.aload_n 0) 1 41 := ⟨by decide +kernel, rfl⟩
theorem dX11_element_41 : di cX11_element 41 (.dup) 1 42 := ⟨by decide +kernel, rfl⟩
theorem dX11_element_42 : di cX11_element 42 (.getfield 127) 3 45 := ⟨by decide +kernel, rfl⟩
theorem dX11_element_45 : di cX11_element 45 (.iconst 1) 1 46 := ⟨by decide +kernel, rfl⟩
theorem dX11_element_46 : di cX11_element 46 (.iadd) 1 47 := ⟨by decide +kernel, rfl⟩
theorem dX11_element_47 : di cX11_element 47 (.putfield 127) 3 50 := ⟨by decide +kernel, rfl⟩
theorem dX11_element_50 : di cX11_element 50 (.aload_n 0) 1 51 := ⟨by decide +kernel, rfl⟩
theorem dX11_element_51 : di cX11_element 51 (.getfield 127) 3 54 := ⟨by decide +kernel, rfl⟩
theorem dX11_element_54 : di cX11_element 54 (.iconst 1) 1 55 := ⟨by decide +kernel, rfl⟩
theorem dX11_element_55 : di cX11_element 55 (.isub) 1 56 := ⟨by decide +kernel, rfl⟩
theorem dX11_element_56 : di cX11_element 56 (.ireturn) 1 57 := ⟨by decide +kernel, rfl⟩
def f_X11_element (v1 : Int32) (M : Mem) : Option Ret := bE (f_X11_isIn v1 (0 : Int32) (3 : Int32) M) (fun r2 M1 => if r2 = 0 then (bE (f_X11_finding (1 : Int32) M1) (fun r8 M7 => some (r8, M7))) else (if (M1.1 11 0) = (12 : Int32) then (bE (f_X11_finding (4 : Int32) M1) (fun r6 M5 => some (r6, M5))) else (gV (M1.1 11 0) 12 (bM (up2 M1 66 (M1.1 11 0).toNatClampNeg v1) (fun M3 => bM (up2 M3 11 0 ((M3.1 11 0) + (1 : Int32))) (fun M4 => some ((M4.1 11 0) - (1 : Int32), M4)))))))
set_option maxRecDepth 100000 in
theorem ok_X11_element {l : Launch} {g : Cx} {v1 : Int32} {M : Mem} {r : Int32} {Mr : Mem} (h : f_X11_element v1 M = some (r, Mr)) : CT l g yX11_element cX11_element 2 (some .int) 1 22 [.ref (g.1 11), .int v1] M (PI r Mr) := by
  refine CT_of (lv := [some (.ref (g.1 11)), some (.int v1)]) (by decide) rfl (Nat.le_of_ble_eq_true rfl) ?_
  unfold f_X11_element at h
  refine A_iload_n dX11_element_0 rfl ?_
  refine A_iconst (v := 0) dX11_element_1 (by decide) ?_
  refine A_iconst (v := 3) dX11_element_2 (by decide) ?_
  obtain ⟨r2, M1, h1, h⟩ := bE_go h
  refine A_cSi3 dX11_element_3 ml_X11_133 mb_X11_isIn ms_X11_isIn ⟨Nat.le_of_ble_eq_true rfl, Nat.le_of_ble_eq_true rfl⟩ (Nat.le_of_ble_eq_true rfl) (ok_X11_isIn h1) ?_
  refine A_if_ne dX11_element_6 (fun hc => ?_) (fun hc => ?_)
  · have h := gF_go hc h
    refine A_aload_n dX11_element_15 rfl ?_
    refine A_getf dX11_element_16 fw_X11_127 ob11 rfl ?_
    refine A_bipush (v := 12) dX11_element_19 (by decide) ?_
    refine A_icmp_ne dX11_element_21 (fun hc => ?_) (fun hc => ?_)
    · have h := gF_go hc h
      refine A_aload_n dX11_element_30 rfl ?_
      refine A_getf dX11_element_31 fw_X11_7 ob11 rfl ?_
      refine A_aload_n dX11_element_34 rfl ?_
      refine A_getf dX11_element_35 fw_X11_127 ob11 rfl ?_
      refine A_iload_n dX11_element_38 rfl ?_
      obtain ⟨hg, h⟩ := gV_go h
      refine A_iast dX11_element_39 ia66 hg (bM_go h (fun M3 h => ?_))
      refine A_aload_n dX11_element_40 rfl ?_
      refine A_dup dX11_element_41 rfl ?_
      refine A_getf dX11_element_42 fw_X11_127 ob11 rfl ?_
      refine A_iconst (v := 1) dX11_element_45 (by decide) ?_
      refine A_iadd dX11_element_46 ?_
      refine A_putf dX11_element_47 pw_X11_127 ob11 pf11_0 (Nat.le_of_ble_eq_true rfl) (bM_go h (fun M4 h => ?_))
      refine A_aload_n dX11_element_50 rfl ?_
      refine A_getf dX11_element_51 fw_X11_127 ob11 rfl ?_
      refine A_iconst (v := 1) dX11_element_54 (by decide) ?_
      refine A_isub dX11_element_55 ?_
      exact A_iret dX11_element_56 (pI_go h)
    · have h := gT_go hc h
      refine A_aload_n dX11_element_24 rfl ?_
      refine A_iconst (v := 4) dX11_element_25 (by decide) ?_
      obtain ⟨r6, M5, h1, h⟩ := bE_go h
      refine A_cVi1 dX11_element_26 ml_X11_137 mb_X11_finding mi_X11_finding ob11 rfl rfl ⟨Nat.le_of_ble_eq_true rfl, Nat.le_of_ble_eq_true rfl⟩ (Nat.le_of_ble_eq_true rfl) (ok_X11_finding h1) ?_
      exact A_iret dX11_element_29 (pI_go h)
  · have h := gT_go hc h
    refine A_aload_n dX11_element_9 rfl ?_
    refine A_iconst (v := 1) dX11_element_10 (by decide) ?_
    obtain ⟨r8, M7, h1, h⟩ := bE_go h
    refine A_cVi1 dX11_element_11 ml_X11_137 mb_X11_finding mi_X11_finding ob11 rfl rfl ⟨Nat.le_of_ble_eq_true rfl, Nat.le_of_ble_eq_true rfl⟩ (Nat.le_of_ble_eq_true rfl) (ok_X11_finding h1) ?_
    exact A_iret dX11_element_14 (pI_go h)
-- BenchTimesModel.allowanceOf
theorem dX11_allowanceOf_0 : di cX11_allowanceOf 0 (.aload_n 0) 1 1 := ⟨by decide +kernel, rfl⟩
theorem dX11_allowanceOf_1 : di cX11_allowanceOf 1 (.getfield 7) 3 4 := ⟨by decide +kernel, rfl⟩
theorem dX11_allowanceOf_4 : di cX11_allowanceOf 4 (.iload_n 1) 1 5 := ⟨by decide +kernel, rfl⟩
theorem dX11_allowanceOf_5 : di cX11_allowanceOf 5 (.iaload) 1 6 := ⟨by decide +kernel, rfl⟩
theorem dX11_allowanceOf_6 : dts cX11_allowanceOf 6 (1) (3) 61 [32, 42, 54] := ⟨55, #[26, 36, 48], 26, by decide +kernel, rfl, by decide +kernel⟩
theorem dX11_allowanceOf_32 : di cX11_allowanceOf 32 (.aload_n 0) 1 33 := ⟨by decide +kernel, rfl⟩
theorem dX11_allowanceOf_33 : di cX11_allowanceOf 33 (.getfield 13) 3 36 := ⟨by decide +kernel, rfl⟩
theorem dX11_allowanceOf_36 : di cX11_allowanceOf 36 (.aload_n 0) 1 37 := ⟨by decide +kernel, rfl⟩
theorem dX11_allowanceOf_37 : di cX11_allowanceOf 37 (.getfield 17) 3 40 := ⟨by decide +kernel, rfl⟩
theorem dX11_allowanceOf_40 : di cX11_allowanceOf 40 (.iadd) 1 41 := ⟨by decide +kernel, rfl⟩
theorem dX11_allowanceOf_41 : di cX11_allowanceOf 41 (.ireturn) 1 42 := ⟨by decide +kernel, rfl⟩
theorem dX11_allowanceOf_42 : di cX11_allowanceOf 42 (.aload_n 0) 1 43 := ⟨by decide +kernel, rfl⟩
theorem dX11_allowanceOf_43 : di cX11_allowanceOf 43 (.getfield 13) 3 46 := ⟨by decide +kernel, rfl⟩
theorem dX11_allowanceOf_46 : di cX11_allowanceOf 46 (.iconst 3) 1 47 := ⟨by decide +kernel, rfl⟩
theorem dX11_allowanceOf_47 : di cX11_allowanceOf 47 (.aload_n 0) 1 48 := ⟨by decide +kernel, rfl⟩
theorem dX11_allowanceOf_48 : di cX11_allowanceOf 48 (.getfield 17) 3 51 := ⟨by decide +kernel, rfl⟩
theorem dX11_allowanceOf_51 : di cX11_allowanceOf 51 (.imul) 1 52 := ⟨by decide +kernel, rfl⟩
theorem dX11_allowanceOf_52 : di cX11_allowanceOf 52 (.iadd) 1 53 := ⟨by decide +kernel, rfl⟩
theorem dX11_allowanceOf_53 : di cX11_allowanceOf 53 (.ireturn) 1 54 := ⟨by decide +kernel, rfl⟩
theorem dX11_allowanceOf_54 : di cX11_allowanceOf 54 (.aload_n 0) 1 55 := ⟨by decide +kernel, rfl⟩
theorem dX11_allowanceOf_55 : di cX11_allowanceOf 55 (.getfield 13) 3 58 := ⟨by decide +kernel, rfl⟩
theorem dX11_allowanceOf_58 : di cX11_allowanceOf 58 (.iconst 2) 1 59 := ⟨by decide +kernel, rfl⟩
theorem dX11_allowanceOf_59 : di cX11_allowanceOf 59 (.idiv) 1 60 := ⟨by decide +kernel, rfl⟩
theorem dX11_allowanceOf_60 : di cX11_allowanceOf 60 (.ireturn) 1 61 := ⟨by decide +kernel, rfl⟩
theorem dX11_allowanceOf_61 : di cX11_allowanceOf 61 (.aload_n 0) 1 62 := ⟨by decide +kernel, rfl⟩
theorem dX11_allowanceOf_62 : di cX11_allowanceOf 62 (.getfield 13) 3 65 := ⟨by decide +kernel, rfl⟩
theorem dX11_allowanceOf_65 : di cX11_allowanceOf 65 (.ireturn) 1 66 := ⟨by decide +kernel, rfl⟩
def f_X11_allowanceOf (v1 : Int32) (M : Mem) : Option Ret := gV v1 12 (if (M.1 66 v1.toNatClampNeg) = (1 : Int32) then (some ((M.1 11 2) + (M.1 11 3), M)) else (if (M.1 66 v1.toNatClampNeg) = (2 : Int32) then (some ((M.1 11 2) + ((3 : Int32) * (M.1 11 3)), M)) else (if (M.1 66 v1.toNatClampNeg) = (3 : Int32) then (some ((M.1 11 2) / (2 : Int32), M)) else (some (M.1 11 2, M)))))
set_option maxRecDepth 100000 in
theorem ok_X11_allowanceOf {l : Launch} {g : Cx} {v1 : Int32} {M : Mem} {r : Int32} {Mr : Mem} (h : f_X11_allowanceOf v1 M = some (r, Mr)) : CT l g yX11_allowanceOf cX11_allowanceOf 2 (some .int) 0 0 [.ref (g.1 11), .int v1] M (PI r Mr) := by
  refine CT_of (lv := [some (.ref (g.1 11)), some (.int v1)]) (by decide) rfl (Nat.le_of_ble_eq_true rfl) ?_
  unfold f_X11_allowanceOf at h
  refine A_aload_n dX11_allowanceOf_0 rfl ?_
  refine A_getf dX11_allowanceOf_1 fw_X11_7 ob11 rfl ?_
  refine A_iload_n dX11_allowanceOf_4 rfl ?_
  obtain ⟨hg, h⟩ := gV_go h
  refine A_iald dX11_allowanceOf_5 ia66 hg ?_
  by_cases hc0 : (M.1 66 v1.toNatClampNeg) = (1 : Int32)
  · have h := gT_go hc0 h
    refine A_tsIn (k0 := 0) dX11_allowanceOf_6 (by rw [hc0]; decide) rfl ?_
    refine A_aload_n dX11_allowanceOf_32 rfl ?_
    refine A_getf dX11_allowanceOf_33 fw_X11_13 ob11 rfl ?_
    refine A_aload_n dX11_allowanceOf_36 rfl ?_
    refine A_getf dX11_allowanceOf_37 fw_X11_17 ob11 rfl ?_
    refine A_iadd dX11_allowanceOf_40 ?_
    exact A_iret dX11_allowanceOf_41 (pI_go h)
  have h := gF_go hc0 h
  by_cases hc1 : (M.1 66 v1.toNatClampNeg) = (2 : Int32)
  · have h := gT_go hc1 h
    refine A_tsIn (k0 := 1) dX11_allowanceOf_6 (by rw [hc1]; decide) rfl ?_
    refine A_aload_n dX11_allowanceOf_42 rfl ?_
    refine A_getf dX11_allowanceOf_43 fw_X11_13 ob11 rfl ?_
    refine A_iconst (v := 3) dX11_allowanceOf_46 (by decide) ?_
    refine A_aload_n dX11_allowanceOf_47 rfl ?_
    refine A_getf dX11_allowanceOf_48 fw_X11_17 ob11 rfl ?_
    refine A_imul dX11_allowanceOf_51 ?_
    refine A_iadd dX11_allowanceOf_52 ?_
    exact A_iret dX11_allowanceOf_53 (pI_go h)
  have h := gF_go hc1 h
  by_cases hc2 : (M.1 66 v1.toNatClampNeg) = (3 : Int32)
  · have h := gT_go hc2 h
    refine A_tsIn (k0 := 2) dX11_allowanceOf_6 (by rw [hc2]; decide) rfl ?_
    refine A_aload_n dX11_allowanceOf_54 rfl ?_
    refine A_getf dX11_allowanceOf_55 fw_X11_13 ob11 rfl ?_
    refine A_iconst (v := 2) dX11_allowanceOf_58 (by decide) ?_
    refine A_idiv dX11_allowanceOf_59 (by decide) ?_
    exact A_iret dX11_allowanceOf_60 (pI_go h)
  have h := gF_go hc2 h
  refine A_tsOut dX11_allowanceOf_6 (tsw_out (fun k h1 h2 => ?_)) ?_
  · rcases (show k = 1 ∨ k = 2 ∨ k = 3 by omega) with rfl | rfl | rfl
    · exact hc0
    · exact hc1
    · exact hc2
  · refine A_aload_n dX11_allowanceOf_61 rfl ?_
    refine A_getf dX11_allowanceOf_62 fw_X11_13 ob11 rfl ?_
    exact A_iret dX11_allowanceOf_65 (pI_go h)
-- BenchTimesModel.as
theorem dX11_as_0 : di cX11_as 0 (.aload_n 0) 1 1 := ⟨by decide +kernel, rfl⟩
theorem dX11_as_1 : di cX11_as 1 (.iload_n 1) 1 2 := ⟨by decide +kernel, rfl⟩
theorem dX11_as_2 : di cX11_as 2 (.invokevirtual 141) 3 5 := ⟨by decide +kernel, rfl⟩
theorem dX11_as_5 : dj cX11_as 5 (.ifCond .eq) 8 17 := ⟨12, by decide +kernel, rfl, rfl⟩
theorem dX11_as_8 : di cX11_as 8 (.iload_n 2) 1 9 := ⟨by decide +kernel, rfl⟩
theorem dX11_as_9 : di cX11_as 9 (.iconst 0) 1 10 := ⟨by decide +kernel, rfl⟩
theorem dX11_as_10 : di cX11_as 10 (.iconst 3) 1 11 := ⟨by decide +kernel, rfl⟩
theorem dX11_as_11 : di cX11_as 11 (.invokestatic 133) 3 14 := ⟨by decide +kernel, rfl⟩
theorem dX11_as_14 : dj cX11_as 14 (.ifCond .ne) 17 23 := ⟨9, by decide +kernel, rfl, rfl⟩
theorem dX11_as_17 : di cX11_as 17 (.aload_n 0) 1 18 := ⟨by decide +kernel, rfl⟩
theorem dX11_as_18 : di cX11_as 18 (.iconst 1) 1 19 := ⟨by decide +kernel, rfl⟩
theorem dX11_as_19 : di cX11_as 19 (.invokevirtual 137) 3 22 := ⟨by decide +kernel, rfl⟩
theorem dX11_as_22 : di cX11_as 22 (.ireturn) 1 23 := ⟨by decide +kernel, rfl⟩
theorem dX11_as_23 : di cX11_as 23 (.iload_n 2) 1 24 := ⟨by decide +kernel, rfl⟩
theorem dX11_as_24 : dj cX11_as 24 (.ifCond .eq) 27 52 := ⟨28, by decide +kernel, rfl, rfl⟩
theorem dX11_as_27 : di cX11_as 27 (.aload_n 0) 1 28 := ⟨by decide +kernel, rfl⟩
theorem dX11_as_28 : di cX11_as 28 (.getfield 7) 3 31 := ⟨by decide +kernel, rfl⟩
theorem dX11_as_31 : di cX11_as 31 (.iload_n 1) 1 32 := ⟨by decide +kernel, rfl⟩
theorem dX11_as_32 : di cX11_as 32 (.iaload) 1 33 := ⟨by decide +kernel, rfl⟩
theorem dX11_as_33 : di cX11_as 33 (.iload_n 2) 1 34 := ⟨by decide +kernel, rfl⟩
theorem dX11_as_34 : dj cX11_as 34 (.if_icmp .eq) 37 52 := ⟨18, by decide +kernel, rfl, rfl⟩
theorem dX11_as_37 : di cX11_as 37 (.iload_n 2) 1 38 := ⟨by decide +kernel, rfl⟩
theorem dX11_as_38 : di cX11_as 38 (.iconst 1) 1 39 := ⟨by decide +kernel, rfl⟩
theorem dX11_as_39 : dj cX11_as 39 (.if_icmp .ne) 42 60 := ⟨21, by decide +kernel, rfl, rfl⟩
theorem dX11_as_42 : di cX11_as 42 (.aload_n 0) 1 43 := ⟨by decide +kernel, rfl⟩
theorem dX11_as_43 : di cX11_as 43 (.getfield 7) 3 46 := ⟨by decide +kernel, rfl⟩
theorem dX11_as_46 : di cX11_as 46 (.iload_n 1) 1 47 := ⟨by decide +kernel, rfl⟩
theorem dX11_as_47 : di cX11_as 47 (.iaload) 1 48 := ⟨by decide +kernel, rfl⟩
theorem dX11_as_48 : di cX11_as 48 (.iconst 2) 1 49 := ⟨by decide +kernel, rfl⟩
theorem dX11_as_49 : dj cX11_as 49 (.if_icmp .ne) 52 60 := ⟨11, by decide +kernel, rfl, rfl⟩
theorem dX11_as_52 : di cX11_as 52 (.aload_n 0) 1 53 := ⟨by decide +kernel, rfl⟩
theorem dX11_as_53 : di cX11_as 53 (.iload_n 1) 1 54 := ⟨by decide +kernel, rfl⟩
theorem dX11_as_54 : di cX11_as 54 (.invokevirtual 145) 3 57 := ⟨by decide +kernel, rfl⟩
theorem dX11_as_57 : dj cX11_as 57 .goto 60 65 := ⟨8, by decide +kernel, rfl, rfl⟩
theorem dX11_as_60 : di cX11_as 60 (.aload_n 0) 1 61 := ⟨by decide +kernel, rfl⟩
theorem dX11_as_61 : di cX11_as 61 (.iconst 5) 1 62 := ⟨by decide +kernel, rfl⟩
theorem dX11_as_62 : di cX11_as 62 (.invokevirtual 137) 3 65 := ⟨by decide +kernel, rfl⟩
theorem dX11_as_65 : di cX11_as 65 (.ireturn) 1 66 := ⟨by decide +kernel, rfl⟩
def f_X11_as (v1 : Int32) (v2 : Int32) (M : Mem) : Option Ret := bE (f_X11_isElement v1 M) (fun r2 M1 => if r2 = 0 then (bE (f_X11_finding (1 : Int32) M1) (fun r4 M3 => some (r4, M3))) else (bE (f_X11_isIn v2 (0 : Int32) (3 : Int32) M1) (fun r6 M5 => if r6 = 0 then (bE (f_X11_finding (1 : Int32) M5) (fun r21 M20 => some (r21, M20))) else (jn (α := Int32 → Mem → Option Ret) (fun (z8 : Int32) (M9 : Mem) => some (z8, M9)) (fun J7 => if v2 = 0 then (bE (f_X11_allowanceOf v1 M5) (fun r11 M10 => J7 r11 M10)) else (gV v1 12 (if (M5.1 66 v1.toNatClampNeg) = v2 then (bE (f_X11_allowanceOf v1 M5) (fun r13 M12 => J7 r13 M12)) else (if v2 = (1 : Int32) then (gV v1 12 (if (M5.1 66 v1.toNatClampNeg) = (2 : Int32) then (bE (f_X11_allowanceOf v1 M5) (fun r19 M18 => J7 r19 M18)) else (bE (f_X11_finding (5 : Int32) M5) (fun r17 M16 => J7 r17 M16)))) else (bE (f_X11_finding (5 : Int32) M5) (fun r15 M14 => J7 r15 M14))))))))))
set_option maxRecDepth 100000 in
theorem ok_X11_as {l : Launch} {g : Cx} {v1 : Int32} {v2 : Int32} {M : Mem} {r : Int32} {Mr : Mem} (h : f_X11_as v1 v2 M = some (r, Mr)) : CT l g yX11_as cX11_as 3 (some .int) 1 22 [.ref (g.1 11), .int v1, .int v2] M (PI r Mr) := by
  refine CT_of (lv := [some (.ref (g.1 11)), some (.int v1), some (.int v2)]) (by decide) rfl (Nat.le_of_ble_eq_true rfl) ?_
  unfold f_X11_as at h
  refine A_aload_n dX11_as_0 rfl ?_
  refine A_iload_n dX11_as_1 rfl ?_
  obtain ⟨r2, M1, h1, h⟩ := bE_go h
  refine A_cVi1 dX11_as_2 ml_X11_141 mb_X11_isElement mi_X11_isElement ob11 rfl rfl ⟨Nat.le_of_ble_eq_true rfl, Nat.le_of_ble_eq_true rfl⟩ (Nat.le_of_ble_eq_true rfl) (ok_X11_isElement h1) ?_
  refine A_if_eq dX11_as_5 (fun hc => ?_) (fun hc => ?_)
  · have h := gT_go hc h
    refine A_aload_n dX11_as_17 rfl ?_
    refine A_iconst (v := 1) dX11_as_18 (by decide) ?_
    obtain ⟨r4, M3, h1, h⟩ := bE_go h
    refine A_cVi1 dX11_as_19 ml_X11_137 mb_X11_finding mi_X11_finding ob11 rfl rfl ⟨Nat.le_of_ble_eq_true rfl, Nat.le_of_ble_eq_true rfl⟩ (Nat.le_of_ble_eq_true rfl) (ok_X11_finding h1) ?_
    exact A_iret dX11_as_22 (pI_go h)
  · have h := gF_go hc h
    refine A_iload_n dX11_as_8 rfl ?_
    refine A_iconst (v := 0) dX11_as_9 (by decide) ?_
    refine A_iconst (v := 3) dX11_as_10 (by decide) ?_
    obtain ⟨r6, M5, h1, h⟩ := bE_go h
    refine A_cSi3 dX11_as_11 ml_X11_133 mb_X11_isIn ms_X11_isIn ⟨Nat.le_of_ble_eq_true rfl, Nat.le_of_ble_eq_true rfl⟩ (Nat.le_of_ble_eq_true rfl) (ok_X11_isIn h1) ?_
    refine A_if_ne dX11_as_14 (fun hc => ?_) (fun hc => ?_)
    · have h := gF_go hc h
      refine A_iload_n dX11_as_23 rfl ?_
      obtain ⟨J7, hJ7, h⟩ := jn_go h
      have JJ7 : ∀ (z8 : Int32) (M9 : Mem), J7 z8 M9 = some (r, Mr) → AT l g RX11 cX11_as 3 (some .int) (rmM 1 22) (PI r Mr) 65 [some (.ref (g.1 11)), some (.int v1), some (.int v2)] [.int z8] M9 := by
        intro z8 M9 h
        rw [hJ7] at h
        exact A_iret dX11_as_65 (pI_go h)
      refine A_if_eq dX11_as_24 (fun hc => ?_) (fun hc => ?_)
      · have h := gT_go hc h
        refine A_aload_n dX11_as_52 rfl ?_
        refine A_iload_n dX11_as_53 rfl ?_
        obtain ⟨r11, M10, h1, h⟩ := bE_go h
        refine A_cVi1 dX11_as_54 ml_X11_145 mb_X11_allowanceOf mi_X11_allowanceOf ob11 rfl rfl ⟨Nat.le_of_ble_eq_true rfl, Nat.le_of_ble_eq_true rfl⟩ (Nat.le_of_ble_eq_true rfl) (ok_X11_allowanceOf h1) ?_
        refine A_goto dX11_as_57 ?_
        exact A_le (lvLe_s (lvLe_s (lvLe_s lvLe_0))) (JJ7 _ _ h)
      · have h := gF_go hc h
        refine A_aload_n dX11_as_27 rfl ?_
        refine A_getf dX11_as_28 fw_X11_7 ob11 rfl ?_
        refine A_iload_n dX11_as_31 rfl ?_
        obtain ⟨hg, h⟩ := gV_go h
        refine A_iald dX11_as_32 ia66 hg ?_
        refine A_iload_n dX11_as_33 rfl ?_
        refine A_icmp_eq dX11_as_34 (fun hc => ?_) (fun hc => ?_)
        · have h := gT_go hc h
          refine A_aload_n dX11_as_52 rfl ?_
          refine A_iload_n dX11_as_53 rfl ?_
          obtain ⟨r13, M12, h1, h⟩ := bE_go h
          refine A_cVi1 dX11_as_54 ml_X11_145 mb_X11_allowanceOf mi_X11_allowanceOf ob11 rfl rfl ⟨Nat.le_of_ble_eq_true rfl, Nat.le_of_ble_eq_true rfl⟩ (Nat.le_of_ble_eq_true rfl) (ok_X11_allowanceOf h1) ?_
          refine A_goto dX11_as_57 ?_
          exact A_le (lvLe_s (lvLe_s (lvLe_s lvLe_0))) (JJ7 _ _ h)
        · have h := gF_go hc h
          refine A_iload_n dX11_as_37 rfl ?_
          refine A_iconst (v := 1) dX11_as_38 (by decide) ?_
          refine A_icmp_ne dX11_as_39 (fun hc => ?_) (fun hc => ?_)
          · have h := gF_go hc h
            refine A_aload_n dX11_as_60 rfl ?_
            refine A_iconst (v := 5) dX11_as_61 (by decide) ?_
            obtain ⟨r15, M14, h1, h⟩ := bE_go h
            refine A_cVi1 dX11_as_62 ml_X11_137 mb_X11_finding mi_X11_finding ob11 rfl rfl ⟨Nat.le_of_ble_eq_true rfl, Nat.le_of_ble_eq_true rfl⟩ (Nat.le_of_ble_eq_true rfl) (ok_X11_finding h1) ?_
            exact A_le (lvLe_s (lvLe_s (lvLe_s lvLe_0))) (JJ7 _ _ h)
          · have h := gT_go hc h
            refine A_aload_n dX11_as_42 rfl ?_
            refine A_getf dX11_as_43 fw_X11_7 ob11 rfl ?_
            refine A_iload_n dX11_as_46 rfl ?_
            obtain ⟨hg, h⟩ := gV_go h
            refine A_iald dX11_as_47 ia66 hg ?_
            refine A_iconst (v := 2) dX11_as_48 (by decide) ?_
            refine A_icmp_ne dX11_as_49 (fun hc => ?_) (fun hc => ?_)
            · have h := gF_go hc h
              refine A_aload_n dX11_as_60 rfl ?_
              refine A_iconst (v := 5) dX11_as_61 (by decide) ?_
              obtain ⟨r17, M16, h1, h⟩ := bE_go h
              refine A_cVi1 dX11_as_62 ml_X11_137 mb_X11_finding mi_X11_finding ob11 rfl rfl ⟨Nat.le_of_ble_eq_true rfl, Nat.le_of_ble_eq_true rfl⟩ (Nat.le_of_ble_eq_true rfl) (ok_X11_finding h1) ?_
              exact A_le (lvLe_s (lvLe_s (lvLe_s lvLe_0))) (JJ7 _ _ h)
            · have h := gT_go hc h
              refine A_aload_n dX11_as_52 rfl ?_
              refine A_iload_n dX11_as_53 rfl ?_
              obtain ⟨r19, M18, h1, h⟩ := bE_go h
              refine A_cVi1 dX11_as_54 ml_X11_145 mb_X11_allowanceOf mi_X11_allowanceOf ob11 rfl rfl ⟨Nat.le_of_ble_eq_true rfl, Nat.le_of_ble_eq_true rfl⟩ (Nat.le_of_ble_eq_true rfl) (ok_X11_allowanceOf h1) ?_
              refine A_goto dX11_as_57 ?_
              exact A_le (lvLe_s (lvLe_s (lvLe_s lvLe_0))) (JJ7 _ _ h)
    · have h := gT_go hc h
      refine A_aload_n dX11_as_17 rfl ?_
      refine A_iconst (v := 1) dX11_as_18 (by decide) ?_
      obtain ⟨r21, M20, h1, h⟩ := bE_go h
      refine A_cVi1 dX11_as_19 ml_X11_137 mb_X11_finding mi_X11_finding ob11 rfl rfl ⟨Nat.le_of_ble_eq_true rfl, Nat.le_of_ble_eq_true rfl⟩ (Nat.le_of_ble_eq_true rfl) (ok_X11_finding h1) ?_
      exact A_iret dX11_as_22 (pI_go h)
-- BenchTimesModel.allow
theorem dX11_allow_0 : di cX11_allow 0 (.iload_n 1) 1 1 := ⟨by decide +kernel, rfl⟩
theorem dX11_allow_1 : di cX11_allow 1 (.iconst 0) 1 2 := ⟨by decide +kernel, rfl⟩
theorem dX11_allow_2 : di cX11_allow 2 (.bipush 50) 2 4 := ⟨by decide +kernel, rfl⟩
theorem dX11_allow_4 : di cX11_allow 4 (.invokestatic 133) 3 7 := ⟨by decide +kernel, rfl⟩
theorem dX11_allow_7 : dj cX11_allow 7 (.ifCond .eq) 10 20 := ⟨13, by decide +kernel, rfl, rfl⟩
theorem dX11_allow_10 : di cX11_allow 10 (.iload_n 2) 1 11 := ⟨by decide +kernel, rfl⟩
theorem dX11_allow_11 : di cX11_allow 11 (.iconst 0) 1 12 := ⟨by decide +kernel, rfl⟩
theorem dX11_allow_12 : di cX11_allow 12 (.bipush 50) 2 14 := ⟨by decide +kernel, rfl⟩
theorem dX11_allow_14 : di cX11_allow 14 (.invokestatic 133) 3 17 := ⟨by decide +kernel, rfl⟩
theorem dX11_allow_17 : dj cX11_allow 17 (.ifCond .ne) 20 26 := ⟨9, by decide +kernel, rfl, rfl⟩
theorem dX11_allow_20 : di cX11_allow 20 (.aload_n 0) 1 21 := ⟨by decide +kernel, rfl⟩
theorem dX11_allow_21 : di cX11_allow 21 (.iconst 1) 1 22 := ⟨by decide +kernel, rfl⟩
theorem dX11_allow_22 : di cX11_allow 22 (.invokevirtual 137) 3 25 := ⟨by decide +kernel, rfl⟩
theorem dX11_allow_25 : di cX11_allow 25 (.ireturn) 1 26 := ⟨by decide +kernel, rfl⟩
theorem dX11_allow_26 : di cX11_allow 26 (.aload_n 0) 1 27 := ⟨by decide +kernel, rfl⟩
theorem dX11_allow_27 : di cX11_allow 27 (.iload_n 1) 1 28 := ⟨by decide +kernel, rfl⟩
theorem dX11_allow_28 : di cX11_allow 28 (.putfield 13) 3 31 := ⟨by decide +kernel, rfl⟩
theorem dX11_allow_31 : di cX11_allow 31 (.aload_n 0) 1 32 := ⟨by decide +kernel, rfl⟩
theorem dX11_allow_32 : di cX11_allow 32 (.iload_n 2) 1 33 := ⟨by decide +kernel, rfl⟩
theorem dX11_allow_33 : di cX11_allow 33 (.putfield 17) 3 36 := ⟨by decide +kernel, rfl⟩
theorem dX11_allow_36 : di cX11_allow 36 (.iconst 1) 1 37 := ⟨by decide +kernel, rfl⟩
theorem dX11_allow_37 : di cX11_allow 37 (.ireturn) 1 38 := ⟨by decide +kernel, rfl⟩
def f_X11_allow (v1 : Int32) (v2 : Int32) (M : Mem) : Option Ret := bE (f_X11_isIn v1 (0 : Int32) (50 : Int32) M) (fun r2 M1 => if r2 = 0 then (bE (f_X11_finding (1 : Int32) M1) (fun r4 M3 => some (r4, M3))) else (bE (f_X11_isIn v2 (0 : Int32) (50 : Int32) M1) (fun r6 M5 => if r6 = 0 then (bE (f_X11_finding (1 : Int32) M5) (fun r10 M9 => some (r10, M9))) else (bM (up2 M5 11 2 v1) (fun M7 => bM (up2 M7 11 3 v2) (fun M8 => some ((1 : Int32), M8)))))))
set_option maxRecDepth 100000 in
theorem ok_X11_allow {l : Launch} {g : Cx} {v1 : Int32} {v2 : Int32} {M : Mem} {r : Int32} {Mr : Mem} (h : f_X11_allow v1 v2 M = some (r, Mr)) : CT l g yX11_allow cX11_allow 3 (some .int) 1 22 [.ref (g.1 11), .int v1, .int v2] M (PI r Mr) := by
  refine CT_of (lv := [some (.ref (g.1 11)), some (.int v1), some (.int v2)]) (by decide) rfl (Nat.le_of_ble_eq_true rfl) ?_
  unfold f_X11_allow at h
  refine A_iload_n dX11_allow_0 rfl ?_
  refine A_iconst (v := 0) dX11_allow_1 (by decide) ?_
  refine A_bipush (v := 50) dX11_allow_2 (by decide) ?_
  obtain ⟨r2, M1, h1, h⟩ := bE_go h
  refine A_cSi3 dX11_allow_4 ml_X11_133 mb_X11_isIn ms_X11_isIn ⟨Nat.le_of_ble_eq_true rfl, Nat.le_of_ble_eq_true rfl⟩ (Nat.le_of_ble_eq_true rfl) (ok_X11_isIn h1) ?_
  refine A_if_eq dX11_allow_7 (fun hc => ?_) (fun hc => ?_)
  · have h := gT_go hc h
    refine A_aload_n dX11_allow_20 rfl ?_
    refine A_iconst (v := 1) dX11_allow_21 (by decide) ?_
    obtain ⟨r4, M3, h1, h⟩ := bE_go h
    refine A_cVi1 dX11_allow_22 ml_X11_137 mb_X11_finding mi_X11_finding ob11 rfl rfl ⟨Nat.le_of_ble_eq_true rfl, Nat.le_of_ble_eq_true rfl⟩ (Nat.le_of_ble_eq_true rfl) (ok_X11_finding h1) ?_
    exact A_iret dX11_allow_25 (pI_go h)
  · have h := gF_go hc h
    refine A_iload_n dX11_allow_10 rfl ?_
    refine A_iconst (v := 0) dX11_allow_11 (by decide) ?_
    refine A_bipush (v := 50) dX11_allow_12 (by decide) ?_
    obtain ⟨r6, M5, h1, h⟩ := bE_go h
    refine A_cSi3 dX11_allow_14 ml_X11_133 mb_X11_isIn ms_X11_isIn ⟨Nat.le_of_ble_eq_true rfl, Nat.le_of_ble_eq_true rfl⟩ (Nat.le_of_ble_eq_true rfl) (ok_X11_isIn h1) ?_
    refine A_if_ne dX11_allow_17 (fun hc => ?_) (fun hc => ?_)
    · have h := gF_go hc h
      refine A_aload_n dX11_allow_26 rfl ?_
      refine A_iload_n dX11_allow_27 rfl ?_
      refine A_putf dX11_allow_28 pw_X11_13 ob11 pf11_2 (Nat.le_of_ble_eq_true rfl) (bM_go h (fun M7 h => ?_))
      refine A_aload_n dX11_allow_31 rfl ?_
      refine A_iload_n dX11_allow_32 rfl ?_
      refine A_putf dX11_allow_33 pw_X11_17 ob11 pf11_3 (Nat.le_of_ble_eq_true rfl) (bM_go h (fun M8 h => ?_))
      refine A_iconst (v := 1) dX11_allow_36 (by decide) ?_
      exact A_iret dX11_allow_37 (pI_go h)
    · have h := gT_go hc h
      refine A_aload_n dX11_allow_20 rfl ?_
      refine A_iconst (v := 1) dX11_allow_21 (by decide) ?_
      obtain ⟨r10, M9, h1, h⟩ := bE_go h
      refine A_cVi1 dX11_allow_22 ml_X11_137 mb_X11_finding mi_X11_finding ob11 rfl rfl ⟨Nat.le_of_ble_eq_true rfl, Nat.le_of_ble_eq_true rfl⟩ (Nat.le_of_ble_eq_true rfl) (ok_X11_finding h1) ?_
      exact A_iret dX11_allow_25 (pI_go h)
-- BenchTimesModel.film
theorem dX11_film_0 : di cX11_film 0 (.iload_n 1) 1 1 := ⟨by decide +kernel, rfl⟩
theorem dX11_film_1 : di cX11_film 1 (.iconst 0) 1 2 := ⟨by decide +kernel, rfl⟩
theorem dX11_film_2 : di cX11_film 2 (.iconst 3) 1 3 := ⟨by decide +kernel, rfl⟩
theorem dX11_film_3 : di cX11_film 3 (.invokestatic 133) 3 6 := ⟨by decide +kernel, rfl⟩
theorem dX11_film_6 : dj cX11_film 6 (.ifCond .eq) 9 23 := ⟨17, by decide +kernel, rfl, rfl⟩
theorem dX11_film_9 : di cX11_film 9 (.iload_n 2) 1 10 := ⟨by decide +kernel, rfl⟩
theorem dX11_film_10 : di cX11_film 10 (.invokestatic 148) 3 13 := ⟨by decide +kernel, rfl⟩
theorem dX11_film_13 : dj cX11_film 13 (.ifCond .eq) 16 23 := ⟨10, by decide +kernel, rfl, rfl⟩
theorem dX11_film_16 : di cX11_film 16 (.iload_n 3) 1 17 := ⟨by decide +kernel, rfl⟩
theorem dX11_film_17 : di cX11_film 17 (.invokestatic 148) 3 20 := ⟨by decide +kernel, rfl⟩
theorem dX11_film_20 : dj cX11_film 20 (.ifCond .ne) 23 29 := ⟨9, by decide +kernel, rfl, rfl⟩
theorem dX11_film_23 : di cX11_film 23 (.aload_n 0) 1 24 := ⟨by decide +kernel, rfl⟩
theorem dX11_film_24 : di cX11_film 24 (.iconst 1) 1 25 := ⟨by decide +kernel, rfl⟩
theorem dX11_film_25 : di cX11_film 25 (.invokevirtual 137) 3 28 := ⟨by decide +kernel, rfl⟩
theorem dX11_film_28 : di cX11_film 28 (.ireturn) 1 29 := ⟨by decide +kernel, rfl⟩
theorem dX11_film_29 : di cX11_film 29 (.aload_n 0) 1 30 := ⟨by decide +kernel, rfl⟩
theorem dX11_film_30 : di cX11_film 30 (.getfield 151) 3 33 := ⟨by decide +kernel, rfl⟩
theorem dX11_film_33 : di cX11_film 33 (.bipush 20) 2 35 := ⟨by decide +kernel, rfl⟩
theorem dX11_film_35 : dj cX11_film 35 (.if_icmp .ne) 38 44 := ⟨9, by decide +kernel, rfl, rfl⟩
theorem dX11_film_38 : di cX11_film 38 (.aload_n 0) 1 39 := ⟨by decide +kernel, rfl⟩
theorem dX11_film_39 : di cX11_film 39 (.iconst 4) 1 40 := ⟨by decide +kernel, rfl⟩
theorem dX11_film_40 : di cX11_film 40 (.invokevirtual 137) 3 43 := ⟨by decide +kernel, rfl⟩
theorem dX11_film_43 : di cX11_film 43 (.ireturn) 1 44 := ⟨by decide +kernel, rfl⟩
theorem dX11_film_44 : di cX11_film 44 (.aload_n 0) 1 45 := ⟨by decide +kernel, rfl⟩
theorem dX11_film_45 : di cX11_film 45 (.getfield 20) 3 48 := ⟨by decide +kernel, rfl⟩
theorem dX11_film_48 : di cX11_film 48 (.aload_n 0) 1 49 := ⟨by decide +kernel, rfl⟩
theorem dX11_film_49 : di cX11_film 49 (.getfield 151) 3 52 := ⟨by decide +kernel, rfl⟩
theorem dX11_film_52 : di cX11_film 52 (.iload_n 1) 1 53 := ⟨by decide +kernel, rfl⟩
theorem dX11_film_53 : di cX11_film 53 (.iastore) 1 54 := ⟨by decide +kernel, rfl⟩
theorem dX11_film_54 : di cX11_film 54 (.aload_n 0) 1 55 := ⟨by decide +kernel, rfl⟩
theorem dX11_film_55 : di cX11_film 55 (.getfield 23) 3 58 := ⟨by decide +kernel, rfl⟩
theorem dX11_film_58 : di cX11_film 58 (.aload_n 0) 1 59 := ⟨by decide +kernel, rfl⟩
theorem dX11_film_59 : di cX11_film 59 (.getfield 151) 3 62 := ⟨by decide +kernel, rfl⟩
theorem dX11_film_62 : di cX11_film 62 (.iload_n 3) 1 63 := ⟨by decide +kernel, rfl⟩
theorem dX11_film_63 : di cX11_film 63 (.iload_n 2) 1 64 := ⟨by decide +kernel, rfl⟩
theorem dX11_film_64 : di cX11_film 64 (.isub) 1 65 := ⟨by decide +kernel, rfl⟩
theorem dX11_film_65 : di cX11_film 65 (.iastore) 1 66 := ⟨by decide +kernel, rfl⟩
theorem dX11_film_66 : di cX11_film 66 (.aload_n 0) 1 67 := ⟨by decide +kernel, rfl⟩
theorem dX11_film_67 : di cX11_film 67 (.dup) 1 68 := ⟨by decide +kernel, rfl⟩
theorem dX11_film_68 : di cX11_film 68 (.getfield 151) 3 71 := ⟨by decide +kernel, rfl⟩
theorem dX11_film_71 : di cX11_film 71 (.iconst 1) 1 72 := ⟨by decide +kernel, rfl⟩
theorem dX11_film_72 : di cX11_film 72 (.iadd) 1 73 := ⟨by decide +kernel, rfl⟩
theorem dX11_film_73 : di cX11_film 73 (.putfield 151) 3 76 := ⟨by decide +kernel, rfl⟩
theorem dX11_film_76 : di cX11_film 76 (.aload_n 0) 1 77 := ⟨by decide +kernel, rfl⟩
theorem dX11_film_77 : di cX11_film 77 (.getfield 151) 3 80 := ⟨by decide +kernel, rfl⟩
theorem dX11_film_80 : di cX11_film 80 (.ireturn) 1 81 := ⟨by decide +kernel, rfl⟩
def f_X11_film (v1 : Int32) (v2 : Int32) (v3 : Int32) (M : Mem) : Option Ret := bE (f_X11_isIn v1 (0 : Int32) (3 : Int32) M) (fun r2 M1 => if r2 = 0 then (bE (f_X11_finding (1 : Int32) M1) (fun r4 M3 => some (r4, M3))) else (bE (f_X11_isPace v2 M1) (fun r6 M5 => if r6 = 0 then (bE (f_X11_finding (1 : Int32) M5) (fun r8 M7 => some (r8, M7))) else (bE (f_X11_isPace v3 M5) (fun r10 M9 => if r10 = 0 then (bE (f_X11_finding (1 : Int32) M9) (fun r17 M16 => some (r17, M16))) else (if (M9.1 11 4) = (20 : Int32) then (bE (f_X11_finding (4 : Int32) M9) (fun r15 M14 => some (r15, M14))) else (gV (M9.1 11 4) 20 (bM (up2 M9 67 (M9.1 11 4).toNatClampNeg v1) (fun M11 => gV (M11.1 11 4) 20 (bM (up2 M11 68 (M11.1 11 4).toNatClampNeg (v3 - v2)) (fun M12 => bM (up2 M12 11 4 ((M12.1 11 4) + (1 : Int32))) (fun M13 => some (M13.1 11 4, M13)))))))))))))
set_option maxRecDepth 100000 in
theorem ok_X11_film {l : Launch} {g : Cx} {v1 : Int32} {v2 : Int32} {v3 : Int32} {M : Mem} {r : Int32} {Mr : Mem} (h : f_X11_film v1 v2 v3 M = some (r, Mr)) : CT l g yX11_film cX11_film 4 (some .int) 2 42 [.ref (g.1 11), .int v1, .int v2, .int v3] M (PI r Mr) := by
  refine CT_of (lv := [some (.ref (g.1 11)), some (.int v1), some (.int v2), some (.int v3)]) (by decide) rfl (Nat.le_of_ble_eq_true rfl) ?_
  unfold f_X11_film at h
  refine A_iload_n dX11_film_0 rfl ?_
  refine A_iconst (v := 0) dX11_film_1 (by decide) ?_
  refine A_iconst (v := 3) dX11_film_2 (by decide) ?_
  obtain ⟨r2, M1, h1, h⟩ := bE_go h
  refine A_cSi3 dX11_film_3 ml_X11_133 mb_X11_isIn ms_X11_isIn ⟨Nat.le_of_ble_eq_true rfl, Nat.le_of_ble_eq_true rfl⟩ (Nat.le_of_ble_eq_true rfl) (ok_X11_isIn h1) ?_
  refine A_if_eq dX11_film_6 (fun hc => ?_) (fun hc => ?_)
  · have h := gT_go hc h
    refine A_aload_n dX11_film_23 rfl ?_
    refine A_iconst (v := 1) dX11_film_24 (by decide) ?_
    obtain ⟨r4, M3, h1, h⟩ := bE_go h
    refine A_cVi1 dX11_film_25 ml_X11_137 mb_X11_finding mi_X11_finding ob11 rfl rfl ⟨Nat.le_of_ble_eq_true rfl, Nat.le_of_ble_eq_true rfl⟩ (Nat.le_of_ble_eq_true rfl) (ok_X11_finding h1) ?_
    exact A_iret dX11_film_28 (pI_go h)
  · have h := gF_go hc h
    refine A_iload_n dX11_film_9 rfl ?_
    obtain ⟨r6, M5, h1, h⟩ := bE_go h
    refine A_cSi1 dX11_film_10 ml_X11_148 mb_X11_isPace ms_X11_isPace ⟨Nat.le_of_ble_eq_true rfl, Nat.le_of_ble_eq_true rfl⟩ (Nat.le_of_ble_eq_true rfl) (ok_X11_isPace h1) ?_
    refine A_if_eq dX11_film_13 (fun hc => ?_) (fun hc => ?_)
    · have h := gT_go hc h
      refine A_aload_n dX11_film_23 rfl ?_
      refine A_iconst (v := 1) dX11_film_24 (by decide) ?_
      obtain ⟨r8, M7, h1, h⟩ := bE_go h
      refine A_cVi1 dX11_film_25 ml_X11_137 mb_X11_finding mi_X11_finding ob11 rfl rfl ⟨Nat.le_of_ble_eq_true rfl, Nat.le_of_ble_eq_true rfl⟩ (Nat.le_of_ble_eq_true rfl) (ok_X11_finding h1) ?_
      exact A_iret dX11_film_28 (pI_go h)
    · have h := gF_go hc h
      refine A_iload_n dX11_film_16 rfl ?_
      obtain ⟨r10, M9, h1, h⟩ := bE_go h
      refine A_cSi1 dX11_film_17 ml_X11_148 mb_X11_isPace ms_X11_isPace ⟨Nat.le_of_ble_eq_true rfl, Nat.le_of_ble_eq_true rfl⟩ (Nat.le_of_ble_eq_true rfl) (ok_X11_isPace h1) ?_
      refine A_if_ne dX11_film_20 (fun hc => ?_) (fun hc => ?_)
      · have h := gF_go hc h
        refine A_aload_n dX11_film_29 rfl ?_
        refine A_getf dX11_film_30 fw_X11_151 ob11 rfl ?_
        refine A_bipush (v := 20) dX11_film_33 (by decide) ?_
        refine A_icmp_ne dX11_film_35 (fun hc => ?_) (fun hc => ?_)
        · have h := gF_go hc h
          refine A_aload_n dX11_film_44 rfl ?_
          refine A_getf dX11_film_45 fw_X11_20 ob11 rfl ?_
          refine A_aload_n dX11_film_48 rfl ?_
          refine A_getf dX11_film_49 fw_X11_151 ob11 rfl ?_
          refine A_iload_n dX11_film_52 rfl ?_
          obtain ⟨hg, h⟩ := gV_go h
          refine A_iast dX11_film_53 ia67 hg (bM_go h (fun M11 h => ?_))
          refine A_aload_n dX11_film_54 rfl ?_
          refine A_getf dX11_film_55 fw_X11_23 ob11 rfl ?_
          refine A_aload_n dX11_film_58 rfl ?_
          refine A_getf dX11_film_59 fw_X11_151 ob11 rfl ?_
          refine A_iload_n dX11_film_62 rfl ?_
          refine A_iload_n dX11_film_63 rfl ?_
          refine A_isub dX11_film_64 ?_
          obtain ⟨hg, h⟩ := gV_go h
          refine A_iast dX11_film_65 ia68 hg (bM_go h (fun M12 h => ?_))
          refine A_aload_n dX11_film_66 rfl ?_
          refine A_dup dX11_film_67 rfl ?_
          refine A_getf dX11_film_68 fw_X11_151 ob11 rfl ?_
          refine A_iconst (v := 1) dX11_film_71 (by decide) ?_
          refine A_iadd dX11_film_72 ?_
          refine A_putf dX11_film_73 pw_X11_151 ob11 pf11_4 (Nat.le_of_ble_eq_true rfl) (bM_go h (fun M13 h => ?_))
          refine A_aload_n dX11_film_76 rfl ?_
          refine A_getf dX11_film_77 fw_X11_151 ob11 rfl ?_
          exact A_iret dX11_film_80 (pI_go h)
        · have h := gT_go hc h
          refine A_aload_n dX11_film_38 rfl ?_
          refine A_iconst (v := 4) dX11_film_39 (by decide) ?_
          obtain ⟨r15, M14, h1, h⟩ := bE_go h
          refine A_cVi1 dX11_film_40 ml_X11_137 mb_X11_finding mi_X11_finding ob11 rfl rfl ⟨Nat.le_of_ble_eq_true rfl, Nat.le_of_ble_eq_true rfl⟩ (Nat.le_of_ble_eq_true rfl) (ok_X11_finding h1) ?_
          exact A_iret dX11_film_43 (pI_go h)
      · have h := gT_go hc h
        refine A_aload_n dX11_film_23 rfl ?_
        refine A_iconst (v := 1) dX11_film_24 (by decide) ?_
        obtain ⟨r17, M16, h1, h⟩ := bE_go h
        refine A_cVi1 dX11_film_25 ml_X11_137 mb_X11_finding mi_X11_finding ob11 rfl rfl ⟨Nat.le_of_ble_eq_true rfl, Nat.le_of_ble_eq_true rfl⟩ (Nat.le_of_ble_eq_true rfl) (ok_X11_finding h1) ?_
        exact A_iret dX11_film_28 (pI_go h)
-- BenchTimesModel.habitOf
theorem dX11_habitOf_0 : di cX11_habitOf 0 (.iconst 0) 1 1 := ⟨by decide +kernel, rfl⟩
theorem dX11_habitOf_1 : di cX11_habitOf 1 (.istore_n 2) 1 2 := ⟨by decide +kernel, rfl⟩
theorem dX11_habitOf_2 : di cX11_habitOf 2 (.iconst 0) 1 3 := ⟨by decide +kernel, rfl⟩
theorem dX11_habitOf_3 : di cX11_habitOf 3 (.istore_n 3) 1 4 := ⟨by decide +kernel, rfl⟩
theorem dX11_habitOf_4 : di cX11_habitOf 4 (.iconst 0) 1 5 := ⟨by decide +kernel, rfl⟩
theorem dX11_habitOf_5 : di cX11_habitOf 5 (.istore 4) 2 7 := ⟨by decide +kernel, rfl⟩
theorem dX11_habitOf_7 : di cX11_habitOf 7 (.iload 4) 2 9 := ⟨by decide +kernel, rfl⟩
theorem dX11_habitOf_9 : di cX11_habitOf 9 (.aload_n 0) 1 10 := ⟨by decide +kernel, rfl⟩
theorem dX11_habitOf_10 : di cX11_habitOf 10 (.getfield 151) 3 13 := ⟨by decide +kernel, rfl⟩
theorem dX11_habitOf_13 : dj cX11_habitOf 13 (.if_icmp .ge) 16 66 := ⟨53, by decide +kernel, rfl, rfl⟩
theorem dX11_habitOf_16 : di cX11_habitOf 16 (.iload_n 2) 1 17 := ⟨by decide +kernel, rfl⟩
theorem dX11_habitOf_17 : di cX11_habitOf 17 (.aload_n 0) 1 18 := ⟨by decide +kernel, rfl⟩
theorem dX11_habitOf_18 : di cX11_habitOf 18 (.getfield 20) 3 21 := ⟨by decide +kernel, rfl⟩
theorem dX11_habitOf_21 : di cX11_habitOf 21 (.iload 4) 2 23 := ⟨by decide +kernel, rfl⟩
theorem dX11_habitOf_23 : di cX11_habitOf 23 (.iaload) 1 24 := ⟨by decide +kernel, rfl⟩
theorem dX11_habitOf_24 : di cX11_habitOf 24 (.iload_n 1) 1 25 := ⟨by decide +kernel, rfl⟩
theorem dX11_habitOf_25 : dj cX11_habitOf 25 (.if_icmp .ne) 28 38 := ⟨13, by decide +kernel, rfl, rfl⟩
theorem dX11_habitOf_28 : di cX11_habitOf 28 (.aload_n 0) 1 29 := ⟨by decide +kernel, rfl⟩
theorem dX11_habitOf_29 : di cX11_habitOf 29 (.getfield 23) 3 32 := ⟨by decide +kernel, rfl⟩
theorem dX11_habitOf_32 : di cX11_habitOf 32 (.iload 4) 2 34 := ⟨by decide +kernel, rfl⟩
theorem dX11_habitOf_34 : di cX11_habitOf 34 (.iaload) 1 35 := ⟨by decide +kernel, rfl⟩
theorem dX11_habitOf_35 : dj cX11_habitOf 35 .goto 38 39 := ⟨4, by decide +kernel, rfl, rfl⟩
theorem dX11_habitOf_38 : di cX11_habitOf 38 (.iconst 0) 1 39 := ⟨by decide +kernel, rfl⟩
theorem dX11_habitOf_39 : di cX11_habitOf 39 (.iadd) 1 40 := ⟨by decide +kernel, rfl⟩
theorem dX11_habitOf_40 : di cX11_habitOf 40 (.istore_n 2) 1 41 := ⟨by decide +kernel, rfl⟩
theorem dX11_habitOf_41 : di cX11_habitOf 41 (.iload_n 3) 1 42 := ⟨by decide +kernel, rfl⟩
theorem dX11_habitOf_42 : di cX11_habitOf 42 (.aload_n 0) 1 43 := ⟨by decide +kernel, rfl⟩
theorem dX11_habitOf_43 : di cX11_habitOf 43 (.getfield 20) 3 46 := ⟨by decide +kernel, rfl⟩
theorem dX11_habitOf_46 : di cX11_habitOf 46 (.iload 4) 2 48 := ⟨by decide +kernel, rfl⟩
theorem dX11_habitOf_48 : di cX11_habitOf 48 (.iaload) 1 49 := ⟨by decide +kernel, rfl⟩
theorem dX11_habitOf_49 : di cX11_habitOf 49 (.iload_n 1) 1 50 := ⟨by decide +kernel, rfl⟩
theorem dX11_habitOf_50 : dj cX11_habitOf 50 (.if_icmp .ne) 53 57 := ⟨7, by decide +kernel, rfl, rfl⟩
theorem dX11_habitOf_53 : di cX11_habitOf 53 (.iconst 1) 1 54 := ⟨by decide +kernel, rfl⟩
theorem dX11_habitOf_54 : dj cX11_habitOf 54 .goto 57 58 := ⟨4, by decide +kernel, rfl, rfl⟩
theorem dX11_habitOf_57 : di cX11_habitOf 57 (.iconst 0) 1 58 := ⟨by decide +kernel, rfl⟩
theorem dX11_habitOf_58 : di cX11_habitOf 58 (.iadd) 1 59 := ⟨by decide +kernel, rfl⟩
theorem dX11_habitOf_59 : di cX11_habitOf 59 (.istore_n 3) 1 60 := ⟨by decide +kernel, rfl⟩
theorem dX11_habitOf_60 : di cX11_habitOf 60 (.iinc 4 1) 3 63 := ⟨by decide +kernel, rfl⟩
theorem dX11_habitOf_63 : dj cX11_habitOf 63 .goto 66 7 := ⟨-56, by decide +kernel, rfl, rfl⟩
theorem dX11_habitOf_66 : di cX11_habitOf 66 (.iload_n 3) 1 67 := ⟨by decide +kernel, rfl⟩
theorem dX11_habitOf_67 : dj cX11_habitOf 67 (.ifCond .ne) 70 74 := ⟨7, by decide +kernel, rfl, rfl⟩
theorem dX11_habitOf_70 : di cX11_habitOf 70 (.iconst 0) 1 71 := ⟨by decide +kernel, rfl⟩
theorem dX11_habitOf_71 : dj cX11_habitOf 71 .goto 74 77 := ⟨6, by decide +kernel, rfl, rfl⟩
theorem dX11_habitOf_74 : di cX11_habitOf 74 (.iload_n 2) 1 75 := ⟨by decide +kernel, rfl⟩
theorem dX11_habitOf_75 : di cX11_habitOf 75 (.iload_n 3) 1 76 := ⟨by decide +kernel, rfl⟩
theorem dX11_habitOf_76 : di cX11_habitOf 76 (.idiv) 1 77 := ⟨by decide +kernel, rfl⟩
theorem dX11_habitOf_77 : di cX11_habitOf 77 (.ireturn) 1 78 := ⟨by decide +kernel, rfl⟩
def f_X11_habitOf_L7 (v1 : Int32) : Nat → Int32 → Int32 → Int32 → Mem → (Int32 → Int32 → Int32 → Mem → Option Ret) → Option Ret
  | 0, _, _, _, _, _ => none
  | k7 + 1, v2, v3, v4, M, K7 => if (M.1 11 4) ≤ v4 then (K7 v2 v3 v4 M) else (gV v4 20 (jn (α := Int32 → Option Ret) (fun (z2 : Int32) => bI (v2 + z2) (fun x3 => gV v4 20 (jn (α := Int32 → Option Ret) (fun (z5 : Int32) => bI (v3 + z5) (fun x6 => f_X11_habitOf_L7 v1 k7 x3 x6 (v4 + (1 : Int32)) M K7)) (fun J4 => if (M.1 67 v4.toNatClampNeg) = v1 then (J4 (1 : Int32)) else (J4 (0 : Int32)))))) (fun J1 => if (M.1 67 v4.toNatClampNeg) = v1 then (gV v4 20 (J1 (M.1 68 v4.toNatClampNeg))) else (J1 (0 : Int32)))))
set_option maxRecDepth 100000 in
theorem f_X11_habitOf_L7_ok {l : Launch} {g : Cx} (v1 : Int32) {r : Int32} {Mr : Mem} : ∀ (k : Nat) (v2 : Int32) (v3 : Int32) (v4 : Int32) (M : Mem) (K7 : Int32 → Int32 → Int32 → Mem → Option Ret), f_X11_habitOf_L7 v1 k v2 v3 v4 M K7 = some (r, Mr) → (∀ (v2 : Int32) (v3 : Int32) (v4 : Int32) (M : Mem), K7 v2 v3 v4 M = some (r, Mr) → AT l g RX11 cX11_habitOf 5 (some .int) (rmM 0 0) (PI r Mr) 66 [some (.ref (g.1 11)), some (.int v1), some (.int v2), some (.int v3), some (.int v4)] [] M) → AT l g RX11 cX11_habitOf 5 (some .int) (rmM 0 0) (PI r Mr) 7 [some (.ref (g.1 11)), some (.int v1), some (.int v2), some (.int v3), some (.int v4)] [] M
  | 0, v2, v3, v4, M, K7, h, hK7 => by cases h
  | k7 + 1, v2, v3, v4, M, K7, h, hK7 => by
    have ih7 := f_X11_habitOf_L7_ok (l := l) (g := g) v1 (r := r) (Mr := Mr) k7
    rw [f_X11_habitOf_L7] at h
    refine A_iload dX11_habitOf_7 rfl ?_
    refine A_aload_n dX11_habitOf_9 rfl ?_
    refine A_getf dX11_habitOf_10 fw_X11_151 ob11 rfl ?_
    refine A_icmp_ge dX11_habitOf_13 (fun hc => ?_) (fun hc => ?_)
    · have h := gT_go hc h
      exact A_le (lvLe_s (lvLe_s (lvLe_s (lvLe_s (lvLe_s lvLe_0))))) (hK7 _ _ _ _ h)
    · have h := gF_go hc h
      refine A_iload_n dX11_habitOf_16 rfl ?_
      refine A_aload_n dX11_habitOf_17 rfl ?_
      refine A_getf dX11_habitOf_18 fw_X11_20 ob11 rfl ?_
      refine A_iload dX11_habitOf_21 rfl ?_
      obtain ⟨hg, h⟩ := gV_go h
      refine A_iald dX11_habitOf_23 ia67 hg ?_
      refine A_iload_n dX11_habitOf_24 rfl ?_
      obtain ⟨J1, hJ1, h⟩ := jn_go h
      have JJ1 : ∀ (z2 : Int32), J1 z2 = some (r, Mr) → AT l g RX11 cX11_habitOf 5 (some .int) (rmM 0 0) (PI r Mr) 39 [some (.ref (g.1 11)), some (.int v1), some (.int v2), some (.int v3), some (.int v4)] [.int z2, .int v2] M := by
        intro z2 h
        rw [hJ1] at h
        refine A_iadd dX11_habitOf_39 ?_
        refine A_istoren2 dX11_habitOf_40 (by decide) rfl (bI_go h (G := fun z => AT l g RX11 cX11_habitOf 5 (some .int) (rmM 0 0) (PI r Mr) 41 [some (.ref (g.1 11)), some (.int v1), some (.int z), some (.int v3), some (.int v4)] [] M) (fun x3 h => ?_))
        refine A_iload_n dX11_habitOf_41 rfl ?_
        refine A_aload_n dX11_habitOf_42 rfl ?_
        refine A_getf dX11_habitOf_43 fw_X11_20 ob11 rfl ?_
        refine A_iload dX11_habitOf_46 rfl ?_
        obtain ⟨hg, h⟩ := gV_go h
        refine A_iald dX11_habitOf_48 ia67 hg ?_
        refine A_iload_n dX11_habitOf_49 rfl ?_
        obtain ⟨J4, hJ4, h⟩ := jn_go h
        have JJ4 : ∀ (z5 : Int32), J4 z5 = some (r, Mr) → AT l g RX11 cX11_habitOf 5 (some .int) (rmM 0 0) (PI r Mr) 58 [some (.ref (g.1 11)), some (.int v1), some (.int x3), some (.int v3), some (.int v4)] [.int z5, .int v3] M := by
          intro z5 h
          rw [hJ4] at h
          refine A_iadd dX11_habitOf_58 ?_
          refine A_istoren3 dX11_habitOf_59 (by decide) rfl (bI_go h (G := fun z => AT l g RX11 cX11_habitOf 5 (some .int) (rmM 0 0) (PI r Mr) 60 [some (.ref (g.1 11)), some (.int v1), some (.int x3), some (.int z), some (.int v4)] [] M) (fun x6 h => ?_))
          refine A_iinc4 (d := 1) dX11_habitOf_60 (by decide) (by decide) rfl ?_
          refine A_goto dX11_habitOf_63 ?_
          exact A_le (lvLe_s (lvLe_s (lvLe_s (lvLe_s (lvLe_s lvLe_0))))) (ih7 _ _ _ _ K7 h hK7)
        refine A_icmp_ne dX11_habitOf_50 (fun hc => ?_) (fun hc => ?_)
        · have h := gF_go hc h
          refine A_iconst (v := 0) dX11_habitOf_57 (by decide) ?_
          exact A_le (lvLe_s (lvLe_s (lvLe_s (lvLe_s (lvLe_s lvLe_0))))) (JJ4 _ h)
        · have h := gT_go hc h
          refine A_iconst (v := 1) dX11_habitOf_53 (by decide) ?_
          refine A_goto dX11_habitOf_54 ?_
          exact A_le (lvLe_s (lvLe_s (lvLe_s (lvLe_s (lvLe_s lvLe_0))))) (JJ4 _ h)
      refine A_icmp_ne dX11_habitOf_25 (fun hc => ?_) (fun hc => ?_)
      · have h := gF_go hc h
        refine A_iconst (v := 0) dX11_habitOf_38 (by decide) ?_
        exact A_le (lvLe_s (lvLe_s (lvLe_s (lvLe_s (lvLe_s lvLe_0))))) (JJ1 _ h)
      · have h := gT_go hc h
        refine A_aload_n dX11_habitOf_28 rfl ?_
        refine A_getf dX11_habitOf_29 fw_X11_23 ob11 rfl ?_
        refine A_iload dX11_habitOf_32 rfl ?_
        obtain ⟨hg, h⟩ := gV_go h
        refine A_iald dX11_habitOf_34 ia68 hg ?_
        refine A_goto dX11_habitOf_35 ?_
        exact A_le (lvLe_s (lvLe_s (lvLe_s (lvLe_s (lvLe_s lvLe_0))))) (JJ1 _ h)
def f_X11_habitOf (v1 : Int32) (M : Mem) : Option Ret := f_X11_habitOf_L7 v1 FU (0 : Int32) (0 : Int32) (0 : Int32) M (fun w7 w8 w9 M10 => jn (α := Int32 → Option Ret) (fun (z12 : Int32) => some (z12, M10)) (fun J11 => if w8 = 0 then (J11 (0 : Int32)) else (gN w8 (J11 (w7 / w8)))))
set_option maxRecDepth 100000 in
theorem ok_X11_habitOf {l : Launch} {g : Cx} {v1 : Int32} {M : Mem} {r : Int32} {Mr : Mem} (h : f_X11_habitOf v1 M = some (r, Mr)) : CT l g yX11_habitOf cX11_habitOf 5 (some .int) 0 0 [.ref (g.1 11), .int v1] M (PI r Mr) := by
  refine CT_of (lv := [some (.ref (g.1 11)), some (.int v1), none, none, none]) (by decide) rfl (Nat.le_of_ble_eq_true rfl) ?_
  unfold f_X11_habitOf at h
  refine A_iconst (v := 0) dX11_habitOf_0 (by decide) ?_
  refine A_istoren2 dX11_habitOf_1 (by decide) rfl ?_
  refine A_iconst (v := 0) dX11_habitOf_2 (by decide) ?_
  refine A_istoren3 dX11_habitOf_3 (by decide) rfl ?_
  refine A_iconst (v := 0) dX11_habitOf_4 (by decide) ?_
  refine A_istore4 dX11_habitOf_5 (by decide) rfl ?_
  refine f_X11_habitOf_L7_ok _ FU _ _ _ _ _ h (fun w7 w8 w9 M10 h => ?_)
  refine A_iload_n dX11_habitOf_66 rfl ?_
  obtain ⟨J11, hJ11, h⟩ := jn_go h
  have JJ11 : ∀ (z12 : Int32), J11 z12 = some (r, Mr) → AT l g RX11 cX11_habitOf 5 (some .int) (rmM 0 0) (PI r Mr) 77 [some (.ref (g.1 11)), some (.int v1), some (.int w7), some (.int w8), some (.int w9)] [.int z12] M10 := by
    intro z12 h
    rw [hJ11] at h
    exact A_iret dX11_habitOf_77 (pI_go h)
  refine A_if_ne dX11_habitOf_67 (fun hc => ?_) (fun hc => ?_)
  · have h := gF_go hc h
    refine A_iload_n dX11_habitOf_74 rfl ?_
    refine A_iload_n dX11_habitOf_75 rfl ?_
    obtain ⟨hg, h⟩ := gN_go h
    refine A_idiv dX11_habitOf_76 hg ?_
    exact A_le (lvLe_s (lvLe_s (lvLe_s (lvLe_s (lvLe_s lvLe_0))))) (JJ11 _ h)
  · have h := gT_go hc h
    refine A_iconst (v := 0) dX11_habitOf_70 (by decide) ?_
    refine A_goto dX11_habitOf_71 ?_
    exact A_le (lvLe_s (lvLe_s (lvLe_s (lvLe_s (lvLe_s lvLe_0))))) (JJ11 _ h)
-- BenchTimesModel.habit
theorem dX11_habit_0 : di cX11_habit 0 (.iload_n 1) 1 1 := ⟨by decide +kernel, rfl⟩
theorem dX11_habit_1 : di cX11_habit 1 (.iconst 0) 1 2 := ⟨by decide +kernel, rfl⟩
theorem dX11_habit_2 : di cX11_habit 2 (.iconst 3) 1 3 := ⟨by decide +kernel, rfl⟩
theorem dX11_habit_3 : di cX11_habit 3 (.invokestatic 133) 3 6 := ⟨by decide +kernel, rfl⟩
theorem dX11_habit_6 : dj cX11_habit 6 (.ifCond .eq) 9 17 := ⟨11, by decide +kernel, rfl, rfl⟩
theorem dX11_habit_9 : di cX11_habit 9 (.aload_n 0) 1 10 := ⟨by decide +kernel, rfl⟩
theorem dX11_habit_10 : di cX11_habit 10 (.iload_n 1) 1 11 := ⟨by decide +kernel, rfl⟩
theorem dX11_habit_11 : di cX11_habit 11 (.invokevirtual 154) 3 14 := ⟨by decide +kernel, rfl⟩
theorem dX11_habit_14 : dj cX11_habit 14 .goto 17 22 := ⟨8, by decide +kernel, rfl, rfl⟩
theorem dX11_habit_17 : di cX11_habit 17 (.aload_n 0) 1 18 := ⟨by decide +kernel, rfl⟩
theorem dX11_habit_18 : di cX11_habit 18 (.iconst 1) 1 19 := ⟨by decide +kernel, rfl⟩
theorem dX11_habit_19 : di cX11_habit 19 (.invokevirtual 137) 3 22 := ⟨by decide +kernel, rfl⟩
theorem dX11_habit_22 : di cX11_habit 22 (.ireturn) 1 23 := ⟨by decide +kernel, rfl⟩
def f_X11_habit (v1 : Int32) (M : Mem) : Option Ret := bE (f_X11_isIn v1 (0 : Int32) (3 : Int32) M) (fun r2 M1 => jn (α := Int32 → Mem → Option Ret) (fun (z4 : Int32) (M5 : Mem) => some (z4, M5)) (fun J3 => if r2 = 0 then (bE (f_X11_finding (1 : Int32) M1) (fun r7 M6 => J3 r7 M6)) else (bE (f_X11_habitOf v1 M1) (fun r9 M8 => J3 r9 M8))))
set_option maxRecDepth 100000 in
theorem ok_X11_habit {l : Launch} {g : Cx} {v1 : Int32} {M : Mem} {r : Int32} {Mr : Mem} (h : f_X11_habit v1 M = some (r, Mr)) : CT l g yX11_habit cX11_habit 2 (some .int) 1 24 [.ref (g.1 11), .int v1] M (PI r Mr) := by
  refine CT_of (lv := [some (.ref (g.1 11)), some (.int v1)]) (by decide) rfl (Nat.le_of_ble_eq_true rfl) ?_
  unfold f_X11_habit at h
  refine A_iload_n dX11_habit_0 rfl ?_
  refine A_iconst (v := 0) dX11_habit_1 (by decide) ?_
  refine A_iconst (v := 3) dX11_habit_2 (by decide) ?_
  obtain ⟨r2, M1, h1, h⟩ := bE_go h
  refine A_cSi3 dX11_habit_3 ml_X11_133 mb_X11_isIn ms_X11_isIn ⟨Nat.le_of_ble_eq_true rfl, Nat.le_of_ble_eq_true rfl⟩ (Nat.le_of_ble_eq_true rfl) (ok_X11_isIn h1) ?_
  obtain ⟨J3, hJ3, h⟩ := jn_go h
  have JJ3 : ∀ (z4 : Int32) (M5 : Mem), J3 z4 M5 = some (r, Mr) → AT l g RX11 cX11_habit 2 (some .int) (rmM 1 24) (PI r Mr) 22 [some (.ref (g.1 11)), some (.int v1)] [.int z4] M5 := by
    intro z4 M5 h
    rw [hJ3] at h
    exact A_iret dX11_habit_22 (pI_go h)
  refine A_if_eq dX11_habit_6 (fun hc => ?_) (fun hc => ?_)
  · have h := gT_go hc h
    refine A_aload_n dX11_habit_17 rfl ?_
    refine A_iconst (v := 1) dX11_habit_18 (by decide) ?_
    obtain ⟨r7, M6, h1, h⟩ := bE_go h
    refine A_cVi1 dX11_habit_19 ml_X11_137 mb_X11_finding mi_X11_finding ob11 rfl rfl ⟨Nat.le_of_ble_eq_true rfl, Nat.le_of_ble_eq_true rfl⟩ (Nat.le_of_ble_eq_true rfl) (ok_X11_finding h1) ?_
    exact A_le (lvLe_s (lvLe_s lvLe_0)) (JJ3 _ _ h)
  · have h := gF_go hc h
    refine A_aload_n dX11_habit_9 rfl ?_
    refine A_iload_n dX11_habit_10 rfl ?_
    obtain ⟨r9, M8, h1, h⟩ := bE_go h
    refine A_cVi1 dX11_habit_11 ml_X11_154 mb_X11_habitOf mi_X11_habitOf ob11 rfl rfl ⟨Nat.le_of_ble_eq_true rfl, Nat.le_of_ble_eq_true rfl⟩ (Nat.le_of_ble_eq_true rfl) (ok_X11_habitOf h1) ?_
    refine A_goto dX11_habit_14 ?_
    exact A_le (lvLe_s (lvLe_s lvLe_0)) (JJ3 _ _ h)
-- BenchTimesModel.cycle
theorem dX11_cycle_0 : di cX11_cycle 0 (.aload_n 0) 1 1 := ⟨by decide +kernel, rfl⟩
theorem dX11_cycle_1 : di cX11_cycle 1 (.iload_n 1) 1 2 := ⟨by decide +kernel, rfl⟩
theorem dX11_cycle_2 : di cX11_cycle 2 (.invokevirtual 141) 3 5 := ⟨by decide +kernel, rfl⟩
theorem dX11_cycle_5 : dj cX11_cycle 5 (.ifCond .eq) 8 36 := ⟨31, by decide +kernel, rfl, rfl⟩
theorem dX11_cycle_8 : di cX11_cycle 8 (.iload_n 2) 1 9 := ⟨by decide +kernel, rfl⟩
theorem dX11_cycle_9 : di cX11_cycle 9 (.iconst 0) 1 10 := ⟨by decide +kernel, rfl⟩
theorem dX11_cycle_10 : di cX11_cycle 10 (.iconst 3) 1 11 := ⟨by decide +kernel, rfl⟩
theorem dX11_cycle_11 : di cX11_cycle 11 (.invokestatic 133) 3 14 := ⟨by decide +kernel, rfl⟩
theorem dX11_cycle_14 : dj cX11_cycle 14 (.ifCond .eq) 17 36 := ⟨22, by decide +kernel, rfl, rfl⟩
theorem dX11_cycle_17 : di cX11_cycle 17 (.iload_n 3) 1 18 := ⟨by decide +kernel, rfl⟩
theorem dX11_cycle_18 : di cX11_cycle 18 (.invokestatic 148) 3 21 := ⟨by decide +kernel, rfl⟩
theorem dX11_cycle_21 : dj cX11_cycle 21 (.ifCond .eq) 24 36 := ⟨15, by decide +kernel, rfl, rfl⟩
theorem dX11_cycle_24 : di cX11_cycle 24 (.iload 4) 2 26 := ⟨by decide +kernel, rfl⟩
theorem dX11_cycle_26 : di cX11_cycle 26 (.iconst 1) 1 27 := ⟨by decide +kernel, rfl⟩
theorem dX11_cycle_27 : di cX11_cycle 27 (.sipush 999) 3 30 := ⟨by decide +kernel, rfl⟩
theorem dX11_cycle_30 : di cX11_cycle 30 (.invokestatic 133) 3 33 := ⟨by decide +kernel, rfl⟩
theorem dX11_cycle_33 : dj cX11_cycle 33 (.ifCond .ne) 36 42 := ⟨9, by decide +kernel, rfl, rfl⟩
theorem dX11_cycle_36 : di cX11_cycle 36 (.aload_n 0) 1 37 := ⟨by decide +kernel, rfl⟩
theorem dX11_cycle_37 : di cX11_cycle 37 (.iconst 1) 1 38 := ⟨by decide +kernel, rfl⟩
theorem dX11_cycle_38 : di cX11_cycle 38 (.invokevirtual 137) 3 41 := ⟨by decide +kernel, rfl⟩
theorem dX11_cycle_41 : di cX11_cycle 41 (.ireturn) 1 42 := ⟨by decide +kernel, rfl⟩
theorem dX11_cycle_42 : di cX11_cycle 42 (.aload_n 0) 1 43 := ⟨by decide +kernel, rfl⟩
theorem dX11_cycle_43 : di cX11_cycle 43 (.getfield 157) 3 46 := ⟨by decide +kernel, rfl⟩
theorem dX11_cycle_46 : di cX11_cycle 46 (.bipush 60) 2 48 := ⟨by decide +kernel, rfl⟩
theorem dX11_cycle_48 : dj cX11_cycle 48 (.if_icmp .ne) 51 57 := ⟨9, by decide +kernel, rfl, rfl⟩
theorem dX11_cycle_51 : di cX11_cycle 51 (.aload_n 0) 1 52 := ⟨by decide +kernel, rfl⟩
theorem dX11_cycle_52 : di cX11_cycle 52 (.iconst 4) 1 53 := ⟨by decide +kernel, rfl⟩
theorem dX11_cycle_53 : di cX11_cycle 53 (.invokevirtual 137) 3 56 := ⟨by decide +kernel, rfl⟩
theorem dX11_cycle_56 : di cX11_cycle 56 (.ireturn) 1 57 := ⟨by decide +kernel, rfl⟩
theorem dX11_cycle_57 : di cX11_cycle 57 (.aload_n 0) 1 58 := ⟨by decide +kernel, rfl⟩
theorem dX11_cycle_58 : di cX11_cycle 58 (.getfield 26) 3 61 := ⟨by decide +kernel, rfl⟩
theorem dX11_cycle_61 : di cX11_cycle 61 (.aload_n 0) 1 62 := ⟨by decide +kernel, rfl⟩
theorem dX11_cycle_62 : di cX11_cycle 62 (.getfield 157) 3 65 := ⟨by decide +kernel, rfl⟩
theorem dX11_cycle_65 : di cX11_cycle 65 (.iload_n 1) 1 66 := ⟨by decide +kernel, rfl⟩
theorem dX11_cycle_66 : di cX11_cycle 66 (.iastore) 1 67 := ⟨by decide +kernel, rfl⟩
theorem dX11_cycle_67 : di cX11_cycle 67 (.aload_n 0) 1 68 := ⟨by decide +kernel, rfl⟩
theorem dX11_cycle_68 : di cX11_cycle 68 (.getfield 29) 3 71 := ⟨by decide +kernel, rfl⟩
theorem dX11_cycle_71 : di cX11_cycle 71 (.aload_n 0) 1 72 := ⟨by decide +kernel, rfl⟩
theorem dX11_cycle_72 : di cX11_cycle 72 (.getfield 157) 3 75 := ⟨by decide +kernel, rfl⟩
theorem dX11_cycle_75 : di cX11_cycle 75 (.iload_n 2) 1 76 := ⟨by decide +kernel, rfl⟩
theorem dX11_cycle_76 : di cX11_cycle 76 (.iastore) 1 77 := ⟨by decide +kernel, rfl⟩
theorem dX11_cycle_77 : di cX11_cycle 77 (.aload_n 0) 1 78 := ⟨by decide +kernel, rfl⟩
theorem dX11_cycle_78 : di cX11_cycle 78 (.getfield 32) 3 81 := ⟨by decide +kernel, rfl⟩
theorem dX11_cycle_81 : di cX11_cycle 81 (.aload_n 0) 1 82 := ⟨by decide +kernel, rfl⟩
theorem dX11_cycle_82 : di cX11_cycle 82 (.getfield 157) 3 85 := ⟨by decide +kernel, rfl⟩
theorem dX11_cycle_85 : di cX11_cycle 85 (.iload_n 3) 1 86 := ⟨by decide +kernel, rfl⟩
theorem dX11_cycle_86 : di cX11_cycle 86 (.iastore) 1 87 := ⟨by decide +kernel, rfl⟩
theorem dX11_cycle_87 : di cX11_cycle 87 (.aload_n 0) 1 88 := ⟨by decide +kernel, rfl⟩
theorem dX11_cycle_88 : di cX11_cycle 88 (.getfield 35) 3 91 := ⟨by decide +kernel, rfl⟩
theorem dX11_cycle_91 : di cX11_cycle 91 (.aload_n 0) 1 92 := ⟨by decide +kernel, rfl⟩
theorem dX11_cycle_92 : di cX11_cycle 92 (.getfield 157) 3 95 := ⟨by decide +kernel, rfl⟩
theorem dX11_cycle_95 : di cX11_cycle 95 (.iload 4) 2 97 := ⟨by decide +kernel, rfl⟩
theorem dX11_cycle_97 : di cX11_cycle 97 (.iastore) 1 98 := ⟨by decide +kernel, rfl⟩
theorem dX11_cycle_98 : di cX11_cycle 98 (.aload_n 0) 1 99 := ⟨by decide +kernel, rfl⟩
theorem dX11_cycle_99 : di cX11_cycle 99 (.dup) 1 100 := ⟨by decide +kernel, rfl⟩
theorem dX11_cycle_100 : di cX11_cycle 100 (.getfield 157) 3 103 := ⟨by decide +kernel, rfl⟩
theorem dX11_cycle_103 : di cX11_cycle 103 (.iconst 1) 1 104 := ⟨by decide +kernel, rfl⟩
theorem dX11_cycle_104 : di cX11_cycle 104 (.iadd) 1 105 := ⟨by decide +kernel, rfl⟩
theorem dX11_cycle_105 : di cX11_cycle 105 (.putfield 157) 3 108 := ⟨by decide +kernel, rfl⟩
theorem dX11_cycle_108 : di cX11_cycle 108 (.aload_n 0) 1 109 := ⟨by decide +kernel, rfl⟩
theorem dX11_cycle_109 : di cX11_cycle 109 (.getfield 157) 3 112 := ⟨by decide +kernel, rfl⟩
theorem dX11_cycle_112 : di cX11_cycle 112 (.ireturn) 1 113 := ⟨by decide +kernel, rfl⟩
def f_X11_cycle (v1 : Int32) (v2 : Int32) (v3 : Int32) (v4 : Int32) (M : Mem) : Option Ret := bE (f_X11_isElement v1 M) (fun r2 M1 => if r2 = 0 then (bE (f_X11_finding (1 : Int32) M1) (fun r4 M3 => some (r4, M3))) else (bE (f_X11_isIn v2 (0 : Int32) (3 : Int32) M1) (fun r6 M5 => if r6 = 0 then (bE (f_X11_finding (1 : Int32) M5) (fun r8 M7 => some (r8, M7))) else (bE (f_X11_isPace v3 M5) (fun r10 M9 => if r10 = 0 then (bE (f_X11_finding (1 : Int32) M9) (fun r12 M11 => some (r12, M11))) else (bE (f_X11_isIn v4 (1 : Int32) (999 : Int32) M9) (fun r14 M13 => if r14 = 0 then (bE (f_X11_finding (1 : Int32) M13) (fun r23 M22 => some (r23, M22))) else (if (M13.1 11 7) = (60 : Int32) then (bE (f_X11_finding (4 : Int32) M13) (fun r21 M20 => some (r21, M20))) else (gV (M13.1 11 7) 60 (bM (up2 M13 69 (M13.1 11 7).toNatClampNeg v1) (fun M15 => gV (M15.1 11 7) 60 (bM (up2 M15 70 (M15.1 11 7).toNatClampNeg v2) (fun M16 => gV (M16.1 11 7) 60 (bM (up2 M16 71 (M16.1 11 7).toNatClampNeg v3) (fun M17 => gV (M17.1 11 7) 60 (bM (up2 M17 72 (M17.1 11 7).toNatClampNeg v4) (fun M18 => bM (up2 M18 11 7 ((M18.1 11 7) + (1 : Int32))) (fun M19 => some (M19.1 11 7, M19)))))))))))))))))))
set_option maxRecDepth 100000 in
theorem ok_X11_cycle {l : Launch} {g : Cx} {v1 : Int32} {v2 : Int32} {v3 : Int32} {v4 : Int32} {M : Mem} {r : Int32} {Mr : Mem} (h : f_X11_cycle v1 v2 v3 v4 M = some (r, Mr)) : CT l g yX11_cycle cX11_cycle 5 (some .int) 2 42 [.ref (g.1 11), .int v1, .int v2, .int v3, .int v4] M (PI r Mr) := by
  refine CT_of (lv := [some (.ref (g.1 11)), some (.int v1), some (.int v2), some (.int v3), some (.int v4)]) (by decide) rfl (Nat.le_of_ble_eq_true rfl) ?_
  unfold f_X11_cycle at h
  refine A_aload_n dX11_cycle_0 rfl ?_
  refine A_iload_n dX11_cycle_1 rfl ?_
  obtain ⟨r2, M1, h1, h⟩ := bE_go h
  refine A_cVi1 dX11_cycle_2 ml_X11_141 mb_X11_isElement mi_X11_isElement ob11 rfl rfl ⟨Nat.le_of_ble_eq_true rfl, Nat.le_of_ble_eq_true rfl⟩ (Nat.le_of_ble_eq_true rfl) (ok_X11_isElement h1) ?_
  refine A_if_eq dX11_cycle_5 (fun hc => ?_) (fun hc => ?_)
  · have h := gT_go hc h
    refine A_aload_n dX11_cycle_36 rfl ?_
    refine A_iconst (v := 1) dX11_cycle_37 (by decide) ?_
    obtain ⟨r4, M3, h1, h⟩ := bE_go h
    refine A_cVi1 dX11_cycle_38 ml_X11_137 mb_X11_finding mi_X11_finding ob11 rfl rfl ⟨Nat.le_of_ble_eq_true rfl, Nat.le_of_ble_eq_true rfl⟩ (Nat.le_of_ble_eq_true rfl) (ok_X11_finding h1) ?_
    exact A_iret dX11_cycle_41 (pI_go h)
  · have h := gF_go hc h
    refine A_iload_n dX11_cycle_8 rfl ?_
    refine A_iconst (v := 0) dX11_cycle_9 (by decide) ?_
    refine A_iconst (v := 3) dX11_cycle_10 (by decide) ?_
    obtain ⟨r6, M5, h1, h⟩ := bE_go h
    refine A_cSi3 dX11_cycle_11 ml_X11_133 mb_X11_isIn ms_X11_isIn ⟨Nat.le_of_ble_eq_true rfl, Nat.le_of_ble_eq_true rfl⟩ (Nat.le_of_ble_eq_true rfl) (ok_X11_isIn h1) ?_
    refine A_if_eq dX11_cycle_14 (fun hc => ?_) (fun hc => ?_)
    · have h := gT_go hc h
      refine A_aload_n dX11_cycle_36 rfl ?_
      refine A_iconst (v := 1) dX11_cycle_37 (by decide) ?_
      obtain ⟨r8, M7, h1, h⟩ := bE_go h
      refine A_cVi1 dX11_cycle_38 ml_X11_137 mb_X11_finding mi_X11_finding ob11 rfl rfl ⟨Nat.le_of_ble_eq_true rfl, Nat.le_of_ble_eq_true rfl⟩ (Nat.le_of_ble_eq_true rfl) (ok_X11_finding h1) ?_
      exact A_iret dX11_cycle_41 (pI_go h)
    · have h := gF_go hc h
      refine A_iload_n dX11_cycle_17 rfl ?_
      obtain ⟨r10, M9, h1, h⟩ := bE_go h
      refine A_cSi1 dX11_cycle_18 ml_X11_148 mb_X11_isPace ms_X11_isPace ⟨Nat.le_of_ble_eq_true rfl, Nat.le_of_ble_eq_true rfl⟩ (Nat.le_of_ble_eq_true rfl) (ok_X11_isPace h1) ?_
      refine A_if_eq dX11_cycle_21 (fun hc => ?_) (fun hc => ?_)
      · have h := gT_go hc h
        refine A_aload_n dX11_cycle_36 rfl ?_
        refine A_iconst (v := 1) dX11_cycle_37 (by decide) ?_
        obtain ⟨r12, M11, h1, h⟩ := bE_go h
        refine A_cVi1 dX11_cycle_38 ml_X11_137 mb_X11_finding mi_X11_finding ob11 rfl rfl ⟨Nat.le_of_ble_eq_true rfl, Nat.le_of_ble_eq_true rfl⟩ (Nat.le_of_ble_eq_true rfl) (ok_X11_finding h1) ?_
        exact A_iret dX11_cycle_41 (pI_go h)
      · have h := gF_go hc h
        refine A_iload dX11_cycle_24 rfl ?_
        refine A_iconst (v := 1) dX11_cycle_26 (by decide) ?_
        refine A_sipush (v := 999) dX11_cycle_27 (by decide) ?_
        obtain ⟨r14, M13, h1, h⟩ := bE_go h
        refine A_cSi3 dX11_cycle_30 ml_X11_133 mb_X11_isIn ms_X11_isIn ⟨Nat.le_of_ble_eq_true rfl, Nat.le_of_ble_eq_true rfl⟩ (Nat.le_of_ble_eq_true rfl) (ok_X11_isIn h1) ?_
        refine A_if_ne dX11_cycle_33 (fun hc => ?_) (fun hc => ?_)
        · have h := gF_go hc h
          refine A_aload_n dX11_cycle_42 rfl ?_
          refine A_getf dX11_cycle_43 fw_X11_157 ob11 rfl ?_
          refine A_bipush (v := 60) dX11_cycle_46 (by decide) ?_
          refine A_icmp_ne dX11_cycle_48 (fun hc => ?_) (fun hc => ?_)
          · have h := gF_go hc h
            refine A_aload_n dX11_cycle_57 rfl ?_
            refine A_getf dX11_cycle_58 fw_X11_26 ob11 rfl ?_
            refine A_aload_n dX11_cycle_61 rfl ?_
            refine A_getf dX11_cycle_62 fw_X11_157 ob11 rfl ?_
            refine A_iload_n dX11_cycle_65 rfl ?_
            obtain ⟨hg, h⟩ := gV_go h
            refine A_iast dX11_cycle_66 ia69 hg (bM_go h (fun M15 h => ?_))
            refine A_aload_n dX11_cycle_67 rfl ?_
            refine A_getf dX11_cycle_68 fw_X11_29 ob11 rfl ?_
            refine A_aload_n dX11_cycle_71 rfl ?_
            refine A_getf dX11_cycle_72 fw_X11_157 ob11 rfl ?_
            refine A_iload_n dX11_cycle_75 rfl ?_
            obtain ⟨hg, h⟩ := gV_go h
            refine A_iast dX11_cycle_76 ia70 hg (bM_go h (fun M16 h => ?_))
            refine A_aload_n dX11_cycle_77 rfl ?_
            refine A_getf dX11_cycle_78 fw_X11_32 ob11 rfl ?_
            refine A_aload_n dX11_cycle_81 rfl ?_
            refine A_getf dX11_cycle_82 fw_X11_157 ob11 rfl ?_
            refine A_iload_n dX11_cycle_85 rfl ?_
            obtain ⟨hg, h⟩ := gV_go h
            refine A_iast dX11_cycle_86 ia71 hg (bM_go h (fun M17 h => ?_))
            refine A_aload_n dX11_cycle_87 rfl ?_
            refine A_getf dX11_cycle_88 fw_X11_35 ob11 rfl ?_
            refine A_aload_n dX11_cycle_91 rfl ?_
            refine A_getf dX11_cycle_92 fw_X11_157 ob11 rfl ?_
            refine A_iload dX11_cycle_95 rfl ?_
            obtain ⟨hg, h⟩ := gV_go h
            refine A_iast dX11_cycle_97 ia72 hg (bM_go h (fun M18 h => ?_))
            refine A_aload_n dX11_cycle_98 rfl ?_
            refine A_dup dX11_cycle_99 rfl ?_
            refine A_getf dX11_cycle_100 fw_X11_157 ob11 rfl ?_
            refine A_iconst (v := 1) dX11_cycle_103 (by decide) ?_
            refine A_iadd dX11_cycle_104 ?_
            refine A_putf dX11_cycle_105 pw_X11_157 ob11 pf11_7 (Nat.le_of_ble_eq_true rfl) (bM_go h (fun M19 h => ?_))
            refine A_aload_n dX11_cycle_108 rfl ?_
            refine A_getf dX11_cycle_109 fw_X11_157 ob11 rfl ?_
            exact A_iret dX11_cycle_112 (pI_go h)
          · have h := gT_go hc h
            refine A_aload_n dX11_cycle_51 rfl ?_
            refine A_iconst (v := 4) dX11_cycle_52 (by decide) ?_
            obtain ⟨r21, M20, h1, h⟩ := bE_go h
            refine A_cVi1 dX11_cycle_53 ml_X11_137 mb_X11_finding mi_X11_finding ob11 rfl rfl ⟨Nat.le_of_ble_eq_true rfl, Nat.le_of_ble_eq_true rfl⟩ (Nat.le_of_ble_eq_true rfl) (ok_X11_finding h1) ?_
            exact A_iret dX11_cycle_56 (pI_go h)
        · have h := gT_go hc h
          refine A_aload_n dX11_cycle_36 rfl ?_
          refine A_iconst (v := 1) dX11_cycle_37 (by decide) ?_
          obtain ⟨r23, M22, h1, h⟩ := bE_go h
          refine A_cVi1 dX11_cycle_38 ml_X11_137 mb_X11_finding mi_X11_finding ob11 rfl rfl ⟨Nat.le_of_ble_eq_true rfl, Nat.le_of_ble_eq_true rfl⟩ (Nat.le_of_ble_eq_true rfl) (ok_X11_finding h1) ?_
          exact A_iret dX11_cycle_41 (pI_go h)
-- BenchTimesModel.normalOf
theorem dX11_normalOf_0 : di cX11_normalOf 0 (.aload_n 0) 1 1 := ⟨by decide +kernel, rfl⟩
theorem dX11_normalOf_1 : di cX11_normalOf 1 (.getfield 32) 3 4 := ⟨by decide +kernel, rfl⟩
theorem dX11_normalOf_4 : di cX11_normalOf 4 (.iload_n 1) 1 5 := ⟨by decide +kernel, rfl⟩
theorem dX11_normalOf_5 : di cX11_normalOf 5 (.iaload) 1 6 := ⟨by decide +kernel, rfl⟩
theorem dX11_normalOf_6 : di cX11_normalOf 6 (.aload_n 0) 1 7 := ⟨by decide +kernel, rfl⟩
theorem dX11_normalOf_7 : di cX11_normalOf 7 (.aload_n 0) 1 8 := ⟨by decide +kernel, rfl⟩
theorem dX11_normalOf_8 : di cX11_normalOf 8 (.getfield 29) 3 11 := ⟨by decide +kernel, rfl⟩
theorem dX11_normalOf_11 : di cX11_normalOf 11 (.iload_n 1) 1 12 := ⟨by decide +kernel, rfl⟩
theorem dX11_normalOf_12 : di cX11_normalOf 12 (.iaload) 1 13 := ⟨by decide +kernel, rfl⟩
theorem dX11_normalOf_13 : di cX11_normalOf 13 (.invokevirtual 154) 3 16 := ⟨by decide +kernel, rfl⟩
theorem dX11_normalOf_16 : di cX11_normalOf 16 (.isub) 1 17 := ⟨by decide +kernel, rfl⟩
theorem dX11_normalOf_17 : di cX11_normalOf 17 (.istore_n 2) 1 18 := ⟨by decide +kernel, rfl⟩
theorem dX11_normalOf_18 : di cX11_normalOf 18 (.aload_n 0) 1 19 := ⟨by decide +kernel, rfl⟩
theorem dX11_normalOf_19 : di cX11_normalOf 19 (.getfield 35) 3 22 := ⟨by decide +kernel, rfl⟩
theorem dX11_normalOf_22 : di cX11_normalOf 22 (.iload_n 1) 1 23 := ⟨by decide +kernel, rfl⟩
theorem dX11_normalOf_23 : di cX11_normalOf 23 (.iaload) 1 24 := ⟨by decide +kernel, rfl⟩
theorem dX11_normalOf_24 : di cX11_normalOf 24 (.iload_n 2) 1 25 := ⟨by decide +kernel, rfl⟩
theorem dX11_normalOf_25 : di cX11_normalOf 25 (.iconst 1) 1 26 := ⟨by decide +kernel, rfl⟩
theorem dX11_normalOf_26 : dj cX11_normalOf 26 (.if_icmp .ge) 29 33 := ⟨7, by decide +kernel, rfl, rfl⟩
theorem dX11_normalOf_29 : di cX11_normalOf 29 (.iconst 1) 1 30 := ⟨by decide +kernel, rfl⟩
theorem dX11_normalOf_30 : dj cX11_normalOf 30 .goto 33 34 := ⟨4, by decide +kernel, rfl, rfl⟩
theorem dX11_normalOf_33 : di cX11_normalOf 33 (.iload_n 2) 1 34 := ⟨by decide +kernel, rfl⟩
theorem dX11_normalOf_34 : di cX11_normalOf 34 (.imul) 1 35 := ⟨by decide +kernel, rfl⟩
theorem dX11_normalOf_35 : di cX11_normalOf 35 (.bipush 100) 2 37 := ⟨by decide +kernel, rfl⟩
theorem dX11_normalOf_37 : di cX11_normalOf 37 (.idiv) 1 38 := ⟨by decide +kernel, rfl⟩
theorem dX11_normalOf_38 : di cX11_normalOf 38 (.ireturn) 1 39 := ⟨by decide +kernel, rfl⟩
def f_X11_normalOf (v1 : Int32) (M : Mem) : Option Ret := gV v1 60 (gV v1 60 (bE (f_X11_habitOf (M.1 70 v1.toNatClampNeg) M) (fun r2 M1 => bI ((M.1 71 v1.toNatClampNeg) - r2) (fun x3 => gV v1 60 (jn (α := Int32 → Option Ret) (fun (z5 : Int32) => some (((M1.1 72 v1.toNatClampNeg) * z5) / (100 : Int32), M1)) (fun J4 => if (1 : Int32) ≤ x3 then (J4 x3) else (J4 (1 : Int32))))))))
set_option maxRecDepth 100000 in
theorem ok_X11_normalOf {l : Launch} {g : Cx} {v1 : Int32} {M : Mem} {r : Int32} {Mr : Mem} (h : f_X11_normalOf v1 M = some (r, Mr)) : CT l g yX11_normalOf cX11_normalOf 3 (some .int) 1 24 [.ref (g.1 11), .int v1] M (PI r Mr) := by
  refine CT_of (lv := [some (.ref (g.1 11)), some (.int v1), none]) (by decide) rfl (Nat.le_of_ble_eq_true rfl) ?_
  unfold f_X11_normalOf at h
  refine A_aload_n dX11_normalOf_0 rfl ?_
  refine A_getf dX11_normalOf_1 fw_X11_32 ob11 rfl ?_
  refine A_iload_n dX11_normalOf_4 rfl ?_
  obtain ⟨hg, h⟩ := gV_go h
  refine A_iald dX11_normalOf_5 ia71 hg ?_
  refine A_aload_n dX11_normalOf_6 rfl ?_
  refine A_aload_n dX11_normalOf_7 rfl ?_
  refine A_getf dX11_normalOf_8 fw_X11_29 ob11 rfl ?_
  refine A_iload_n dX11_normalOf_11 rfl ?_
  obtain ⟨hg, h⟩ := gV_go h
  refine A_iald dX11_normalOf_12 ia70 hg ?_
  obtain ⟨r2, M1, h1, h⟩ := bE_go h
  refine A_cVi1 dX11_normalOf_13 ml_X11_154 mb_X11_habitOf mi_X11_habitOf ob11 rfl rfl ⟨Nat.le_of_ble_eq_true rfl, Nat.le_of_ble_eq_true rfl⟩ (Nat.le_of_ble_eq_true rfl) (ok_X11_habitOf h1) ?_
  refine A_isub dX11_normalOf_16 ?_
  refine A_istoren2 dX11_normalOf_17 (by decide) rfl (bI_go h (G := fun z => AT l g RX11 cX11_normalOf 3 (some .int) (rmM 1 24) (PI r Mr) 18 [some (.ref (g.1 11)), some (.int v1), some (.int z)] [] M1) (fun x3 h => ?_))
  refine A_aload_n dX11_normalOf_18 rfl ?_
  refine A_getf dX11_normalOf_19 fw_X11_35 ob11 rfl ?_
  refine A_iload_n dX11_normalOf_22 rfl ?_
  obtain ⟨hg, h⟩ := gV_go h
  refine A_iald dX11_normalOf_23 ia72 hg ?_
  refine A_iload_n dX11_normalOf_24 rfl ?_
  refine A_iconst (v := 1) dX11_normalOf_25 (by decide) ?_
  obtain ⟨J4, hJ4, h⟩ := jn_go h
  have JJ4 : ∀ (z5 : Int32), J4 z5 = some (r, Mr) → AT l g RX11 cX11_normalOf 3 (some .int) (rmM 1 24) (PI r Mr) 34 [some (.ref (g.1 11)), some (.int v1), some (.int x3)] [.int z5, .int (M1.1 72 v1.toNatClampNeg)] M1 := by
    intro z5 h
    rw [hJ4] at h
    refine A_imul dX11_normalOf_34 ?_
    refine A_bipush (v := 100) dX11_normalOf_35 (by decide) ?_
    refine A_idiv dX11_normalOf_37 (by decide) ?_
    exact A_iret dX11_normalOf_38 (pI_go h)
  refine A_icmp_ge dX11_normalOf_26 (fun hc => ?_) (fun hc => ?_)
  · have h := gT_go hc h
    refine A_iload_n dX11_normalOf_33 rfl ?_
    exact A_le (lvLe_s (lvLe_s (lvLe_s lvLe_0))) (JJ4 _ h)
  · have h := gF_go hc h
    refine A_iconst (v := 1) dX11_normalOf_29 (by decide) ?_
    refine A_goto dX11_normalOf_30 ?_
    exact A_le (lvLe_s (lvLe_s (lvLe_s lvLe_0))) (JJ4 _ h)
-- BenchTimesModel.normal
theorem dX11_normal_0 : di cX11_normal 0 (.iload_n 1) 1 1 := ⟨by decide +kernel, rfl⟩
theorem dX11_normal_1 : dj cX11_normal 1 (.ifCond .lt) 4 20 := ⟨19, by decide +kernel, rfl, rfl⟩
theorem dX11_normal_4 : di cX11_normal 4 (.iload_n 1) 1 5 := ⟨by decide +kernel, rfl⟩
theorem dX11_normal_5 : di cX11_normal 5 (.aload_n 0) 1 6 := ⟨by decide +kernel, rfl⟩
theorem dX11_normal_6 : di cX11_normal 6 (.getfield 157) 3 9 := ⟨by decide +kernel, rfl⟩
theorem dX11_normal_9 : dj cX11_normal 9 (.if_icmp .ge) 12 20 := ⟨11, by decide +kernel, rfl, rfl⟩
theorem dX11_normal_12 : di cX11_normal 12 (.aload_n 0) 1 13 := ⟨by decide +kernel, rfl⟩
theorem dX11_normal_13 : di cX11_normal 13 (.iload_n 1) 1 14 := ⟨by decide +kernel, rfl⟩
theorem dX11_normal_14 : di cX11_normal 14 (.invokevirtual 160) 3 17 := ⟨by decide +kernel, rfl⟩
theorem dX11_normal_17 : dj cX11_normal 17 .goto 20 25 := ⟨8, by decide +kernel, rfl, rfl⟩
theorem dX11_normal_20 : di cX11_normal 20 (.aload_n 0) 1 21 := ⟨by decide +kernel, rfl⟩
theorem dX11_normal_21 : di cX11_normal 21 (.iconst 1) 1 22 := ⟨by decide +kernel, rfl⟩
theorem dX11_normal_22 : di cX11_normal 22 (.invokevirtual 137) 3 25 := ⟨by decide +kernel, rfl⟩
theorem dX11_normal_25 : di cX11_normal 25 (.ireturn) 1 26 := ⟨by decide +kernel, rfl⟩
def f_X11_normal (v1 : Int32) (M : Mem) : Option Ret := jn (α := Int32 → Mem → Option Ret) (fun (z2 : Int32) (M3 : Mem) => some (z2, M3)) (fun J1 => if v1 < 0 then (bE (f_X11_finding (1 : Int32) M) (fun r5 M4 => J1 r5 M4)) else (if (M.1 11 7) ≤ v1 then (bE (f_X11_finding (1 : Int32) M) (fun r7 M6 => J1 r7 M6)) else (bE (f_X11_normalOf v1 M) (fun r9 M8 => J1 r9 M8))))
set_option maxRecDepth 100000 in
theorem ok_X11_normal {l : Launch} {g : Cx} {v1 : Int32} {M : Mem} {r : Int32} {Mr : Mem} (h : f_X11_normal v1 M = some (r, Mr)) : CT l g yX11_normal cX11_normal 2 (some .int) 2 46 [.ref (g.1 11), .int v1] M (PI r Mr) := by
  refine CT_of (lv := [some (.ref (g.1 11)), some (.int v1)]) (by decide) rfl (Nat.le_of_ble_eq_true rfl) ?_
  unfold f_X11_normal at h
  refine A_iload_n dX11_normal_0 rfl ?_
  obtain ⟨J1, hJ1, h⟩ := jn_go h
  have JJ1 : ∀ (z2 : Int32) (M3 : Mem), J1 z2 M3 = some (r, Mr) → AT l g RX11 cX11_normal 2 (some .int) (rmM 2 46) (PI r Mr) 25 [some (.ref (g.1 11)), some (.int v1)] [.int z2] M3 := by
    intro z2 M3 h
    rw [hJ1] at h
    exact A_iret dX11_normal_25 (pI_go h)
  refine A_if_lt dX11_normal_1 (fun hc => ?_) (fun hc => ?_)
  · have h := gT_go hc h
    refine A_aload_n dX11_normal_20 rfl ?_
    refine A_iconst (v := 1) dX11_normal_21 (by decide) ?_
    obtain ⟨r5, M4, h1, h⟩ := bE_go h
    refine A_cVi1 dX11_normal_22 ml_X11_137 mb_X11_finding mi_X11_finding ob11 rfl rfl ⟨Nat.le_of_ble_eq_true rfl, Nat.le_of_ble_eq_true rfl⟩ (Nat.le_of_ble_eq_true rfl) (ok_X11_finding h1) ?_
    exact A_le (lvLe_s (lvLe_s lvLe_0)) (JJ1 _ _ h)
  · have h := gF_go hc h
    refine A_iload_n dX11_normal_4 rfl ?_
    refine A_aload_n dX11_normal_5 rfl ?_
    refine A_getf dX11_normal_6 fw_X11_157 ob11 rfl ?_
    refine A_icmp_ge dX11_normal_9 (fun hc => ?_) (fun hc => ?_)
    · have h := gT_go hc h
      refine A_aload_n dX11_normal_20 rfl ?_
      refine A_iconst (v := 1) dX11_normal_21 (by decide) ?_
      obtain ⟨r7, M6, h1, h⟩ := bE_go h
      refine A_cVi1 dX11_normal_22 ml_X11_137 mb_X11_finding mi_X11_finding ob11 rfl rfl ⟨Nat.le_of_ble_eq_true rfl, Nat.le_of_ble_eq_true rfl⟩ (Nat.le_of_ble_eq_true rfl) (ok_X11_finding h1) ?_
      exact A_le (lvLe_s (lvLe_s lvLe_0)) (JJ1 _ _ h)
    · have h := gF_go hc h
      refine A_aload_n dX11_normal_12 rfl ?_
      refine A_iload_n dX11_normal_13 rfl ?_
      obtain ⟨r9, M8, h1, h⟩ := bE_go h
      refine A_cVi1 dX11_normal_14 ml_X11_160 mb_X11_normalOf mi_X11_normalOf ob11 rfl rfl ⟨Nat.le_of_ble_eq_true rfl, Nat.le_of_ble_eq_true rfl⟩ (Nat.le_of_ble_eq_true rfl) (ok_X11_normalOf h1) ?_
      refine A_goto dX11_normal_17 ?_
      exact A_le (lvLe_s (lvLe_s lvLe_0)) (JJ1 _ _ h)
-- BenchTimesModel.cyclesOf
theorem dX11_cyclesOf_0 : di cX11_cyclesOf 0 (.iconst 0) 1 1 := ⟨by decide +kernel, rfl⟩
theorem dX11_cyclesOf_1 : di cX11_cyclesOf 1 (.istore_n 2) 1 2 := ⟨by decide +kernel, rfl⟩
theorem dX11_cyclesOf_2 : di cX11_cyclesOf 2 (.iconst 0) 1 3 := ⟨by decide +kernel, rfl⟩
theorem dX11_cyclesOf_3 : di cX11_cyclesOf 3 (.istore_n 3) 1 4 := ⟨by decide +kernel, rfl⟩
theorem dX11_cyclesOf_4 : di cX11_cyclesOf 4 (.iload_n 3) 1 5 := ⟨by decide +kernel, rfl⟩
theorem dX11_cyclesOf_5 : di cX11_cyclesOf 5 (.aload_n 0) 1 6 := ⟨by decide +kernel, rfl⟩
theorem dX11_cyclesOf_6 : di cX11_cyclesOf 6 (.getfield 157) 3 9 := ⟨by decide +kernel, rfl⟩
theorem dX11_cyclesOf_9 : dj cX11_cyclesOf 9 (.if_icmp .ge) 12 36 := ⟨27, by decide +kernel, rfl, rfl⟩
theorem dX11_cyclesOf_12 : di cX11_cyclesOf 12 (.iload_n 2) 1 13 := ⟨by decide +kernel, rfl⟩
theorem dX11_cyclesOf_13 : di cX11_cyclesOf 13 (.aload_n 0) 1 14 := ⟨by decide +kernel, rfl⟩
theorem dX11_cyclesOf_14 : di cX11_cyclesOf 14 (.getfield 26) 3 17 := ⟨by decide +kernel, rfl⟩
theorem dX11_cyclesOf_17 : di cX11_cyclesOf 17 (.iload_n 3) 1 18 := ⟨by decide +kernel, rfl⟩
theorem dX11_cyclesOf_18 : di cX11_cyclesOf 18 (.iaload) 1 19 := ⟨by decide +kernel, rfl⟩
theorem dX11_cyclesOf_19 : di cX11_cyclesOf 19 (.iload_n 1) 1 20 := ⟨by decide +kernel, rfl⟩
theorem dX11_cyclesOf_20 : dj cX11_cyclesOf 20 (.if_icmp .ne) 23 27 := ⟨7, by decide +kernel, rfl, rfl⟩
theorem dX11_cyclesOf_23 : di cX11_cyclesOf 23 (.iconst 1) 1 24 := ⟨by decide +kernel, rfl⟩
theorem dX11_cyclesOf_24 : dj cX11_cyclesOf 24 .goto 27 28 := ⟨4, by decide +kernel, rfl, rfl⟩
theorem dX11_cyclesOf_27 : di cX11_cyclesOf 27 (.iconst 0) 1 28 := ⟨by decide +kernel, rfl⟩
theorem dX11_cyclesOf_28 : di cX11_cyclesOf 28 (.iadd) 1 29 := ⟨by decide +kernel, rfl⟩
theorem dX11_cyclesOf_29 : di cX11_cyclesOf 29 (.istore_n 2) 1 30 := ⟨by decide +kernel, rfl⟩
theorem dX11_cyclesOf_30 : di cX11_cyclesOf 30 (.iinc 3 1) 3 33 := ⟨by decide +kernel, rfl⟩
theorem dX11_cyclesOf_33 : dj cX11_cyclesOf 33 .goto 36 4 := ⟨-29, by decide +kernel, rfl, rfl⟩
theorem dX11_cyclesOf_36 : di cX11_cyclesOf 36 (.iload_n 2) 1 37 := ⟨by decide +kernel, rfl⟩
theorem dX11_cyclesOf_37 : di cX11_cyclesOf 37 (.ireturn) 1 38 := ⟨by decide +kernel, rfl⟩
def f_X11_cyclesOf_L4 (v1 : Int32) : Nat → Int32 → Int32 → Mem → (Int32 → Int32 → Mem → Option Ret) → Option Ret
  | 0, _, _, _, _ => none
  | k4 + 1, v2, v3, M, K4 => if (M.1 11 7) ≤ v3 then (K4 v2 v3 M) else (gV v3 60 (jn (α := Int32 → Option Ret) (fun (z2 : Int32) => bI (v2 + z2) (fun x3 => f_X11_cyclesOf_L4 v1 k4 x3 (v3 + (1 : Int32)) M K4)) (fun J1 => if (M.1 69 v3.toNatClampNeg) = v1 then (J1 (1 : Int32)) else (J1 (0 : Int32)))))
set_option maxRecDepth 100000 in
theorem f_X11_cyclesOf_L4_ok {l : Launch} {g : Cx} (v1 : Int32) {r : Int32} {Mr : Mem} : ∀ (k : Nat) (v2 : Int32) (v3 : Int32) (M : Mem) (K4 : Int32 → Int32 → Mem → Option Ret), f_X11_cyclesOf_L4 v1 k v2 v3 M K4 = some (r, Mr) → (∀ (v2 : Int32) (v3 : Int32) (M : Mem), K4 v2 v3 M = some (r, Mr) → AT l g RX11 cX11_cyclesOf 4 (some .int) (rmM 0 0) (PI r Mr) 36 [some (.ref (g.1 11)), some (.int v1), some (.int v2), some (.int v3)] [] M) → AT l g RX11 cX11_cyclesOf 4 (some .int) (rmM 0 0) (PI r Mr) 4 [some (.ref (g.1 11)), some (.int v1), some (.int v2), some (.int v3)] [] M
  | 0, v2, v3, M, K4, h, hK4 => by cases h
  | k4 + 1, v2, v3, M, K4, h, hK4 => by
    have ih4 := f_X11_cyclesOf_L4_ok (l := l) (g := g) v1 (r := r) (Mr := Mr) k4
    rw [f_X11_cyclesOf_L4] at h
    refine A_iload_n dX11_cyclesOf_4 rfl ?_
    refine A_aload_n dX11_cyclesOf_5 rfl ?_
    refine A_getf dX11_cyclesOf_6 fw_X11_157 ob11 rfl ?_
    refine A_icmp_ge dX11_cyclesOf_9 (fun hc => ?_) (fun hc => ?_)
    · have h := gT_go hc h
      exact A_le (lvLe_s (lvLe_s (lvLe_s (lvLe_s lvLe_0)))) (hK4 _ _ _ h)
    · have h := gF_go hc h
      refine A_iload_n dX11_cyclesOf_12 rfl ?_
      refine A_aload_n dX11_cyclesOf_13 rfl ?_
      refine A_getf dX11_cyclesOf_14 fw_X11_26 ob11 rfl ?_
      refine A_iload_n dX11_cyclesOf_17 rfl ?_
      obtain ⟨hg, h⟩ := gV_go h
      refine A_iald dX11_cyclesOf_18 ia69 hg ?_
      refine A_iload_n dX11_cyclesOf_19 rfl ?_
      obtain ⟨J1, hJ1, h⟩ := jn_go h
      have JJ1 : ∀ (z2 : Int32), J1 z2 = some (r, Mr) → AT l g RX11 cX11_cyclesOf 4 (some .int) (rmM 0 0) (PI r Mr) 28 [some (.ref (g.1 11)), some (.int v1), some (.int v2), some (.int v3)] [.int z2, .int v2] M := by
        intro z2 h
        rw [hJ1] at h
        refine A_iadd dX11_cyclesOf_28 ?_
        refine A_istoren2 dX11_cyclesOf_29 (by decide) rfl (bI_go h (G := fun z => AT l g RX11 cX11_cyclesOf 4 (some .int) (rmM 0 0) (PI r Mr) 30 [some (.ref (g.1 11)), some (.int v1), some (.int z), some (.int v3)] [] M) (fun x3 h => ?_))
        refine A_iinc3 (d := 1) dX11_cyclesOf_30 (by decide) (by decide) rfl ?_
        refine A_goto dX11_cyclesOf_33 ?_
        exact A_le (lvLe_s (lvLe_s (lvLe_s (lvLe_s lvLe_0)))) (ih4 _ _ _ K4 h hK4)
      refine A_icmp_ne dX11_cyclesOf_20 (fun hc => ?_) (fun hc => ?_)
      · have h := gF_go hc h
        refine A_iconst (v := 0) dX11_cyclesOf_27 (by decide) ?_
        exact A_le (lvLe_s (lvLe_s (lvLe_s (lvLe_s lvLe_0)))) (JJ1 _ h)
      · have h := gT_go hc h
        refine A_iconst (v := 1) dX11_cyclesOf_23 (by decide) ?_
        refine A_goto dX11_cyclesOf_24 ?_
        exact A_le (lvLe_s (lvLe_s (lvLe_s (lvLe_s lvLe_0)))) (JJ1 _ h)
def f_X11_cyclesOf (v1 : Int32) (M : Mem) : Option Ret := f_X11_cyclesOf_L4 v1 FU (0 : Int32) (0 : Int32) M (fun w4 w5 M6 => some (w4, M6))
set_option maxRecDepth 100000 in
theorem ok_X11_cyclesOf {l : Launch} {g : Cx} {v1 : Int32} {M : Mem} {r : Int32} {Mr : Mem} (h : f_X11_cyclesOf v1 M = some (r, Mr)) : CT l g yX11_cyclesOf cX11_cyclesOf 4 (some .int) 0 0 [.ref (g.1 11), .int v1] M (PI r Mr) := by
  refine CT_of (lv := [some (.ref (g.1 11)), some (.int v1), none, none]) (by decide) rfl (Nat.le_of_ble_eq_true rfl) ?_
  unfold f_X11_cyclesOf at h
  refine A_iconst (v := 0) dX11_cyclesOf_0 (by decide) ?_
  refine A_istoren2 dX11_cyclesOf_1 (by decide) rfl ?_
  refine A_iconst (v := 0) dX11_cyclesOf_2 (by decide) ?_
  refine A_istoren3 dX11_cyclesOf_3 (by decide) rfl ?_
  refine f_X11_cyclesOf_L4_ok _ FU _ _ _ _ h (fun w4 w5 M6 h => ?_)
  refine A_iload_n dX11_cyclesOf_36 rfl ?_
  exact A_iret dX11_cyclesOf_37 (pI_go h)
-- BenchTimesModel.keptOf
theorem dX11_keptOf_0 : di cX11_keptOf 0 (.iconst 0) 1 1 := ⟨by decide +kernel, rfl⟩
theorem dX11_keptOf_1 : di cX11_keptOf 1 (.istore_n 3) 1 2 := ⟨by decide +kernel, rfl⟩
theorem dX11_keptOf_2 : di cX11_keptOf 2 (.iconst 0) 1 3 := ⟨by decide +kernel, rfl⟩
theorem dX11_keptOf_3 : di cX11_keptOf 3 (.istore 4) 2 5 := ⟨by decide +kernel, rfl⟩
theorem dX11_keptOf_5 : di cX11_keptOf 5 (.iload 4) 2 7 := ⟨by decide +kernel, rfl⟩
theorem dX11_keptOf_7 : di cX11_keptOf 7 (.aload_n 0) 1 8 := ⟨by decide +kernel, rfl⟩
theorem dX11_keptOf_8 : di cX11_keptOf 8 (.getfield 157) 3 11 := ⟨by decide +kernel, rfl⟩
theorem dX11_keptOf_11 : dj cX11_keptOf 11 (.if_icmp .ge) 14 95 := ⟨84, by decide +kernel, rfl, rfl⟩
theorem dX11_keptOf_14 : di cX11_keptOf 14 (.aload_n 0) 1 15 := ⟨by decide +kernel, rfl⟩
theorem dX11_keptOf_15 : di cX11_keptOf 15 (.getfield 26) 3 18 := ⟨by decide +kernel, rfl⟩
theorem dX11_keptOf_18 : di cX11_keptOf 18 (.iload 4) 2 20 := ⟨by decide +kernel, rfl⟩
theorem dX11_keptOf_20 : di cX11_keptOf 20 (.iaload) 1 21 := ⟨by decide +kernel, rfl⟩
theorem dX11_keptOf_21 : di cX11_keptOf 21 (.iload_n 1) 1 22 := ⟨by decide +kernel, rfl⟩
theorem dX11_keptOf_22 : dj cX11_keptOf 22 (.if_icmp .ne) 25 89 := ⟨67, by decide +kernel, rfl, rfl⟩
theorem dX11_keptOf_25 : di cX11_keptOf 25 (.aload_n 0) 1 26 := ⟨by decide +kernel, rfl⟩
theorem dX11_keptOf_26 : di cX11_keptOf 26 (.iload 4) 2 28 := ⟨by decide +kernel, rfl⟩
theorem dX11_keptOf_28 : di cX11_keptOf 28 (.invokevirtual 160) 3 31 := ⟨by decide +kernel, rfl⟩
theorem dX11_keptOf_31 : di cX11_keptOf 31 (.istore 5) 2 33 := ⟨by decide +kernel, rfl⟩
theorem dX11_keptOf_33 : di cX11_keptOf 33 (.iload_n 3) 1 34 := ⟨by decide +kernel, rfl⟩
theorem dX11_keptOf_34 : di cX11_keptOf 34 (.istore 6) 2 36 := ⟨by decide +kernel, rfl⟩
theorem dX11_keptOf_36 : di cX11_keptOf 36 (.iload 6) 2 38 := ⟨by decide +kernel, rfl⟩
theorem dX11_keptOf_38 : dj cX11_keptOf 38 (.ifCond .le) 41 77 := ⟨39, by decide +kernel, rfl, rfl⟩
theorem dX11_keptOf_41 : di cX11_keptOf 41 (.aload_n 0) 1 42 := ⟨by decide +kernel, rfl⟩
theorem dX11_keptOf_42 : di cX11_keptOf 42 (.getfield 108) 3 45 := ⟨by decide +kernel, rfl⟩
theorem dX11_keptOf_45 : di cX11_keptOf 45 (.iload 6) 2 47 := ⟨by decide +kernel, rfl⟩
theorem dX11_keptOf_47 : di cX11_keptOf 47 (.iconst 1) 1 48 := ⟨by decide +kernel, rfl⟩
theorem dX11_keptOf_48 : di cX11_keptOf 48 (.isub) 1 49 := ⟨by decide +kernel, rfl⟩
theorem dX11_keptOf_49 : di cX11_keptOf 49 (.iaload) 1 50 := ⟨by decide +kernel, rfl⟩
theorem dX11_keptOf_50 : di cX11_keptOf 50 (.iload 5) 2 52 := ⟨by decide +kernel, rfl⟩
theorem dX11_keptOf_52 : dj cX11_keptOf 52 (.if_icmp .le) 55 77 := ⟨25, by decide +kernel, rfl, rfl⟩
theorem dX11_keptOf_55 : di cX11_keptOf 55 (.aload_n 0) 1 56 := ⟨by decide +kernel, rfl⟩
theorem dX11_keptOf_56 : di cX11_keptOf 56 (.getfield 108) 3 59 := ⟨by decide +kernel, rfl⟩
theorem dX11_keptOf_59 : di cX11_keptOf 59 (.iload 6) 2 61 := ⟨by decide +kernel, rfl⟩
theorem dX11_keptOf_61 : di cX11_keptOf 61 (.aload_n 0) 1 62 := ⟨by decide +kernel, rfl⟩
theorem dX11_keptOf_62 : di cX11_keptOf 62 (.getfield 108) 3 65 := ⟨by decide +kernel, rfl⟩
theorem dX11_keptOf_65 : di cX11_keptOf 65 (.iload 6) 2 67 := ⟨by decide +kernel, rfl⟩
theorem dX11_keptOf_67 : di cX11_keptOf 67 (.iconst 1) 1 68 := ⟨by decide +kernel, rfl⟩
theorem dX11_keptOf_68 : di cX11_keptOf 68 (.isub) 1 69 := ⟨by decide +kernel, rfl⟩
theorem dX11_keptOf_69 : di cX11_keptOf 69 (.iaload) 1 70 := ⟨by decide +kernel, rfl⟩
theorem dX11_keptOf_70 : di cX11_keptOf 70 (.iastore) 1 71 := ⟨by decide +kernel, rfl⟩
theorem dX11_keptOf_71 : di cX11_keptOf 71 (.iinc 6 (-1)) 3 74 := ⟨by decide +kernel, rfl⟩
theorem dX11_keptOf_74 : dj cX11_keptOf 74 .goto 77 36 := ⟨-38, by decide +kernel, rfl, rfl⟩
theorem dX11_keptOf_77 : di cX11_keptOf 77 (.aload_n 0) 1 78 := ⟨by decide +kernel, rfl⟩
theorem dX11_keptOf_78 : di cX11_keptOf 78 (.getfield 108) 3 81 := ⟨by decide +kernel, rfl⟩
theorem dX11_keptOf_81 : di cX11_keptOf 81 (.iload 6) 2 83 := ⟨by decide +kernel, rfl⟩
theorem dX11_keptOf_83 : di cX11_keptOf 83 (.iload 5) 2 85 := ⟨by decide +kernel, rfl⟩
theorem dX11_keptOf_85 : di cX11_keptOf 85 (.iastore) 1 86 := ⟨by decide +kernel, rfl⟩
theorem dX11_keptOf_86 : di cX11_keptOf 86 (.iinc 3 1) 3 89 := ⟨by decide +kernel, rfl⟩
theorem dX11_keptOf_89 : di cX11_keptOf 89 (.iinc 4 1) 3 92 := ⟨by decide +kernel, rfl⟩
theorem dX11_keptOf_92 : dj cX11_keptOf 92 .goto 95 5 := ⟨-87, by decide +kernel, rfl, rfl⟩
theorem dX11_keptOf_95 : di cX11_keptOf 95 (.aload_n 0) 1 96 := ⟨by decide +kernel, rfl⟩
theorem dX11_keptOf_96 : di cX11_keptOf 96 (.getfield 108) 3 99 := ⟨by decide +kernel, rfl⟩
theorem dX11_keptOf_99 : di cX11_keptOf 99 (.iload_n 3) 1 100 := ⟨by decide +kernel, rfl⟩
theorem dX11_keptOf_100 : di cX11_keptOf 100 (.iconst 1) 1 101 := ⟨by decide +kernel, rfl⟩
theorem dX11_keptOf_101 : di cX11_keptOf 101 (.isub) 1 102 := ⟨by decide +kernel, rfl⟩
theorem dX11_keptOf_102 : di cX11_keptOf 102 (.iconst 2) 1 103 := ⟨by decide +kernel, rfl⟩
theorem dX11_keptOf_103 : di cX11_keptOf 103 (.idiv) 1 104 := ⟨by decide +kernel, rfl⟩
theorem dX11_keptOf_104 : di cX11_keptOf 104 (.iaload) 1 105 := ⟨by decide +kernel, rfl⟩
theorem dX11_keptOf_105 : di cX11_keptOf 105 (.istore 4) 2 107 := ⟨by decide +kernel, rfl⟩
theorem dX11_keptOf_107 : di cX11_keptOf 107 (.iconst 0) 1 108 := ⟨by decide +kernel, rfl⟩
theorem dX11_keptOf_108 : di cX11_keptOf 108 (.istore 5) 2 110 := ⟨by decide +kernel, rfl⟩
theorem dX11_keptOf_110 : di cX11_keptOf 110 (.iconst 0) 1 111 := ⟨by decide +kernel, rfl⟩
theorem dX11_keptOf_111 : di cX11_keptOf 111 (.istore 6) 2 113 := ⟨by decide +kernel, rfl⟩
theorem dX11_keptOf_113 : di cX11_keptOf 113 (.iconst (-1)) 1 114 := ⟨by decide +kernel, rfl⟩
theorem dX11_keptOf_114 : di cX11_keptOf 114 (.istore 7) 2 116 := ⟨by decide +kernel, rfl⟩
theorem dX11_keptOf_116 : di cX11_keptOf 116 (.iconst (-1)) 1 117 := ⟨by decide +kernel, rfl⟩
theorem dX11_keptOf_117 : di cX11_keptOf 117 (.istore 8) 2 119 := ⟨by decide +kernel, rfl⟩
theorem dX11_keptOf_119 : di cX11_keptOf 119 (.iconst 0) 1 120 := ⟨by decide +kernel, rfl⟩
theorem dX11_keptOf_120 : di cX11_keptOf 120 (.istore 9) 2 122 := ⟨by decide +kernel, rfl⟩
theorem dX11_keptOf_122 : di cX11_keptOf 122 (.iload 9) 2 124 := ⟨by decide +kernel, rfl⟩
theorem dX11_keptOf_124 : di cX11_keptOf 124 (.iload_n 3) 1 125 := ⟨by decide +kernel, rfl⟩
theorem dX11_keptOf_125 : dj cX11_keptOf 125 (.if_icmp .ge) 128 223 := ⟨98, by decide +kernel, rfl, rfl⟩
theorem dX11_keptOf_128 : di cX11_keptOf 128 (.aload_n 0) 1 129 := ⟨by decide +kernel, rfl⟩
theorem dX11_keptOf_129 : di cX11_keptOf 129 (.getfield 108) 3 132 := ⟨by decide +kernel, rfl⟩
theorem dX11_keptOf_132 : di cX11_keptOf 132 (.iload 9) 2 134 := ⟨by decide +kernel, rfl⟩
theorem dX11_keptOf_134 : di cX11_keptOf 134 (.iaload) 1 135 := ⟨by decide +kernel, rfl⟩
theorem dX11_keptOf_135 : di cX11_keptOf 135 (.iload 4) 2 137 := ⟨by decide +kernel, rfl⟩
theorem dX11_keptOf_137 : dj cX11_keptOf 137 (.if_icmp .ge) 140 153 := ⟨16, by decide +kernel, rfl, rfl⟩
theorem dX11_keptOf_140 : di cX11_keptOf 140 (.iload 4) 2 142 := ⟨by decide +kernel, rfl⟩
theorem dX11_keptOf_142 : di cX11_keptOf 142 (.aload_n 0) 1 143 := ⟨by decide +kernel, rfl⟩
theorem dX11_keptOf_143 : di cX11_keptOf 143 (.getfield 108) 3 146 := ⟨by decide +kernel, rfl⟩
theorem dX11_keptOf_146 : di cX11_keptOf 146 (.iload 9) 2 148 := ⟨by decide +kernel, rfl⟩
theorem dX11_keptOf_148 : di cX11_keptOf 148 (.iaload) 1 149 := ⟨by decide +kernel, rfl⟩
theorem dX11_keptOf_149 : di cX11_keptOf 149 (.isub) 1 150 := ⟨by decide +kernel, rfl⟩
theorem dX11_keptOf_150 : dj cX11_keptOf 150 .goto 153 163 := ⟨13, by decide +kernel, rfl, rfl⟩
theorem dX11_keptOf_153 : di cX11_keptOf 153 (.aload_n 0) 1 154 := ⟨by decide +kernel, rfl⟩
theorem dX11_keptOf_154 : di cX11_keptOf 154 (.getfield 108) 3 157 := ⟨by decide +kernel, rfl⟩
theorem dX11_keptOf_157 : di cX11_keptOf 157 (.iload 9) 2 159 := ⟨by decide +kernel, rfl⟩
theorem dX11_keptOf_159 : di cX11_keptOf 159 (.iaload) 1 160 := ⟨by decide +kernel, rfl⟩
theorem dX11_keptOf_160 : di cX11_keptOf 160 (.iload 4) 2 162 := ⟨by decide +kernel, rfl⟩
theorem dX11_keptOf_162 : di cX11_keptOf 162 (.isub) 1 163 := ⟨by decide +kernel, rfl⟩
theorem dX11_keptOf_163 : di cX11_keptOf 163 (.istore 10) 2 165 := ⟨by decide +kernel, rfl⟩
theorem dX11_keptOf_165 : di cX11_keptOf 165 (.iload 10) 2 167 := ⟨by decide +kernel, rfl⟩
theorem dX11_keptOf_167 : di cX11_keptOf 167 (.iload 4) 2 169 := ⟨by decide +kernel, rfl⟩
theorem dX11_keptOf_169 : di cX11_keptOf 169 (.iconst 4) 1 170 := ⟨by decide +kernel, rfl⟩
theorem dX11_keptOf_170 : di cX11_keptOf 170 (.idiv) 1 171 := ⟨by decide +kernel, rfl⟩
theorem dX11_keptOf_171 : dj cX11_keptOf 171 (.if_icmp .gt) 174 217 := ⟨46, by decide +kernel, rfl, rfl⟩
theorem dX11_keptOf_174 : di cX11_keptOf 174 (.iinc 5 1) 3 177 := ⟨by decide +kernel, rfl⟩
theorem dX11_keptOf_177 : di cX11_keptOf 177 (.iload 6) 2 179 := ⟨by decide +kernel, rfl⟩
theorem dX11_keptOf_179 : di cX11_keptOf 179 (.aload_n 0) 1 180 := ⟨by decide +kernel, rfl⟩
theorem dX11_keptOf_180 : di cX11_keptOf 180 (.getfield 108) 3 183 := ⟨by decide +kernel, rfl⟩
theorem dX11_keptOf_183 : di cX11_keptOf 183 (.iload 9) 2 185 := ⟨by decide +kernel, rfl⟩
theorem dX11_keptOf_185 : di cX11_keptOf 185 (.iaload) 1 186 := ⟨by decide +kernel, rfl⟩
theorem dX11_keptOf_186 : di cX11_keptOf 186 (.iadd) 1 187 := ⟨by decide +kernel, rfl⟩
theorem dX11_keptOf_187 : di cX11_keptOf 187 (.istore 6) 2 189 := ⟨by decide +kernel, rfl⟩
theorem dX11_keptOf_189 : di cX11_keptOf 189 (.iload 7) 2 191 := ⟨by decide +kernel, rfl⟩
theorem dX11_keptOf_191 : dj cX11_keptOf 191 (.ifCond .ge) 194 204 := ⟨13, by decide +kernel, rfl, rfl⟩
theorem dX11_keptOf_194 : di cX11_keptOf 194 (.aload_n 0) 1 195 := ⟨by decide +kernel, rfl⟩
theorem dX11_keptOf_195 : di cX11_keptOf 195 (.getfield 108) 3 198 := ⟨by decide +kernel, rfl⟩
theorem dX11_keptOf_198 : di cX11_keptOf 198 (.iload 9) 2 200 := ⟨by decide +kernel, rfl⟩
theorem dX11_keptOf_200 : di cX11_keptOf 200 (.iaload) 1 201 := ⟨by decide +kernel, rfl⟩
theorem dX11_keptOf_201 : dj cX11_keptOf 201 .goto 204 206 := ⟨5, by decide +kernel, rfl, rfl⟩
theorem dX11_keptOf_204 : di cX11_keptOf 204 (.iload 7) 2 206 := ⟨by decide +kernel, rfl⟩
theorem dX11_keptOf_206 : di cX11_keptOf 206 (.istore 7) 2 208 := ⟨by decide +kernel, rfl⟩
theorem dX11_keptOf_208 : di cX11_keptOf 208 (.aload_n 0) 1 209 := ⟨by decide +kernel, rfl⟩
theorem dX11_keptOf_209 : di cX11_keptOf 209 (.getfield 108) 3 212 := ⟨by decide +kernel, rfl⟩
theorem dX11_keptOf_212 : di cX11_keptOf 212 (.iload 9) 2 214 := ⟨by decide +kernel, rfl⟩
theorem dX11_keptOf_214 : di cX11_keptOf 214 (.iaload) 1 215 := ⟨by decide +kernel, rfl⟩
theorem dX11_keptOf_215 : di cX11_keptOf 215 (.istore 8) 2 217 := ⟨by decide +kernel, rfl⟩
theorem dX11_keptOf_217 : di cX11_keptOf 217 (.iinc 9 1) 3 220 := ⟨by decide +kernel, rfl⟩
theorem dX11_keptOf_220 : dj cX11_keptOf 220 .goto 223 122 := ⟨-98, by decide +kernel, rfl, rfl⟩
theorem dX11_keptOf_223 : di cX11_keptOf 223 (.iload_n 2) 1 224 := ⟨by decide +kernel, rfl⟩
theorem dX11_keptOf_224 : di cX11_keptOf 224 (.iconst 2) 1 225 := ⟨by decide +kernel, rfl⟩
theorem dX11_keptOf_225 : dj cX11_keptOf 225 (.if_icmp .ne) 228 233 := ⟨8, by decide +kernel, rfl, rfl⟩
theorem dX11_keptOf_228 : di cX11_keptOf 228 (.iload 5) 2 230 := ⟨by decide +kernel, rfl⟩
theorem dX11_keptOf_230 : dj cX11_keptOf 230 .goto 233 258 := ⟨28, by decide +kernel, rfl, rfl⟩
theorem dX11_keptOf_233 : di cX11_keptOf 233 (.iload_n 2) 1 234 := ⟨by decide +kernel, rfl⟩
theorem dX11_keptOf_234 : di cX11_keptOf 234 (.iconst 3) 1 235 := ⟨by decide +kernel, rfl⟩
theorem dX11_keptOf_235 : dj cX11_keptOf 235 (.if_icmp .ne) 238 246 := ⟨11, by decide +kernel, rfl, rfl⟩
theorem dX11_keptOf_238 : di cX11_keptOf 238 (.iload 6) 2 240 := ⟨by decide +kernel, rfl⟩
theorem dX11_keptOf_240 : di cX11_keptOf 240 (.iload 5) 2 242 := ⟨by decide +kernel, rfl⟩
theorem dX11_keptOf_242 : di cX11_keptOf 242 (.idiv) 1 243 := ⟨by decide +kernel, rfl⟩
theorem dX11_keptOf_243 : dj cX11_keptOf 243 .goto 246 258 := ⟨15, by decide +kernel, rfl, rfl⟩
theorem dX11_keptOf_246 : di cX11_keptOf 246 (.iload_n 2) 1 247 := ⟨by decide +kernel, rfl⟩
theorem dX11_keptOf_247 : di cX11_keptOf 247 (.iconst 5) 1 248 := ⟨by decide +kernel, rfl⟩
theorem dX11_keptOf_248 : dj cX11_keptOf 248 (.if_icmp .ne) 251 256 := ⟨8, by decide +kernel, rfl, rfl⟩
theorem dX11_keptOf_251 : di cX11_keptOf 251 (.iload 7) 2 253 := ⟨by decide +kernel, rfl⟩
theorem dX11_keptOf_253 : dj cX11_keptOf 253 .goto 256 258 := ⟨5, by decide +kernel, rfl, rfl⟩
theorem dX11_keptOf_256 : di cX11_keptOf 256 (.iload 8) 2 258 := ⟨by decide +kernel, rfl⟩
theorem dX11_keptOf_258 : di cX11_keptOf 258 (.ireturn) 1 259 := ⟨by decide +kernel, rfl⟩
def f_X11_keptOf_L36 (v1 : Int32) (v2 : Int32) (v3 : Int32) (v4 : Int32) (v5 : Int32) : Nat → Int32 → Mem → (Int32 → Mem → Option Ret) → Option Ret
  | 0, _, _, _ => none
  | k36 + 1, v6, M, K36 => if v6 ≤ 0 then (K36 v6 M) else (gV (v6 - (1 : Int32)) 60 (if (M.1 96 (v6 - (1 : Int32)).toNatClampNeg) ≤ v5 then (K36 v6 M) else (gV (v6 - (1 : Int32)) 60 (gV v6 60 (bM (up2 M 96 v6.toNatClampNeg (M.1 96 (v6 - (1 : Int32)).toNatClampNeg)) (fun M6 => f_X11_keptOf_L36 v1 v2 v3 v4 v5 k36 (v6 + (-1 : Int32)) M6 K36))))))
set_option maxRecDepth 100000 in
theorem f_X11_keptOf_L36_ok {l : Launch} {g : Cx} (v1 : Int32) (v2 : Int32) (v3 : Int32) (v4 : Int32) (v5 : Int32) {r : Int32} {Mr : Mem} : ∀ (k : Nat) (v6 : Int32) (M : Mem) (K36 : Int32 → Mem → Option Ret), f_X11_keptOf_L36 v1 v2 v3 v4 v5 k v6 M K36 = some (r, Mr) → (∀ (v6 : Int32) (M : Mem), K36 v6 M = some (r, Mr) → AT l g RX11 cX11_keptOf 11 (some .int) (rmM 2 46) (PI r Mr) 77 [some (.ref (g.1 11)), some (.int v1), some (.int v2), some (.int v3), some (.int v4), some (.int v5), some (.int v6), none, none, none, none] [] M) → AT l g RX11 cX11_keptOf 11 (some .int) (rmM 2 46) (PI r Mr) 36 [some (.ref (g.1 11)), some (.int v1), some (.int v2), some (.int v3), some (.int v4), some (.int v5), some (.int v6), none, none, none, none] [] M
  | 0, v6, M, K36, h, hK36 => by cases h
  | k36 + 1, v6, M, K36, h, hK36 => by
    have ih36 := f_X11_keptOf_L36_ok (l := l) (g := g) v1 v2 v3 v4 v5 (r := r) (Mr := Mr) k36
    rw [f_X11_keptOf_L36] at h
    refine A_iload dX11_keptOf_36 rfl ?_
    refine A_if_le dX11_keptOf_38 (fun hc => ?_) (fun hc => ?_)
    · have h := gT_go hc h
      exact A_le (lvLe_s (lvLe_s (lvLe_s (lvLe_s (lvLe_s (lvLe_s (lvLe_s (lvLe_n (lvLe_n (lvLe_n (lvLe_n lvLe_0))))))))))) (hK36 _ _ h)
    · have h := gF_go hc h
      refine A_aload_n dX11_keptOf_41 rfl ?_
      refine A_getf dX11_keptOf_42 fw_X11_108 ob11 rfl ?_
      refine A_iload dX11_keptOf_45 rfl ?_
      refine A_iconst (v := 1) dX11_keptOf_47 (by decide) ?_
      refine A_isub dX11_keptOf_48 ?_
      obtain ⟨hg, h⟩ := gV_go h
      refine A_iald dX11_keptOf_49 ia96 hg ?_
      refine A_iload dX11_keptOf_50 rfl ?_
      refine A_icmp_le dX11_keptOf_52 (fun hc => ?_) (fun hc => ?_)
      · have h := gT_go hc h
        exact A_le (lvLe_s (lvLe_s (lvLe_s (lvLe_s (lvLe_s (lvLe_s (lvLe_s (lvLe_n (lvLe_n (lvLe_n (lvLe_n lvLe_0))))))))))) (hK36 _ _ h)
      · have h := gF_go hc h
        refine A_aload_n dX11_keptOf_55 rfl ?_
        refine A_getf dX11_keptOf_56 fw_X11_108 ob11 rfl ?_
        refine A_iload dX11_keptOf_59 rfl ?_
        refine A_aload_n dX11_keptOf_61 rfl ?_
        refine A_getf dX11_keptOf_62 fw_X11_108 ob11 rfl ?_
        refine A_iload dX11_keptOf_65 rfl ?_
        refine A_iconst (v := 1) dX11_keptOf_67 (by decide) ?_
        refine A_isub dX11_keptOf_68 ?_
        obtain ⟨hg, h⟩ := gV_go h
        refine A_iald dX11_keptOf_69 ia96 hg ?_
        obtain ⟨hg, h⟩ := gV_go h
        refine A_iast dX11_keptOf_70 ia96 hg (bM_go h (fun M6 h => ?_))
        refine A_iinc6 (d := -1) dX11_keptOf_71 (by decide) (by decide) rfl ?_
        refine A_goto dX11_keptOf_74 ?_
        exact A_le (lvLe_s (lvLe_s (lvLe_s (lvLe_s (lvLe_s (lvLe_s (lvLe_s (lvLe_n (lvLe_n (lvLe_n (lvLe_n lvLe_0))))))))))) (ih36 _ _ K36 h hK36)
def f_X11_keptOf_L5 (v1 : Int32) (v2 : Int32) : Nat → Int32 → Int32 → Mem → (Int32 → Int32 → Mem → Option Ret) → Option Ret
  | 0, _, _, _, _ => none
  | k5 + 1, v3, v4, M, K5 => if (M.1 11 7) ≤ v4 then (K5 v3 v4 M) else (gV v4 60 (jn (α := Int32 → Mem → Option Ret) (fun (y2 : Int32) (M3 : Mem) => f_X11_keptOf_L5 v1 v2 k5 y2 (v4 + (1 : Int32)) M3 K5) (fun J1 => if (M.1 69 v4.toNatClampNeg) = v1 then (bE (f_X11_normalOf v4 M) (fun r5 M4 => f_X11_keptOf_L36 v1 v2 v3 v4 r5 FU v3 M4 (fun w7 M8 => gV w7 60 (bM (up2 M8 96 w7.toNatClampNeg r5) (fun M9 => J1 (v3 + (1 : Int32)) M9))))) else (J1 v3 M))))
set_option maxRecDepth 100000 in
theorem f_X11_keptOf_L5_ok {l : Launch} {g : Cx} (v1 : Int32) (v2 : Int32) {r : Int32} {Mr : Mem} : ∀ (k : Nat) (v3 : Int32) (v4 : Int32) (M : Mem) (K5 : Int32 → Int32 → Mem → Option Ret), f_X11_keptOf_L5 v1 v2 k v3 v4 M K5 = some (r, Mr) → (∀ (v3 : Int32) (v4 : Int32) (M : Mem), K5 v3 v4 M = some (r, Mr) → AT l g RX11 cX11_keptOf 11 (some .int) (rmM 2 46) (PI r Mr) 95 [some (.ref (g.1 11)), some (.int v1), some (.int v2), some (.int v3), some (.int v4), none, none, none, none, none, none] [] M) → AT l g RX11 cX11_keptOf 11 (some .int) (rmM 2 46) (PI r Mr) 5 [some (.ref (g.1 11)), some (.int v1), some (.int v2), some (.int v3), some (.int v4), none, none, none, none, none, none] [] M
  | 0, v3, v4, M, K5, h, hK5 => by cases h
  | k5 + 1, v3, v4, M, K5, h, hK5 => by
    have ih5 := f_X11_keptOf_L5_ok (l := l) (g := g) v1 v2 (r := r) (Mr := Mr) k5
    rw [f_X11_keptOf_L5] at h
    refine A_iload dX11_keptOf_5 rfl ?_
    refine A_aload_n dX11_keptOf_7 rfl ?_
    refine A_getf dX11_keptOf_8 fw_X11_157 ob11 rfl ?_
    refine A_icmp_ge dX11_keptOf_11 (fun hc => ?_) (fun hc => ?_)
    · have h := gT_go hc h
      exact A_le (lvLe_s (lvLe_s (lvLe_s (lvLe_s (lvLe_s (lvLe_n (lvLe_n (lvLe_n (lvLe_n (lvLe_n (lvLe_n lvLe_0))))))))))) (hK5 _ _ _ h)
    · have h := gF_go hc h
      refine A_aload_n dX11_keptOf_14 rfl ?_
      refine A_getf dX11_keptOf_15 fw_X11_26 ob11 rfl ?_
      refine A_iload dX11_keptOf_18 rfl ?_
      obtain ⟨hg, h⟩ := gV_go h
      refine A_iald dX11_keptOf_20 ia69 hg ?_
      refine A_iload_n dX11_keptOf_21 rfl ?_
      obtain ⟨J1, hJ1, h⟩ := jn_go h
      have JJ1 : ∀ (y2 : Int32) (M3 : Mem), J1 y2 M3 = some (r, Mr) → AT l g RX11 cX11_keptOf 11 (some .int) (rmM 2 46) (PI r Mr) 89 [some (.ref (g.1 11)), some (.int v1), some (.int v2), some (.int y2), some (.int v4), none, none, none, none, none, none] [] M3 := by
        intro y2 M3 h
        rw [hJ1] at h
        refine A_iinc4 (d := 1) dX11_keptOf_89 (by decide) (by decide) rfl ?_
        refine A_goto dX11_keptOf_92 ?_
        exact A_le (lvLe_s (lvLe_s (lvLe_s (lvLe_s (lvLe_s (lvLe_n (lvLe_n (lvLe_n (lvLe_n (lvLe_n (lvLe_n lvLe_0))))))))))) (ih5 _ _ _ K5 h hK5)
      refine A_icmp_ne dX11_keptOf_22 (fun hc => ?_) (fun hc => ?_)
      · have h := gF_go hc h
        exact A_le (lvLe_s (lvLe_s (lvLe_s (lvLe_s (lvLe_s (lvLe_n (lvLe_n (lvLe_n (lvLe_n (lvLe_n (lvLe_n lvLe_0))))))))))) (JJ1 _ _ h)
      · have h := gT_go hc h
        refine A_aload_n dX11_keptOf_25 rfl ?_
        refine A_iload dX11_keptOf_26 rfl ?_
        obtain ⟨r5, M4, h1, h⟩ := bE_go h
        refine A_cVi1 dX11_keptOf_28 ml_X11_160 mb_X11_normalOf mi_X11_normalOf ob11 rfl rfl ⟨Nat.le_of_ble_eq_true rfl, Nat.le_of_ble_eq_true rfl⟩ (Nat.le_of_ble_eq_true rfl) (ok_X11_normalOf h1) ?_
        refine A_istore5 dX11_keptOf_31 (by decide) rfl ?_
        refine A_iload_n dX11_keptOf_33 rfl ?_
        refine A_istore6 dX11_keptOf_34 (by decide) rfl ?_
        refine f_X11_keptOf_L36_ok _ _ _ _ _ FU _ _ _ h (fun w7 M8 h => ?_)
        refine A_aload_n dX11_keptOf_77 rfl ?_
        refine A_getf dX11_keptOf_78 fw_X11_108 ob11 rfl ?_
        refine A_iload dX11_keptOf_81 rfl ?_
        refine A_iload dX11_keptOf_83 rfl ?_
        obtain ⟨hg, h⟩ := gV_go h
        refine A_iast dX11_keptOf_85 ia96 hg (bM_go h (fun M9 h => ?_))
        refine A_iinc3 (d := 1) dX11_keptOf_86 (by decide) (by decide) rfl ?_
        exact A_le (lvLe_s (lvLe_s (lvLe_s (lvLe_s (lvLe_s (lvLe_n (lvLe_n (lvLe_n (lvLe_n (lvLe_n (lvLe_n lvLe_0))))))))))) (JJ1 _ _ h)
def f_X11_keptOf_L122 (v1 : Int32) (v2 : Int32) (v3 : Int32) (v4 : Int32) : Nat → Int32 → Int32 → Int32 → Int32 → Int32 → Mem → (Int32 → Int32 → Int32 → Int32 → Int32 → Mem → Option Ret) → Option Ret
  | 0, _, _, _, _, _, _, _ => none
  | k122 + 1, v5, v6, v7, v8, v9, M, K122 => if v3 ≤ v9 then (K122 v5 v6 v7 v8 v9 M) else (gV v9 60 (jn (α := Int32 → Option Ret) (fun (z15 : Int32) => jn (α := Int32 → Int32 → Int32 → Int32 → Option Ret) (fun (y17 : Int32) (y18 : Int32) (y19 : Int32) (y20 : Int32) => f_X11_keptOf_L122 v1 v2 v3 v4 k122 y17 y18 y19 y20 (v9 + (1 : Int32)) M K122) (fun J16 => if (v4 / (4 : Int32)) < z15 then (J16 v5 v6 v7 v8) else (gV v9 60 (bI (v6 + (M.1 96 v9.toNatClampNeg)) (fun x21 => jn (α := Int32 → Option Ret) (fun (z23 : Int32) => gV v9 60 (bI (M.1 96 v9.toNatClampNeg) (fun x24 => J16 (v5 + (1 : Int32)) x21 z23 x24))) (fun J22 => if 0 ≤ v7 then (J22 v7) else (gV v9 60 (J22 (M.1 96 v9.toNatClampNeg))))))))) (fun J14 => if v4 ≤ (M.1 96 v9.toNatClampNeg) then (gV v9 60 (J14 ((M.1 96 v9.toNatClampNeg) - v4))) else (gV v9 60 (J14 (v4 - (M.1 96 v9.toNatClampNeg)))))))
set_option maxRecDepth 100000 in
theorem f_X11_keptOf_L122_ok {l : Launch} {g : Cx} (v1 : Int32) (v2 : Int32) (v3 : Int32) (v4 : Int32) {r : Int32} {Mr : Mem} : ∀ (k : Nat) (v5 : Int32) (v6 : Int32) (v7 : Int32) (v8 : Int32) (v9 : Int32) (M : Mem) (K122 : Int32 → Int32 → Int32 → Int32 → Int32 → Mem → Option Ret), f_X11_keptOf_L122 v1 v2 v3 v4 k v5 v6 v7 v8 v9 M K122 = some (r, Mr) → (∀ (v5 : Int32) (v6 : Int32) (v7 : Int32) (v8 : Int32) (v9 : Int32) (M : Mem), K122 v5 v6 v7 v8 v9 M = some (r, Mr) → AT l g RX11 cX11_keptOf 11 (some .int) (rmM 2 46) (PI r Mr) 223 [some (.ref (g.1 11)), some (.int v1), some (.int v2), some (.int v3), some (.int v4), some (.int v5), some (.int v6), some (.int v7), some (.int v8), some (.int v9), none] [] M) → AT l g RX11 cX11_keptOf 11 (some .int) (rmM 2 46) (PI r Mr) 122 [some (.ref (g.1 11)), some (.int v1), some (.int v2), some (.int v3), some (.int v4), some (.int v5), some (.int v6), some (.int v7), some (.int v8), some (.int v9), none] [] M
  | 0, v5, v6, v7, v8, v9, M, K122, h, hK122 => by cases h
  | k122 + 1, v5, v6, v7, v8, v9, M, K122, h, hK122 => by
    have ih122 := f_X11_keptOf_L122_ok (l := l) (g := g) v1 v2 v3 v4 (r := r) (Mr := Mr) k122
    rw [f_X11_keptOf_L122] at h
    refine A_iload dX11_keptOf_122 rfl ?_
    refine A_iload_n dX11_keptOf_124 rfl ?_
    refine A_icmp_ge dX11_keptOf_125 (fun hc => ?_) (fun hc => ?_)
    · have h := gT_go hc h
      exact A_le (lvLe_s (lvLe_s (lvLe_s (lvLe_s (lvLe_s (lvLe_s (lvLe_s (lvLe_s (lvLe_s (lvLe_s (lvLe_n lvLe_0))))))))))) (hK122 _ _ _ _ _ _ h)
    · have h := gF_go hc h
      refine A_aload_n dX11_keptOf_128 rfl ?_
      refine A_getf dX11_keptOf_129 fw_X11_108 ob11 rfl ?_
      refine A_iload dX11_keptOf_132 rfl ?_
      obtain ⟨hg, h⟩ := gV_go h
      refine A_iald dX11_keptOf_134 ia96 hg ?_
      refine A_iload dX11_keptOf_135 rfl ?_
      obtain ⟨J14, hJ14, h⟩ := jn_go h
      have JJ14 : ∀ (z15 : Int32), J14 z15 = some (r, Mr) → AT l g RX11 cX11_keptOf 11 (some .int) (rmM 2 46) (PI r Mr) 163 [some (.ref (g.1 11)), some (.int v1), some (.int v2), some (.int v3), some (.int v4), some (.int v5), some (.int v6), some (.int v7), some (.int v8), some (.int v9), none] [.int z15] M := by
        intro z15 h
        rw [hJ14] at h
        refine A_istore10 dX11_keptOf_163 (by decide) rfl ?_
        refine A_iload dX11_keptOf_165 rfl ?_
        refine A_iload dX11_keptOf_167 rfl ?_
        refine A_iconst (v := 4) dX11_keptOf_169 (by decide) ?_
        refine A_idiv dX11_keptOf_170 (by decide) ?_
        obtain ⟨J16, hJ16, h⟩ := jn_go h
        have JJ16 : ∀ (y17 : Int32) (y18 : Int32) (y19 : Int32) (y20 : Int32), J16 y17 y18 y19 y20 = some (r, Mr) → AT l g RX11 cX11_keptOf 11 (some .int) (rmM 2 46) (PI r Mr) 217 [some (.ref (g.1 11)), some (.int v1), some (.int v2), some (.int v3), some (.int v4), some (.int y17), some (.int y18), some (.int y19), some (.int y20), some (.int v9), some (.int z15)] [] M := by
          intro y17 y18 y19 y20 h
          rw [hJ16] at h
          refine A_iinc9 (d := 1) dX11_keptOf_217 (by decide) (by decide) rfl ?_
          refine A_goto dX11_keptOf_220 ?_
          exact A_le (lvLe_s (lvLe_s (lvLe_s (lvLe_s (lvLe_s (lvLe_s (lvLe_s (lvLe_s (lvLe_s (lvLe_s (lvLe_n lvLe_0))))))))))) (ih122 _ _ _ _ _ _ K122 h hK122)
        refine A_icmp_gt dX11_keptOf_171 (fun hc => ?_) (fun hc => ?_)
        · have h := gT_go hc h
          exact A_le (lvLe_s (lvLe_s (lvLe_s (lvLe_s (lvLe_s (lvLe_s (lvLe_s (lvLe_s (lvLe_s (lvLe_s (lvLe_s lvLe_0))))))))))) (JJ16 _ _ _ _ h)
        · have h := gF_go hc h
          refine A_iinc5 (d := 1) dX11_keptOf_174 (by decide) (by decide) rfl ?_
          refine A_iload dX11_keptOf_177 rfl ?_
          refine A_aload_n dX11_keptOf_179 rfl ?_
          refine A_getf dX11_keptOf_180 fw_X11_108 ob11 rfl ?_
          refine A_iload dX11_keptOf_183 rfl ?_
          obtain ⟨hg, h⟩ := gV_go h
          refine A_iald dX11_keptOf_185 ia96 hg ?_
          refine A_iadd dX11_keptOf_186 ?_
          refine A_istore6 dX11_keptOf_187 (by decide) rfl (bI_go h (G := fun z => AT l g RX11 cX11_keptOf 11 (some .int) (rmM 2 46) (PI r Mr) 189 [some (.ref (g.1 11)), some (.int v1), some (.int v2), some (.int v3), some (.int v4), some (.int (v5 + (1 : Int32))), some (.int z), some (.int v7), some (.int v8), some (.int v9), some (.int z15)] [] M) (fun x21 h => ?_))
          refine A_iload dX11_keptOf_189 rfl ?_
          obtain ⟨J22, hJ22, h⟩ := jn_go h
          have JJ22 : ∀ (z23 : Int32), J22 z23 = some (r, Mr) → AT l g RX11 cX11_keptOf 11 (some .int) (rmM 2 46) (PI r Mr) 206 [some (.ref (g.1 11)), some (.int v1), some (.int v2), some (.int v3), some (.int v4), some (.int (v5 + (1 : Int32))), some (.int x21), some (.int v7), some (.int v8), some (.int v9), some (.int z15)] [.int z23] M := by
            intro z23 h
            rw [hJ22] at h
            refine A_istore7 dX11_keptOf_206 (by decide) rfl ?_
            refine A_aload_n dX11_keptOf_208 rfl ?_
            refine A_getf dX11_keptOf_209 fw_X11_108 ob11 rfl ?_
            refine A_iload dX11_keptOf_212 rfl ?_
            obtain ⟨hg, h⟩ := gV_go h
            refine A_iald dX11_keptOf_214 ia96 hg ?_
            refine A_istore8 dX11_keptOf_215 (by decide) rfl (bI_go h (G := fun z => AT l g RX11 cX11_keptOf 11 (some .int) (rmM 2 46) (PI r Mr) 217 [some (.ref (g.1 11)), some (.int v1), some (.int v2), some (.int v3), some (.int v4), some (.int (v5 + (1 : Int32))), some (.int x21), some (.int z23), some (.int z), some (.int v9), some (.int z15)] [] M) (fun x24 h => ?_))
            exact A_le (lvLe_s (lvLe_s (lvLe_s (lvLe_s (lvLe_s (lvLe_s (lvLe_s (lvLe_s (lvLe_s (lvLe_s (lvLe_s lvLe_0))))))))))) (JJ16 _ _ _ _ h)
          refine A_if_ge dX11_keptOf_191 (fun hc => ?_) (fun hc => ?_)
          · have h := gT_go hc h
            refine A_iload dX11_keptOf_204 rfl ?_
            exact A_le (lvLe_s (lvLe_s (lvLe_s (lvLe_s (lvLe_s (lvLe_s (lvLe_s (lvLe_s (lvLe_s (lvLe_s (lvLe_s lvLe_0))))))))))) (JJ22 _ h)
          · have h := gF_go hc h
            refine A_aload_n dX11_keptOf_194 rfl ?_
            refine A_getf dX11_keptOf_195 fw_X11_108 ob11 rfl ?_
            refine A_iload dX11_keptOf_198 rfl ?_
            obtain ⟨hg, h⟩ := gV_go h
            refine A_iald dX11_keptOf_200 ia96 hg ?_
            refine A_goto dX11_keptOf_201 ?_
            exact A_le (lvLe_s (lvLe_s (lvLe_s (lvLe_s (lvLe_s (lvLe_s (lvLe_s (lvLe_s (lvLe_s (lvLe_s (lvLe_s lvLe_0))))))))))) (JJ22 _ h)
      refine A_icmp_ge dX11_keptOf_137 (fun hc => ?_) (fun hc => ?_)
      · have h := gT_go hc h
        refine A_aload_n dX11_keptOf_153 rfl ?_
        refine A_getf dX11_keptOf_154 fw_X11_108 ob11 rfl ?_
        refine A_iload dX11_keptOf_157 rfl ?_
        obtain ⟨hg, h⟩ := gV_go h
        refine A_iald dX11_keptOf_159 ia96 hg ?_
        refine A_iload dX11_keptOf_160 rfl ?_
        refine A_isub dX11_keptOf_162 ?_
        exact A_le (lvLe_s (lvLe_s (lvLe_s (lvLe_s (lvLe_s (lvLe_s (lvLe_s (lvLe_s (lvLe_s (lvLe_s (lvLe_n lvLe_0))))))))))) (JJ14 _ h)
      · have h := gF_go hc h
        refine A_iload dX11_keptOf_140 rfl ?_
        refine A_aload_n dX11_keptOf_142 rfl ?_
        refine A_getf dX11_keptOf_143 fw_X11_108 ob11 rfl ?_
        refine A_iload dX11_keptOf_146 rfl ?_
        obtain ⟨hg, h⟩ := gV_go h
        refine A_iald dX11_keptOf_148 ia96 hg ?_
        refine A_isub dX11_keptOf_149 ?_
        refine A_goto dX11_keptOf_150 ?_
        exact A_le (lvLe_s (lvLe_s (lvLe_s (lvLe_s (lvLe_s (lvLe_s (lvLe_s (lvLe_s (lvLe_s (lvLe_s (lvLe_n lvLe_0))))))))))) (JJ14 _ h)
def f_X11_keptOf (v1 : Int32) (v2 : Int32) (M : Mem) : Option Ret := f_X11_keptOf_L5 v1 v2 FU (0 : Int32) (0 : Int32) M (fun w10 w11 M12 => gV ((w10 - (1 : Int32)) / (2 : Int32)) 60 (bI (M12.1 96 ((w10 - (1 : Int32)) / (2 : Int32)).toNatClampNeg) (fun x13 => f_X11_keptOf_L122 v1 v2 w10 x13 FU (0 : Int32) (0 : Int32) (-1 : Int32) (-1 : Int32) (0 : Int32) M12 (fun w25 w26 w27 w28 w29 M30 => jn (α := Int32 → Option Ret) (fun (z32 : Int32) => some (z32, M30)) (fun J31 => if v2 = (2 : Int32) then (J31 w25) else (if v2 = (3 : Int32) then (gN w25 (J31 (w26 / w25))) else (if v2 = (5 : Int32) then (J31 w27) else (J31 w28))))))))
set_option maxRecDepth 100000 in
theorem ok_X11_keptOf {l : Launch} {g : Cx} {v1 : Int32} {v2 : Int32} {M : Mem} {r : Int32} {Mr : Mem} (h : f_X11_keptOf v1 v2 M = some (r, Mr)) : CT l g yX11_keptOf cX11_keptOf 11 (some .int) 2 46 [.ref (g.1 11), .int v1, .int v2] M (PI r Mr) := by
  refine CT_of (lv := [some (.ref (g.1 11)), some (.int v1), some (.int v2), none, none, none, none, none, none, none, none]) (by decide) rfl (Nat.le_of_ble_eq_true rfl) ?_
  unfold f_X11_keptOf at h
  refine A_iconst (v := 0) dX11_keptOf_0 (by decide) ?_
  refine A_istoren3 dX11_keptOf_1 (by decide) rfl ?_
  refine A_iconst (v := 0) dX11_keptOf_2 (by decide) ?_
  refine A_istore4 dX11_keptOf_3 (by decide) rfl ?_
  refine f_X11_keptOf_L5_ok _ _ FU _ _ _ _ h (fun w10 w11 M12 h => ?_)
  refine A_aload_n dX11_keptOf_95 rfl ?_
  refine A_getf dX11_keptOf_96 fw_X11_108 ob11 rfl ?_
  refine A_iload_n dX11_keptOf_99 rfl ?_
  refine A_iconst (v := 1) dX11_keptOf_100 (by decide) ?_
  refine A_isub dX11_keptOf_101 ?_
  refine A_iconst (v := 2) dX11_keptOf_102 (by decide) ?_
  refine A_idiv dX11_keptOf_103 (by decide) ?_
  obtain ⟨hg, h⟩ := gV_go h
  refine A_iald dX11_keptOf_104 ia96 hg ?_
  refine A_istore4 dX11_keptOf_105 (by decide) rfl (bI_go h (G := fun z => AT l g RX11 cX11_keptOf 11 (some .int) (rmM 2 46) (PI r Mr) 107 [some (.ref (g.1 11)), some (.int v1), some (.int v2), some (.int w10), some (.int z), none, none, none, none, none, none] [] M12) (fun x13 h => ?_))
  refine A_iconst (v := 0) dX11_keptOf_107 (by decide) ?_
  refine A_istore5 dX11_keptOf_108 (by decide) rfl ?_
  refine A_iconst (v := 0) dX11_keptOf_110 (by decide) ?_
  refine A_istore6 dX11_keptOf_111 (by decide) rfl ?_
  refine A_iconst (v := -1) dX11_keptOf_113 (by decide) ?_
  refine A_istore7 dX11_keptOf_114 (by decide) rfl ?_
  refine A_iconst (v := -1) dX11_keptOf_116 (by decide) ?_
  refine A_istore8 dX11_keptOf_117 (by decide) rfl ?_
  refine A_iconst (v := 0) dX11_keptOf_119 (by decide) ?_
  refine A_istore9 dX11_keptOf_120 (by decide) rfl ?_
  refine f_X11_keptOf_L122_ok _ _ _ _ FU _ _ _ _ _ _ _ h (fun w25 w26 w27 w28 w29 M30 h => ?_)
  refine A_iload_n dX11_keptOf_223 rfl ?_
  refine A_iconst (v := 2) dX11_keptOf_224 (by decide) ?_
  obtain ⟨J31, hJ31, h⟩ := jn_go h
  have JJ31 : ∀ (z32 : Int32), J31 z32 = some (r, Mr) → AT l g RX11 cX11_keptOf 11 (some .int) (rmM 2 46) (PI r Mr) 258 [some (.ref (g.1 11)), some (.int v1), some (.int v2), some (.int w10), some (.int x13), some (.int w25), some (.int w26), some (.int w27), some (.int w28), some (.int w29), none] [.int z32] M30 := by
    intro z32 h
    rw [hJ31] at h
    exact A_iret dX11_keptOf_258 (pI_go h)
  refine A_icmp_ne dX11_keptOf_225 (fun hc => ?_) (fun hc => ?_)
  · have h := gF_go hc h
    refine A_iload_n dX11_keptOf_233 rfl ?_
    refine A_iconst (v := 3) dX11_keptOf_234 (by decide) ?_
    refine A_icmp_ne dX11_keptOf_235 (fun hc => ?_) (fun hc => ?_)
    · have h := gF_go hc h
      refine A_iload_n dX11_keptOf_246 rfl ?_
      refine A_iconst (v := 5) dX11_keptOf_247 (by decide) ?_
      refine A_icmp_ne dX11_keptOf_248 (fun hc => ?_) (fun hc => ?_)
      · have h := gF_go hc h
        refine A_iload dX11_keptOf_256 rfl ?_
        exact A_le (lvLe_s (lvLe_s (lvLe_s (lvLe_s (lvLe_s (lvLe_s (lvLe_s (lvLe_s (lvLe_s (lvLe_s (lvLe_n lvLe_0))))))))))) (JJ31 _ h)
      · have h := gT_go hc h
        refine A_iload dX11_keptOf_251 rfl ?_
        refine A_goto dX11_keptOf_253 ?_
        exact A_le (lvLe_s (lvLe_s (lvLe_s (lvLe_s (lvLe_s (lvLe_s (lvLe_s (lvLe_s (lvLe_s (lvLe_s (lvLe_n lvLe_0))))))))))) (JJ31 _ h)
    · have h := gT_go hc h
      refine A_iload dX11_keptOf_238 rfl ?_
      refine A_iload dX11_keptOf_240 rfl ?_
      obtain ⟨hg, h⟩ := gN_go h
      refine A_idiv dX11_keptOf_242 hg ?_
      refine A_goto dX11_keptOf_243 ?_
      exact A_le (lvLe_s (lvLe_s (lvLe_s (lvLe_s (lvLe_s (lvLe_s (lvLe_s (lvLe_s (lvLe_s (lvLe_s (lvLe_n lvLe_0))))))))))) (JJ31 _ h)
  · have h := gT_go hc h
    refine A_iload dX11_keptOf_228 rfl ?_
    refine A_goto dX11_keptOf_230 ?_
    exact A_le (lvLe_s (lvLe_s (lvLe_s (lvLe_s (lvLe_s (lvLe_s (lvLe_s (lvLe_s (lvLe_s (lvLe_s (lvLe_n lvLe_0))))))))))) (JJ31 _ h)
-- BenchTimesModel.standardOf
theorem dX11_standardOf_0 : di cX11_standardOf 0 (.aload_n 0) 1 1 := ⟨by decide +kernel, rfl⟩
theorem dX11_standardOf_1 : di cX11_standardOf 1 (.iload_n 1) 1 2 := ⟨by decide +kernel, rfl⟩
theorem dX11_standardOf_2 : di cX11_standardOf 2 (.iconst 3) 1 3 := ⟨by decide +kernel, rfl⟩
theorem dX11_standardOf_3 : di cX11_standardOf 3 (.invokevirtual 163) 3 6 := ⟨by decide +kernel, rfl⟩
theorem dX11_standardOf_6 : di cX11_standardOf 6 (.bipush 100) 2 8 := ⟨by decide +kernel, rfl⟩
theorem dX11_standardOf_8 : di cX11_standardOf 8 (.aload_n 0) 1 9 := ⟨by decide +kernel, rfl⟩
theorem dX11_standardOf_9 : di cX11_standardOf 9 (.iload_n 1) 1 10 := ⟨by decide +kernel, rfl⟩
theorem dX11_standardOf_10 : di cX11_standardOf 10 (.invokevirtual 145) 3 13 := ⟨by decide +kernel, rfl⟩
theorem dX11_standardOf_13 : di cX11_standardOf 13 (.iadd) 1 14 := ⟨by decide +kernel, rfl⟩
theorem dX11_standardOf_14 : di cX11_standardOf 14 (.imul) 1 15 := ⟨by decide +kernel, rfl⟩
theorem dX11_standardOf_15 : di cX11_standardOf 15 (.istore_n 2) 1 16 := ⟨by decide +kernel, rfl⟩
theorem dX11_standardOf_16 : di cX11_standardOf 16 (.iload_n 2) 1 17 := ⟨by decide +kernel, rfl⟩
theorem dX11_standardOf_17 : di cX11_standardOf 17 (.bipush 100) 2 19 := ⟨by decide +kernel, rfl⟩
theorem dX11_standardOf_19 : di cX11_standardOf 19 (.idiv) 1 20 := ⟨by decide +kernel, rfl⟩
theorem dX11_standardOf_20 : di cX11_standardOf 20 (.iload_n 2) 1 21 := ⟨by decide +kernel, rfl⟩
theorem dX11_standardOf_21 : di cX11_standardOf 21 (.bipush 100) 2 23 := ⟨by decide +kernel, rfl⟩
theorem dX11_standardOf_23 : di cX11_standardOf 23 (.irem) 1 24 := ⟨by decide +kernel, rfl⟩
theorem dX11_standardOf_24 : dj cX11_standardOf 24 (.ifCond .le) 27 31 := ⟨7, by decide +kernel, rfl, rfl⟩
theorem dX11_standardOf_27 : di cX11_standardOf 27 (.iconst 1) 1 28 := ⟨by decide +kernel, rfl⟩
theorem dX11_standardOf_28 : dj cX11_standardOf 28 .goto 31 32 := ⟨4, by decide +kernel, rfl, rfl⟩
theorem dX11_standardOf_31 : di cX11_standardOf 31 (.iconst 0) 1 32 := ⟨by decide +kernel, rfl⟩
theorem dX11_standardOf_32 : di cX11_standardOf 32 (.iadd) 1 33 := ⟨by decide +kernel, rfl⟩
theorem dX11_standardOf_33 : di cX11_standardOf 33 (.ireturn) 1 34 := ⟨by decide +kernel, rfl⟩
def f_X11_standardOf (v1 : Int32) (M : Mem) : Option Ret := bE (f_X11_keptOf v1 (3 : Int32) M) (fun r2 M1 => bE (f_X11_allowanceOf v1 M1) (fun r4 M3 => bI (r2 * ((100 : Int32) + r4)) (fun x5 => jn (α := Int32 → Option Ret) (fun (z7 : Int32) => some ((x5 / (100 : Int32)) + z7, M3)) (fun J6 => if (x5 - x5 / (100 : Int32) * (100 : Int32)) ≤ 0 then (J6 (0 : Int32)) else (J6 (1 : Int32))))))
set_option maxRecDepth 100000 in
theorem ok_X11_standardOf {l : Launch} {g : Cx} {v1 : Int32} {M : Mem} {r : Int32} {Mr : Mem} (h : f_X11_standardOf v1 M = some (r, Mr)) : CT l g yX11_standardOf cX11_standardOf 3 (some .int) 3 76 [.ref (g.1 11), .int v1] M (PI r Mr) := by
  refine CT_of (lv := [some (.ref (g.1 11)), some (.int v1), none]) (by decide) rfl (Nat.le_of_ble_eq_true rfl) ?_
  unfold f_X11_standardOf at h
  refine A_aload_n dX11_standardOf_0 rfl ?_
  refine A_iload_n dX11_standardOf_1 rfl ?_
  refine A_iconst (v := 3) dX11_standardOf_2 (by decide) ?_
  obtain ⟨r2, M1, h1, h⟩ := bE_go h
  refine A_cVi2 dX11_standardOf_3 ml_X11_163 mb_X11_keptOf mi_X11_keptOf ob11 rfl rfl ⟨Nat.le_of_ble_eq_true rfl, Nat.le_of_ble_eq_true rfl⟩ (Nat.le_of_ble_eq_true rfl) (ok_X11_keptOf h1) ?_
  refine A_bipush (v := 100) dX11_standardOf_6 (by decide) ?_
  refine A_aload_n dX11_standardOf_8 rfl ?_
  refine A_iload_n dX11_standardOf_9 rfl ?_
  obtain ⟨r4, M3, h1, h⟩ := bE_go h
  refine A_cVi1 dX11_standardOf_10 ml_X11_145 mb_X11_allowanceOf mi_X11_allowanceOf ob11 rfl rfl ⟨Nat.le_of_ble_eq_true rfl, Nat.le_of_ble_eq_true rfl⟩ (Nat.le_of_ble_eq_true rfl) (ok_X11_allowanceOf h1) ?_
  refine A_iadd dX11_standardOf_13 ?_
  refine A_imul dX11_standardOf_14 ?_
  refine A_istoren2 dX11_standardOf_15 (by decide) rfl (bI_go h (G := fun z => AT l g RX11 cX11_standardOf 3 (some .int) (rmM 3 76) (PI r Mr) 16 [some (.ref (g.1 11)), some (.int v1), some (.int z)] [] M3) (fun x5 h => ?_))
  refine A_iload_n dX11_standardOf_16 rfl ?_
  refine A_bipush (v := 100) dX11_standardOf_17 (by decide) ?_
  refine A_idiv dX11_standardOf_19 (by decide) ?_
  refine A_iload_n dX11_standardOf_20 rfl ?_
  refine A_bipush (v := 100) dX11_standardOf_21 (by decide) ?_
  refine A_irem dX11_standardOf_23 (by decide) ?_
  obtain ⟨J6, hJ6, h⟩ := jn_go h
  have JJ6 : ∀ (z7 : Int32), J6 z7 = some (r, Mr) → AT l g RX11 cX11_standardOf 3 (some .int) (rmM 3 76) (PI r Mr) 32 [some (.ref (g.1 11)), some (.int v1), some (.int x5)] [.int z7, .int (x5 / (100 : Int32))] M3 := by
    intro z7 h
    rw [hJ6] at h
    refine A_iadd dX11_standardOf_32 ?_
    exact A_iret dX11_standardOf_33 (pI_go h)
  refine A_if_le dX11_standardOf_24 (fun hc => ?_) (fun hc => ?_)
  · have h := gT_go hc h
    refine A_iconst (v := 0) dX11_standardOf_31 (by decide) ?_
    exact A_le (lvLe_s (lvLe_s (lvLe_s lvLe_0))) (JJ6 _ h)
  · have h := gF_go hc h
    refine A_iconst (v := 1) dX11_standardOf_27 (by decide) ?_
    refine A_goto dX11_standardOf_28 ?_
    exact A_le (lvLe_s (lvLe_s (lvLe_s lvLe_0))) (JJ6 _ h)
-- BenchTimesModel.of
theorem dX11_of_0 : di cX11_of 0 (.aload_n 0) 1 1 := ⟨by decide +kernel, rfl⟩
theorem dX11_of_1 : di cX11_of 1 (.iload_n 1) 1 2 := ⟨by decide +kernel, rfl⟩
theorem dX11_of_2 : di cX11_of 2 (.invokevirtual 141) 3 5 := ⟨by decide +kernel, rfl⟩
theorem dX11_of_5 : dj cX11_of 5 (.ifCond .eq) 8 18 := ⟨13, by decide +kernel, rfl, rfl⟩
theorem dX11_of_8 : di cX11_of 8 (.iload_n 2) 1 9 := ⟨by decide +kernel, rfl⟩
theorem dX11_of_9 : di cX11_of 9 (.iconst 0) 1 10 := ⟨by decide +kernel, rfl⟩
theorem dX11_of_10 : di cX11_of 10 (.bipush 6) 2 12 := ⟨by decide +kernel, rfl⟩
theorem dX11_of_12 : di cX11_of 12 (.invokestatic 133) 3 15 := ⟨by decide +kernel, rfl⟩
theorem dX11_of_15 : dj cX11_of 15 (.ifCond .ne) 18 24 := ⟨9, by decide +kernel, rfl, rfl⟩
theorem dX11_of_18 : di cX11_of 18 (.aload_n 0) 1 19 := ⟨by decide +kernel, rfl⟩
theorem dX11_of_19 : di cX11_of 19 (.iconst 1) 1 20 := ⟨by decide +kernel, rfl⟩
theorem dX11_of_20 : di cX11_of 20 (.invokevirtual 137) 3 23 := ⟨by decide +kernel, rfl⟩
theorem dX11_of_23 : di cX11_of 23 (.ireturn) 1 24 := ⟨by decide +kernel, rfl⟩
theorem dX11_of_24 : di cX11_of 24 (.iload_n 2) 1 25 := ⟨by decide +kernel, rfl⟩
theorem dX11_of_25 : di cX11_of 25 (.iconst 2) 1 26 := ⟨by decide +kernel, rfl⟩
theorem dX11_of_26 : dj cX11_of 26 (.if_icmp .ge) 29 48 := ⟨22, by decide +kernel, rfl, rfl⟩
theorem dX11_of_29 : di cX11_of 29 (.iload_n 2) 1 30 := ⟨by decide +kernel, rfl⟩
theorem dX11_of_30 : dj cX11_of 30 (.ifCond .ne) 33 42 := ⟨12, by decide +kernel, rfl, rfl⟩
theorem dX11_of_33 : di cX11_of 33 (.aload_n 0) 1 34 := ⟨by decide +kernel, rfl⟩
theorem dX11_of_34 : di cX11_of 34 (.getfield 7) 3 37 := ⟨by decide +kernel, rfl⟩
theorem dX11_of_37 : di cX11_of 37 (.iload_n 1) 1 38 := ⟨by decide +kernel, rfl⟩
theorem dX11_of_38 : di cX11_of 38 (.iaload) 1 39 := ⟨by decide +kernel, rfl⟩
theorem dX11_of_39 : dj cX11_of 39 .goto 42 47 := ⟨8, by decide +kernel, rfl, rfl⟩
theorem dX11_of_42 : di cX11_of 42 (.aload_n 0) 1 43 := ⟨by decide +kernel, rfl⟩
theorem dX11_of_43 : di cX11_of 43 (.iload_n 1) 1 44 := ⟨by decide +kernel, rfl⟩
theorem dX11_of_44 : di cX11_of 44 (.invokevirtual 167) 3 47 := ⟨by decide +kernel, rfl⟩
theorem dX11_of_47 : di cX11_of 47 (.ireturn) 1 48 := ⟨by decide +kernel, rfl⟩
theorem dX11_of_48 : di cX11_of 48 (.aload_n 0) 1 49 := ⟨by decide +kernel, rfl⟩
theorem dX11_of_49 : di cX11_of 49 (.iload_n 1) 1 50 := ⟨by decide +kernel, rfl⟩
theorem dX11_of_50 : di cX11_of 50 (.invokevirtual 167) 3 53 := ⟨by decide +kernel, rfl⟩
theorem dX11_of_53 : dj cX11_of 53 (.ifCond .ne) 56 62 := ⟨9, by decide +kernel, rfl, rfl⟩
theorem dX11_of_56 : di cX11_of 56 (.aload_n 0) 1 57 := ⟨by decide +kernel, rfl⟩
theorem dX11_of_57 : di cX11_of 57 (.iconst 2) 1 58 := ⟨by decide +kernel, rfl⟩
theorem dX11_of_58 : di cX11_of 58 (.invokevirtual 137) 3 61 := ⟨by decide +kernel, rfl⟩
theorem dX11_of_61 : di cX11_of 61 (.ireturn) 1 62 := ⟨by decide +kernel, rfl⟩
theorem dX11_of_62 : di cX11_of 62 (.iload_n 2) 1 63 := ⟨by decide +kernel, rfl⟩
theorem dX11_of_63 : di cX11_of 63 (.iconst 4) 1 64 := ⟨by decide +kernel, rfl⟩
theorem dX11_of_64 : dj cX11_of 64 (.if_icmp .ne) 67 75 := ⟨11, by decide +kernel, rfl, rfl⟩
theorem dX11_of_67 : di cX11_of 67 (.aload_n 0) 1 68 := ⟨by decide +kernel, rfl⟩
theorem dX11_of_68 : di cX11_of 68 (.iload_n 1) 1 69 := ⟨by decide +kernel, rfl⟩
theorem dX11_of_69 : di cX11_of 69 (.invokevirtual 170) 3 72 := ⟨by decide +kernel, rfl⟩
theorem dX11_of_72 : dj cX11_of 72 .goto 75 81 := ⟨9, by decide +kernel, rfl, rfl⟩
theorem dX11_of_75 : di cX11_of 75 (.aload_n 0) 1 76 := ⟨by decide +kernel, rfl⟩
theorem dX11_of_76 : di cX11_of 76 (.iload_n 1) 1 77 := ⟨by decide +kernel, rfl⟩
theorem dX11_of_77 : di cX11_of 77 (.iload_n 2) 1 78 := ⟨by decide +kernel, rfl⟩
theorem dX11_of_78 : di cX11_of 78 (.invokevirtual 163) 3 81 := ⟨by decide +kernel, rfl⟩
theorem dX11_of_81 : di cX11_of 81 (.ireturn) 1 82 := ⟨by decide +kernel, rfl⟩
def f_X11_of (v1 : Int32) (v2 : Int32) (M : Mem) : Option Ret := bE (f_X11_isElement v1 M) (fun r2 M1 => if r2 = 0 then (bE (f_X11_finding (1 : Int32) M1) (fun r4 M3 => some (r4, M3))) else (bE (f_X11_isIn v2 (0 : Int32) (6 : Int32) M1) (fun r6 M5 => if r6 = 0 then (bE (f_X11_finding (1 : Int32) M5) (fun r24 M23 => some (r24, M23))) else (if (2 : Int32) ≤ v2 then (bE (f_X11_cyclesOf v1 M5) (fun r8 M7 => if r8 = 0 then (bE (f_X11_finding (2 : Int32) M7) (fun r17 M16 => some (r17, M16))) else (jn (α := Int32 → Mem → Option Ret) (fun (z10 : Int32) (M11 : Mem) => some (z10, M11)) (fun J9 => if v2 = (4 : Int32) then (bE (f_X11_standardOf v1 M7) (fun r15 M14 => J9 r15 M14)) else (bE (f_X11_keptOf v1 v2 M7) (fun r13 M12 => J9 r13 M12)))))) else (jn (α := Int32 → Mem → Option Ret) (fun (z19 : Int32) (M20 : Mem) => some (z19, M20)) (fun J18 => if v2 = 0 then (gV v1 12 (J18 (M5.1 66 v1.toNatClampNeg) M5)) else (bE (f_X11_cyclesOf v1 M5) (fun r22 M21 => J18 r22 M21))))))))
set_option maxRecDepth 100000 in
theorem ok_X11_of {l : Launch} {g : Cx} {v1 : Int32} {v2 : Int32} {M : Mem} {r : Int32} {Mr : Mem} (h : f_X11_of v1 v2 M = some (r, Mr)) : CT l g yX11_of cX11_of 3 (some .int) 4 98 [.ref (g.1 11), .int v1, .int v2] M (PI r Mr) := by
  refine CT_of (lv := [some (.ref (g.1 11)), some (.int v1), some (.int v2)]) (by decide) rfl (Nat.le_of_ble_eq_true rfl) ?_
  unfold f_X11_of at h
  refine A_aload_n dX11_of_0 rfl ?_
  refine A_iload_n dX11_of_1 rfl ?_
  obtain ⟨r2, M1, h1, h⟩ := bE_go h
  refine A_cVi1 dX11_of_2 ml_X11_141 mb_X11_isElement mi_X11_isElement ob11 rfl rfl ⟨Nat.le_of_ble_eq_true rfl, Nat.le_of_ble_eq_true rfl⟩ (Nat.le_of_ble_eq_true rfl) (ok_X11_isElement h1) ?_
  refine A_if_eq dX11_of_5 (fun hc => ?_) (fun hc => ?_)
  · have h := gT_go hc h
    refine A_aload_n dX11_of_18 rfl ?_
    refine A_iconst (v := 1) dX11_of_19 (by decide) ?_
    obtain ⟨r4, M3, h1, h⟩ := bE_go h
    refine A_cVi1 dX11_of_20 ml_X11_137 mb_X11_finding mi_X11_finding ob11 rfl rfl ⟨Nat.le_of_ble_eq_true rfl, Nat.le_of_ble_eq_true rfl⟩ (Nat.le_of_ble_eq_true rfl) (ok_X11_finding h1) ?_
    exact A_iret dX11_of_23 (pI_go h)
  · have h := gF_go hc h
    refine A_iload_n dX11_of_8 rfl ?_
    refine A_iconst (v := 0) dX11_of_9 (by decide) ?_
    refine A_bipush (v := 6) dX11_of_10 (by decide) ?_
    obtain ⟨r6, M5, h1, h⟩ := bE_go h
    refine A_cSi3 dX11_of_12 ml_X11_133 mb_X11_isIn ms_X11_isIn ⟨Nat.le_of_ble_eq_true rfl, Nat.le_of_ble_eq_true rfl⟩ (Nat.le_of_ble_eq_true rfl) (ok_X11_isIn h1) ?_
    refine A_if_ne dX11_of_15 (fun hc => ?_) (fun hc => ?_)
    · have h := gF_go hc h
      refine A_iload_n dX11_of_24 rfl ?_
      refine A_iconst (v := 2) dX11_of_25 (by decide) ?_
      refine A_icmp_ge dX11_of_26 (fun hc => ?_) (fun hc => ?_)
      · have h := gT_go hc h
        refine A_aload_n dX11_of_48 rfl ?_
        refine A_iload_n dX11_of_49 rfl ?_
        obtain ⟨r8, M7, h1, h⟩ := bE_go h
        refine A_cVi1 dX11_of_50 ml_X11_167 mb_X11_cyclesOf mi_X11_cyclesOf ob11 rfl rfl ⟨Nat.le_of_ble_eq_true rfl, Nat.le_of_ble_eq_true rfl⟩ (Nat.le_of_ble_eq_true rfl) (ok_X11_cyclesOf h1) ?_
        refine A_if_ne dX11_of_53 (fun hc => ?_) (fun hc => ?_)
        · have h := gF_go hc h
          refine A_iload_n dX11_of_62 rfl ?_
          refine A_iconst (v := 4) dX11_of_63 (by decide) ?_
          obtain ⟨J9, hJ9, h⟩ := jn_go h
          have JJ9 : ∀ (z10 : Int32) (M11 : Mem), J9 z10 M11 = some (r, Mr) → AT l g RX11 cX11_of 3 (some .int) (rmM 4 98) (PI r Mr) 81 [some (.ref (g.1 11)), some (.int v1), some (.int v2)] [.int z10] M11 := by
            intro z10 M11 h
            rw [hJ9] at h
            exact A_iret dX11_of_81 (pI_go h)
          refine A_icmp_ne dX11_of_64 (fun hc => ?_) (fun hc => ?_)
          · have h := gF_go hc h
            refine A_aload_n dX11_of_75 rfl ?_
            refine A_iload_n dX11_of_76 rfl ?_
            refine A_iload_n dX11_of_77 rfl ?_
            obtain ⟨r13, M12, h1, h⟩ := bE_go h
            refine A_cVi2 dX11_of_78 ml_X11_163 mb_X11_keptOf mi_X11_keptOf ob11 rfl rfl ⟨Nat.le_of_ble_eq_true rfl, Nat.le_of_ble_eq_true rfl⟩ (Nat.le_of_ble_eq_true rfl) (ok_X11_keptOf h1) ?_
            exact A_le (lvLe_s (lvLe_s (lvLe_s lvLe_0))) (JJ9 _ _ h)
          · have h := gT_go hc h
            refine A_aload_n dX11_of_67 rfl ?_
            refine A_iload_n dX11_of_68 rfl ?_
            obtain ⟨r15, M14, h1, h⟩ := bE_go h
            refine A_cVi1 dX11_of_69 ml_X11_170 mb_X11_standardOf mi_X11_standardOf ob11 rfl rfl ⟨Nat.le_of_ble_eq_true rfl, Nat.le_of_ble_eq_true rfl⟩ (Nat.le_of_ble_eq_true rfl) (ok_X11_standardOf h1) ?_
            refine A_goto dX11_of_72 ?_
            exact A_le (lvLe_s (lvLe_s (lvLe_s lvLe_0))) (JJ9 _ _ h)
        · have h := gT_go hc h
          refine A_aload_n dX11_of_56 rfl ?_
          refine A_iconst (v := 2) dX11_of_57 (by decide) ?_
          obtain ⟨r17, M16, h1, h⟩ := bE_go h
          refine A_cVi1 dX11_of_58 ml_X11_137 mb_X11_finding mi_X11_finding ob11 rfl rfl ⟨Nat.le_of_ble_eq_true rfl, Nat.le_of_ble_eq_true rfl⟩ (Nat.le_of_ble_eq_true rfl) (ok_X11_finding h1) ?_
          exact A_iret dX11_of_61 (pI_go h)
      · have h := gF_go hc h
        refine A_iload_n dX11_of_29 rfl ?_
        obtain ⟨J18, hJ18, h⟩ := jn_go h
        have JJ18 : ∀ (z19 : Int32) (M20 : Mem), J18 z19 M20 = some (r, Mr) → AT l g RX11 cX11_of 3 (some .int) (rmM 4 98) (PI r Mr) 47 [some (.ref (g.1 11)), some (.int v1), some (.int v2)] [.int z19] M20 := by
          intro z19 M20 h
          rw [hJ18] at h
          exact A_iret dX11_of_47 (pI_go h)
        refine A_if_ne dX11_of_30 (fun hc => ?_) (fun hc => ?_)
        · have h := gF_go hc h
          refine A_aload_n dX11_of_42 rfl ?_
          refine A_iload_n dX11_of_43 rfl ?_
          obtain ⟨r22, M21, h1, h⟩ := bE_go h
          refine A_cVi1 dX11_of_44 ml_X11_167 mb_X11_cyclesOf mi_X11_cyclesOf ob11 rfl rfl ⟨Nat.le_of_ble_eq_true rfl, Nat.le_of_ble_eq_true rfl⟩ (Nat.le_of_ble_eq_true rfl) (ok_X11_cyclesOf h1) ?_
          exact A_le (lvLe_s (lvLe_s (lvLe_s lvLe_0))) (JJ18 _ _ h)
        · have h := gT_go hc h
          refine A_aload_n dX11_of_33 rfl ?_
          refine A_getf dX11_of_34 fw_X11_7 ob11 rfl ?_
          refine A_iload_n dX11_of_37 rfl ?_
          obtain ⟨hg, h⟩ := gV_go h
          refine A_iald dX11_of_38 ia66 hg ?_
          refine A_goto dX11_of_39 ?_
          exact A_le (lvLe_s (lvLe_s (lvLe_s lvLe_0))) (JJ18 _ _ h)
    · have h := gT_go hc h
      refine A_aload_n dX11_of_18 rfl ?_
      refine A_iconst (v := 1) dX11_of_19 (by decide) ?_
      obtain ⟨r24, M23, h1, h⟩ := bE_go h
      refine A_cVi1 dX11_of_20 ml_X11_137 mb_X11_finding mi_X11_finding ob11 rfl rfl ⟨Nat.le_of_ble_eq_true rfl, Nat.le_of_ble_eq_true rfl⟩ (Nat.le_of_ble_eq_true rfl) (ok_X11_finding h1) ?_
      exact A_iret dX11_of_23 (pI_go h)
end
