-- BenchTimes.read
theorem dX10_read_0 : di cX10_read 0 (.aload_n 0) 1 1 := ⟨by decide +kernel, rfl⟩
theorem dX10_read_1 : di cX10_read 1 (.getfield 48) 3 4 := ⟨by decide +kernel, rfl⟩
theorem dX10_read_4 : di cX10_read 4 (.invokevirtual 234) 3 7 := ⟨by decide +kernel, rfl⟩
theorem dX10_read_7 : di cX10_read 7 (.ireturn) 1 8 := ⟨by decide +kernel, rfl⟩
def f_X10_read  (M : Mem) : Option Ret := bE (f_X5_takeTape M) (fun r2 M1 => some (r2, M1))
set_option maxRecDepth 100000 in
theorem ok_X10_read {l : Launch} {g : Cx}  {M : Mem} {r : Int32} {Mr : Mem} (h : f_X10_read  M = some (r, Mr)) : CT l g yX10_read cX10_read 1 (some .int) 10 216 [.ref (g.1 0)] M (PI r Mr) := by
  refine CT_of (lv := [some (.ref (g.1 0))]) (by decide) rfl (Nat.le_of_ble_eq_true rfl) ?_
  unfold f_X10_read at h
  refine A_aload_n dX10_read_0 rfl ?_
  refine A_getf dX10_read_1 fw_X10_48 ob0 rfl ?_
  obtain ⟨r2, M1, h1, h⟩ := bE_go h
  refine A_cVi0 dX10_read_4 ml_X10_234 mb_X5_takeTape mi_X5_takeTape ob5 rfl rfl ⟨Nat.le_of_ble_eq_true rfl, Nat.le_of_ble_eq_true rfl⟩ (Nat.le_of_ble_eq_true rfl) (ok_X5_takeTape h1) ?_
  exact A_iret dX10_read_7 (pI_go h)
-- BenchTimes.rule
theorem dX10_rule_0 : di cX10_rule 0 (.iload_n 1) 1 1 := ⟨by decide +kernel, rfl⟩
theorem dX10_rule_1 : di cX10_rule 1 (.iconst 0) 1 2 := ⟨by decide +kernel, rfl⟩
theorem dX10_rule_2 : di cX10_rule 2 (.iconst 4) 1 3 := ⟨by decide +kernel, rfl⟩
theorem dX10_rule_3 : di cX10_rule 3 (.invokestatic 121) 3 6 := ⟨by decide +kernel, rfl⟩
theorem dX10_rule_6 : dj cX10_rule 6 (.ifCond .ne) 9 15 := ⟨9, by decide +kernel, rfl, rfl⟩
theorem dX10_rule_9 : di cX10_rule 9 (.aload_n 0) 1 10 := ⟨by decide +kernel, rfl⟩
theorem dX10_rule_10 : di cX10_rule 10 (.iconst 1) 1 11 := ⟨by decide +kernel, rfl⟩
theorem dX10_rule_11 : di cX10_rule 11 (.invokevirtual 100) 3 14 := ⟨by decide +kernel, rfl⟩
theorem dX10_rule_14 : di cX10_rule 14 (.ireturn) 1 15 := ⟨by decide +kernel, rfl⟩
theorem dX10_rule_15 : di cX10_rule 15 (.aload_n 0) 1 16 := ⟨by decide +kernel, rfl⟩
theorem dX10_rule_16 : di cX10_rule 16 (.getfield 48) 3 19 := ⟨by decide +kernel, rfl⟩
theorem dX10_rule_19 : di cX10_rule 19 (.iload_n 1) 1 20 := ⟨by decide +kernel, rfl⟩
theorem dX10_rule_20 : di cX10_rule 20 (.invokevirtual 202) 3 23 := ⟨by decide +kernel, rfl⟩
theorem dX10_rule_23 : di cX10_rule 23 (.ireturn) 1 24 := ⟨by decide +kernel, rfl⟩
def f_X10_rule (v1 : Int32) (M : Mem) : Option Ret := bE (f_X10_isWithin v1 (0 : Int32) (4 : Int32) M) (fun r2 M1 => if r2 = 0 then (bE (f_X10_finding (1 : Int32) M1) (fun r6 M5 => some (r6, M5))) else (bE (f_X5_valueOf v1 M1) (fun r4 M3 => some (r4, M3))))
set_option maxRecDepth 100000 in
theorem ok_X10_rule {l : Launch} {g : Cx} {v1 : Int32} {M : Mem} {r : Int32} {Mr : Mem} (h : f_X10_rule v1 M = some (r, Mr)) : CT l g yX10_rule cX10_rule 2 (some .int) 1 22 [.ref (g.1 0), .int v1] M (PI r Mr) := by
  refine CT_of (lv := [some (.ref (g.1 0)), some (.int v1)]) (by decide) rfl (Nat.le_of_ble_eq_true rfl) ?_
  unfold f_X10_rule at h
  refine A_iload_n dX10_rule_0 rfl ?_
  refine A_iconst (v := 0) dX10_rule_1 (by decide) ?_
  refine A_iconst (v := 4) dX10_rule_2 (by decide) ?_
  obtain ⟨r2, M1, h1, h⟩ := bE_go h
  refine A_cSi3 dX10_rule_3 ml_X10_121 mb_X10_isWithin ms_X10_isWithin ⟨Nat.le_of_ble_eq_true rfl, Nat.le_of_ble_eq_true rfl⟩ (Nat.le_of_ble_eq_true rfl) (ok_X10_isWithin h1) ?_
  refine A_if_ne dX10_rule_6 (fun hc => ?_) (fun hc => ?_)
  · have h := gF_go hc h
    refine A_aload_n dX10_rule_15 rfl ?_
    refine A_getf dX10_rule_16 fw_X10_48 ob0 rfl ?_
    refine A_iload_n dX10_rule_19 rfl ?_
    obtain ⟨r4, M3, h1, h⟩ := bE_go h
    refine A_cVi1 dX10_rule_20 ml_X10_202 mb_X5_valueOf mi_X5_valueOf ob5 rfl rfl ⟨Nat.le_of_ble_eq_true rfl, Nat.le_of_ble_eq_true rfl⟩ (Nat.le_of_ble_eq_true rfl) (ok_X5_valueOf h1) ?_
    exact A_iret dX10_rule_23 (pI_go h)
  · have h := gT_go hc h
    refine A_aload_n dX10_rule_9 rfl ?_
    refine A_iconst (v := 1) dX10_rule_10 (by decide) ?_
    obtain ⟨r6, M5, h1, h⟩ := bE_go h
    refine A_cVi1 dX10_rule_11 ml_X10_100 mb_X10_finding mi_X10_finding ob0 rfl rfl ⟨Nat.le_of_ble_eq_true rfl, Nat.le_of_ble_eq_true rfl⟩ (Nat.le_of_ble_eq_true rfl) (ok_X10_finding h1) ?_
    exact A_iret dX10_rule_14 (pI_go h)
-- BenchTimes.isWorker
theorem dX10_isWorker_0 : di cX10_isWorker 0 (.iload_n 0) 1 1 := ⟨by decide +kernel, rfl⟩
theorem dX10_isWorker_1 : di cX10_isWorker 1 (.iconst 0) 1 2 := ⟨by decide +kernel, rfl⟩
theorem dX10_isWorker_2 : di cX10_isWorker 2 (.bipush 7) 2 4 := ⟨by decide +kernel, rfl⟩
theorem dX10_isWorker_4 : di cX10_isWorker 4 (.invokestatic 121) 3 7 := ⟨by decide +kernel, rfl⟩
theorem dX10_isWorker_7 : di cX10_isWorker 7 (.ireturn) 1 8 := ⟨by decide +kernel, rfl⟩
def f_X10_isWorker (v0 : Int32) (M : Mem) : Option Ret := bE (f_X10_isWithin v0 (0 : Int32) (7 : Int32) M) (fun r2 M1 => gZ r2 (some (r2, M1)))
set_option maxRecDepth 100000 in
theorem ok_X10_isWorker {l : Launch} {g : Cx} {v0 : Int32} {M : Mem} {r : Int32} {Mr : Mem} (h : f_X10_isWorker v0 M = some (r, Mr)) : CT l g yX10_isWorker cX10_isWorker 1 (some .boolean) 1 22 [.int v0] M (PI r Mr) := by
  refine CT_of (lv := [some (.int v0)]) (by decide) rfl (Nat.le_of_ble_eq_true rfl) ?_
  unfold f_X10_isWorker at h
  refine A_iload_n dX10_isWorker_0 rfl ?_
  refine A_iconst (v := 0) dX10_isWorker_1 (by decide) ?_
  refine A_bipush (v := 7) dX10_isWorker_2 (by decide) ?_
  obtain ⟨r2, M1, h1, h⟩ := bE_go h
  refine A_cSi3 dX10_isWorker_4 ml_X10_121 mb_X10_isWithin ms_X10_isWithin ⟨Nat.le_of_ble_eq_true rfl, Nat.le_of_ble_eq_true rfl⟩ (Nat.le_of_ble_eq_true rfl) (ok_X10_isWithin h1) ?_
  obtain ⟨hg, h⟩ := gZ_go h
  exact A_zret dX10_isWorker_7 hg (pI_go h)
-- BenchTimes.isOn
theorem dX10_isOn_0 : di cX10_isOn 0 (.iload_n 1) 1 1 := ⟨by decide +kernel, rfl⟩
theorem dX10_isOn_1 : dj cX10_isOn 1 (.ifCond .lt) 4 32 := ⟨31, by decide +kernel, rfl, rfl⟩
theorem dX10_isOn_4 : di cX10_isOn 4 (.aload_n 0) 1 5 := ⟨by decide +kernel, rfl⟩
theorem dX10_isOn_5 : di cX10_isOn 5 (.getfield 32) 3 8 := ⟨by decide +kernel, rfl⟩
theorem dX10_isOn_8 : di cX10_isOn 8 (.iload_n 1) 1 9 := ⟨by decide +kernel, rfl⟩
theorem dX10_isOn_9 : di cX10_isOn 9 (.bipush 10) 2 11 := ⟨by decide +kernel, rfl⟩
theorem dX10_isOn_11 : di cX10_isOn 11 (.idiv) 1 12 := ⟨by decide +kernel, rfl⟩
theorem dX10_isOn_12 : di cX10_isOn 12 (.invokevirtual 172) 3 15 := ⟨by decide +kernel, rfl⟩
theorem dX10_isOn_15 : dj cX10_isOn 15 (.ifCond .eq) 18 32 := ⟨17, by decide +kernel, rfl, rfl⟩
theorem dX10_isOn_18 : di cX10_isOn 18 (.iload_n 1) 1 19 := ⟨by decide +kernel, rfl⟩
theorem dX10_isOn_19 : di cX10_isOn 19 (.bipush 10) 2 21 := ⟨by decide +kernel, rfl⟩
theorem dX10_isOn_21 : di cX10_isOn 21 (.irem) 1 22 := ⟨by decide +kernel, rfl⟩
theorem dX10_isOn_22 : di cX10_isOn 22 (.invokestatic 244) 3 25 := ⟨by decide +kernel, rfl⟩
theorem dX10_isOn_25 : dj cX10_isOn 25 (.ifCond .eq) 28 32 := ⟨7, by decide +kernel, rfl, rfl⟩
theorem dX10_isOn_28 : di cX10_isOn 28 (.iconst 1) 1 29 := ⟨by decide +kernel, rfl⟩
theorem dX10_isOn_29 : dj cX10_isOn 29 .goto 32 33 := ⟨4, by decide +kernel, rfl, rfl⟩
theorem dX10_isOn_32 : di cX10_isOn 32 (.iconst 0) 1 33 := ⟨by decide +kernel, rfl⟩
theorem dX10_isOn_33 : di cX10_isOn 33 (.ireturn) 1 34 := ⟨by decide +kernel, rfl⟩
def f_X10_isOn (v1 : Int32) (M : Mem) : Option Ret := jn (α := Int32 → Mem → Option Ret) (fun (z2 : Int32) (M3 : Mem) => gZ z2 (some (z2, M3))) (fun J1 => if v1 < 0 then (J1 (0 : Int32) M) else (bE (f_X2_has (v1 / (10 : Int32)) M) (fun r5 M4 => if r5 = 0 then (J1 (0 : Int32) M4) else (bE (f_X10_isWorker (v1 - v1 / (10 : Int32) * (10 : Int32)) M4) (fun r7 M6 => if r7 = 0 then (J1 (0 : Int32) M6) else (J1 (1 : Int32) M6))))))
set_option maxRecDepth 100000 in
theorem ok_X10_isOn {l : Launch} {g : Cx} {v1 : Int32} {M : Mem} {r : Int32} {Mr : Mem} (h : f_X10_isOn v1 M = some (r, Mr)) : CT l g yX10_isOn cX10_isOn 2 (some .boolean) 2 43 [.ref (g.1 0), .int v1] M (PI r Mr) := by
  refine CT_of (lv := [some (.ref (g.1 0)), some (.int v1)]) (by decide) rfl (Nat.le_of_ble_eq_true rfl) ?_
  unfold f_X10_isOn at h
  refine A_iload_n dX10_isOn_0 rfl ?_
  obtain ⟨J1, hJ1, h⟩ := jn_go h
  have JJ1 : ∀ (z2 : Int32) (M3 : Mem), J1 z2 M3 = some (r, Mr) → AT l g RX10 cX10_isOn 2 (some .boolean) (rmM 2 43) (PI r Mr) 33 [some (.ref (g.1 0)), some (.int v1)] [.int z2] M3 := by
    intro z2 M3 h
    rw [hJ1] at h
    obtain ⟨hg, h⟩ := gZ_go h
    exact A_zret dX10_isOn_33 hg (pI_go h)
  refine A_if_lt dX10_isOn_1 (fun hc => ?_) (fun hc => ?_)
  · have h := gT_go hc h
    refine A_iconst (v := 0) dX10_isOn_32 (by decide) ?_
    exact A_le (lvLe_s (lvLe_s lvLe_0)) (JJ1 _ _ h)
  · have h := gF_go hc h
    refine A_aload_n dX10_isOn_4 rfl ?_
    refine A_getf dX10_isOn_5 fw_X10_32 ob0 rfl ?_
    refine A_iload_n dX10_isOn_8 rfl ?_
    refine A_bipush (v := 10) dX10_isOn_9 (by decide) ?_
    refine A_idiv dX10_isOn_11 (by decide) ?_
    obtain ⟨r5, M4, h1, h⟩ := bE_go h
    refine A_cVi1 dX10_isOn_12 ml_X10_172 mb_X2_has mi_X2_has ob3 rfl rfl ⟨Nat.le_of_ble_eq_true rfl, Nat.le_of_ble_eq_true rfl⟩ (Nat.le_of_ble_eq_true rfl) (ok_X2_has h1) ?_
    refine A_if_eq dX10_isOn_15 (fun hc => ?_) (fun hc => ?_)
    · have h := gT_go hc h
      refine A_iconst (v := 0) dX10_isOn_32 (by decide) ?_
      exact A_le (lvLe_s (lvLe_s lvLe_0)) (JJ1 _ _ h)
    · have h := gF_go hc h
      refine A_iload_n dX10_isOn_18 rfl ?_
      refine A_bipush (v := 10) dX10_isOn_19 (by decide) ?_
      refine A_irem dX10_isOn_21 (by decide) ?_
      obtain ⟨r7, M6, h1, h⟩ := bE_go h
      refine A_cSi1 dX10_isOn_22 ml_X10_244 mb_X10_isWorker ms_X10_isWorker ⟨Nat.le_of_ble_eq_true rfl, Nat.le_of_ble_eq_true rfl⟩ (Nat.le_of_ble_eq_true rfl) (ok_X10_isWorker h1) ?_
      refine A_if_eq dX10_isOn_25 (fun hc => ?_) (fun hc => ?_)
      · have h := gT_go hc h
        refine A_iconst (v := 0) dX10_isOn_32 (by decide) ?_
        exact A_le (lvLe_s (lvLe_s lvLe_0)) (JJ1 _ _ h)
      · have h := gF_go hc h
        refine A_iconst (v := 1) dX10_isOn_28 (by decide) ?_
        refine A_goto dX10_isOn_29 ?_
        exact A_le (lvLe_s (lvLe_s lvLe_0)) (JJ1 _ _ h)
-- BenchTimes.work
theorem dX10_work_0 : di cX10_work 0 (.iload_n 1) 1 1 := ⟨by decide +kernel, rfl⟩
theorem dX10_work_1 : di cX10_work 1 (.iconst 0) 1 2 := ⟨by decide +kernel, rfl⟩
theorem dX10_work_2 : di cX10_work 2 (.aload_n 0) 1 3 := ⟨by decide +kernel, rfl⟩
theorem dX10_work_3 : di cX10_work 3 (.getfield 189) 3 6 := ⟨by decide +kernel, rfl⟩
theorem dX10_work_6 : di cX10_work 6 (.invokestatic 121) 3 9 := ⟨by decide +kernel, rfl⟩
theorem dX10_work_9 : dj cX10_work 9 (.ifCond .eq) 12 30 := ⟨21, by decide +kernel, rfl, rfl⟩
theorem dX10_work_12 : di cX10_work 12 (.aload_n 0) 1 13 := ⟨by decide +kernel, rfl⟩
theorem dX10_work_13 : di cX10_work 13 (.iload_n 2) 1 14 := ⟨by decide +kernel, rfl⟩
theorem dX10_work_14 : di cX10_work 14 (.invokevirtual 237) 3 17 := ⟨by decide +kernel, rfl⟩
theorem dX10_work_17 : dj cX10_work 17 (.ifCond .eq) 20 30 := ⟨13, by decide +kernel, rfl, rfl⟩
theorem dX10_work_20 : di cX10_work 20 (.iload_n 3) 1 21 := ⟨by decide +kernel, rfl⟩
theorem dX10_work_21 : di cX10_work 21 (.iconst 0) 1 22 := ⟨by decide +kernel, rfl⟩
theorem dX10_work_22 : di cX10_work 22 (.ldc 240) 2 24 := ⟨by decide +kernel, rfl⟩
theorem dX10_work_24 : di cX10_work 24 (.invokestatic 121) 3 27 := ⟨by decide +kernel, rfl⟩
theorem dX10_work_27 : dj cX10_work 27 (.ifCond .ne) 30 36 := ⟨9, by decide +kernel, rfl, rfl⟩
theorem dX10_work_30 : di cX10_work 30 (.aload_n 0) 1 31 := ⟨by decide +kernel, rfl⟩
theorem dX10_work_31 : di cX10_work 31 (.iconst 1) 1 32 := ⟨by decide +kernel, rfl⟩
theorem dX10_work_32 : di cX10_work 32 (.invokevirtual 100) 3 35 := ⟨by decide +kernel, rfl⟩
theorem dX10_work_35 : di cX10_work 35 (.ireturn) 1 36 := ⟨by decide +kernel, rfl⟩
theorem dX10_work_36 : di cX10_work 36 (.iload 4) 2 38 := ⟨by decide +kernel, rfl⟩
theorem dX10_work_38 : di cX10_work 38 (.iconst 1) 1 39 := ⟨by decide +kernel, rfl⟩
theorem dX10_work_39 : di cX10_work 39 (.sipush 3000) 3 42 := ⟨by decide +kernel, rfl⟩
theorem dX10_work_42 : di cX10_work 42 (.invokestatic 121) 3 45 := ⟨by decide +kernel, rfl⟩
theorem dX10_work_45 : dj cX10_work 45 (.ifCond .ne) 48 66 := ⟨21, by decide +kernel, rfl, rfl⟩
theorem dX10_work_48 : di cX10_work 48 (.iload 4) 2 50 := ⟨by decide +kernel, rfl⟩
theorem dX10_work_50 : di cX10_work 50 (.sipush (-3000)) 3 53 := ⟨by decide +kernel, rfl⟩
theorem dX10_work_53 : di cX10_work 53 (.iconst (-1)) 1 54 := ⟨by decide +kernel, rfl⟩
theorem dX10_work_54 : di cX10_work 54 (.invokestatic 121) 3 57 := ⟨by decide +kernel, rfl⟩
theorem dX10_work_57 : dj cX10_work 57 (.ifCond .ne) 60 66 := ⟨9, by decide +kernel, rfl, rfl⟩
theorem dX10_work_60 : di cX10_work 60 (.aload_n 0) 1 61 := ⟨by decide +kernel, rfl⟩
theorem dX10_work_61 : di cX10_work 61 (.iconst 1) 1 62 := ⟨by decide +kernel, rfl⟩
theorem dX10_work_62 : di cX10_work 62 (.invokevirtual 100) 3 65 := ⟨by decide +kernel, rfl⟩
theorem dX10_work_65 : di cX10_work 65 (.ireturn) 1 66 := ⟨by decide +kernel, rfl⟩
theorem dX10_work_66 : di cX10_work 66 (.aload_n 0) 1 67 := ⟨by decide +kernel, rfl⟩
theorem dX10_work_67 : di cX10_work 67 (.getfield 41) 3 70 := ⟨by decide +kernel, rfl⟩
theorem dX10_work_70 : di cX10_work 70 (.iload_n 2) 1 71 := ⟨by decide +kernel, rfl⟩
theorem dX10_work_71 : di cX10_work 71 (.bipush 10) 2 73 := ⟨by decide +kernel, rfl⟩
theorem dX10_work_73 : di cX10_work 73 (.idiv) 1 74 := ⟨by decide +kernel, rfl⟩
theorem dX10_work_74 : di cX10_work 74 (.iload_n 1) 1 75 := ⟨by decide +kernel, rfl⟩
theorem dX10_work_75 : di cX10_work 75 (.invokevirtual 219) 3 78 := ⟨by decide +kernel, rfl⟩
theorem dX10_work_78 : di cX10_work 78 (.iconst (-1)) 1 79 := ⟨by decide +kernel, rfl⟩
theorem dX10_work_79 : dj cX10_work 79 (.if_icmp .ne) 82 88 := ⟨9, by decide +kernel, rfl, rfl⟩
theorem dX10_work_82 : di cX10_work 82 (.aload_n 0) 1 83 := ⟨by decide +kernel, rfl⟩
theorem dX10_work_83 : di cX10_work 83 (.iconst 2) 1 84 := ⟨by decide +kernel, rfl⟩
theorem dX10_work_84 : di cX10_work 84 (.invokevirtual 100) 3 87 := ⟨by decide +kernel, rfl⟩
theorem dX10_work_87 : di cX10_work 87 (.ireturn) 1 88 := ⟨by decide +kernel, rfl⟩
theorem dX10_work_88 : di cX10_work 88 (.aload_n 0) 1 89 := ⟨by decide +kernel, rfl⟩
theorem dX10_work_89 : di cX10_work 89 (.getfield 57) 3 92 := ⟨by decide +kernel, rfl⟩
theorem dX10_work_92 : di cX10_work 92 (.invokevirtual 241) 3 95 := ⟨by decide +kernel, rfl⟩
theorem dX10_work_95 : dj cX10_work 95 (.ifCond .eq) 98 104 := ⟨9, by decide +kernel, rfl, rfl⟩
theorem dX10_work_98 : di cX10_work 98 (.aload_n 0) 1 99 := ⟨by decide +kernel, rfl⟩
theorem dX10_work_99 : di cX10_work 99 (.iconst 4) 1 100 := ⟨by decide +kernel, rfl⟩
theorem dX10_work_100 : di cX10_work 100 (.invokevirtual 100) 3 103 := ⟨by decide +kernel, rfl⟩
theorem dX10_work_103 : di cX10_work 103 (.ireturn) 1 104 := ⟨by decide +kernel, rfl⟩
theorem dX10_work_104 : di cX10_work 104 (.aload_n 0) 1 105 := ⟨by decide +kernel, rfl⟩
theorem dX10_work_105 : di cX10_work 105 (.getfield 57) 3 108 := ⟨by decide +kernel, rfl⟩
theorem dX10_work_108 : di cX10_work 108 (.iload_n 1) 1 109 := ⟨by decide +kernel, rfl⟩
theorem dX10_work_109 : di cX10_work 109 (.iload_n 2) 1 110 := ⟨by decide +kernel, rfl⟩
theorem dX10_work_110 : di cX10_work 110 (.iload_n 3) 1 111 := ⟨by decide +kernel, rfl⟩
theorem dX10_work_111 : di cX10_work 111 (.iload 4) 2 113 := ⟨by decide +kernel, rfl⟩
theorem dX10_work_113 : di cX10_work 113 (.invokevirtual 242) 3 116 := ⟨by decide +kernel, rfl⟩
theorem dX10_work_116 : di cX10_work 116 (.ireturn) 1 117 := ⟨by decide +kernel, rfl⟩
def f_X10_work (v1 : Int32) (v2 : Int32) (v3 : Int32) (v4 : Int32) (M : Mem) : Option Ret := bE (f_X10_isWithin v1 (0 : Int32) (M.1 0 13) M) (fun r2 M1 => if r2 = 0 then (bE (f_X10_finding (1 : Int32) M1) (fun r4 M3 => some (r4, M3))) else (bE (f_X10_isOn v2 M1) (fun r6 M5 => if r6 = 0 then (bE (f_X10_finding (1 : Int32) M5) (fun r8 M7 => some (r8, M7))) else (bE (f_X10_isWithin v3 (0 : Int32) (999999 : Int32) M5) (fun r10 M9 => if r10 = 0 then (bE (f_X10_finding (1 : Int32) M9) (fun r38 M37 => some (r38, M37))) else (bE (f_X10_isWithin v4 (1 : Int32) (3000 : Int32) M9) (fun r12 M11 => if r12 = 0 then (bE (f_X10_isWithin v4 (-3000 : Int32) (-1 : Int32) M11) (fun r24 M23 => if r24 = 0 then (bE (f_X10_finding (1 : Int32) M23) (fun r36 M35 => some (r36, M35))) else (bE (f_X4_inForce (v2 / (10 : Int32)) v1 M23) (fun r26 M25 => if r26 = (-1 : Int32) then (bE (f_X10_finding (2 : Int32) M25) (fun r34 M33 => some (r34, M33))) else (bE (f_X9_isFull M25) (fun r28 M27 => if r28 = 0 then (bE (f_X9_add v1 v2 v3 v4 M27) (fun r30 M29 => some (r30, M29))) else (bE (f_X10_finding (4 : Int32) M27) (fun r32 M31 => some (r32, M31))))))))) else (bE (f_X4_inForce (v2 / (10 : Int32)) v1 M11) (fun r14 M13 => if r14 = (-1 : Int32) then (bE (f_X10_finding (2 : Int32) M13) (fun r22 M21 => some (r22, M21))) else (bE (f_X9_isFull M13) (fun r16 M15 => if r16 = 0 then (bE (f_X9_add v1 v2 v3 v4 M15) (fun r18 M17 => some (r18, M17))) else (bE (f_X10_finding (4 : Int32) M15) (fun r20 M19 => some (r20, M19))))))))))))))
set_option maxRecDepth 100000 in
theorem ok_X10_work {l : Launch} {g : Cx} {v1 : Int32} {v2 : Int32} {v3 : Int32} {v4 : Int32} {M : Mem} {r : Int32} {Mr : Mem} (h : f_X10_work v1 v2 v3 v4 M = some (r, Mr)) : CT l g yX10_work cX10_work 5 (some .int) 3 64 [.ref (g.1 0), .int v1, .int v2, .int v3, .int v4] M (PI r Mr) := by
  refine CT_of (lv := [some (.ref (g.1 0)), some (.int v1), some (.int v2), some (.int v3), some (.int v4)]) (by decide) rfl (Nat.le_of_ble_eq_true rfl) ?_
  unfold f_X10_work at h
  refine A_iload_n dX10_work_0 rfl ?_
  refine A_iconst (v := 0) dX10_work_1 (by decide) ?_
  refine A_aload_n dX10_work_2 rfl ?_
  refine A_getf dX10_work_3 fw_X10_189 ob0 rfl ?_
  obtain ⟨r2, M1, h1, h⟩ := bE_go h
  refine A_cSi3 dX10_work_6 ml_X10_121 mb_X10_isWithin ms_X10_isWithin ⟨Nat.le_of_ble_eq_true rfl, Nat.le_of_ble_eq_true rfl⟩ (Nat.le_of_ble_eq_true rfl) (ok_X10_isWithin h1) ?_
  refine A_if_eq dX10_work_9 (fun hc => ?_) (fun hc => ?_)
  · have h := gT_go hc h
    refine A_aload_n dX10_work_30 rfl ?_
    refine A_iconst (v := 1) dX10_work_31 (by decide) ?_
    obtain ⟨r4, M3, h1, h⟩ := bE_go h
    refine A_cVi1 dX10_work_32 ml_X10_100 mb_X10_finding mi_X10_finding ob0 rfl rfl ⟨Nat.le_of_ble_eq_true rfl, Nat.le_of_ble_eq_true rfl⟩ (Nat.le_of_ble_eq_true rfl) (ok_X10_finding h1) ?_
    exact A_iret dX10_work_35 (pI_go h)
  · have h := gF_go hc h
    refine A_aload_n dX10_work_12 rfl ?_
    refine A_iload_n dX10_work_13 rfl ?_
    obtain ⟨r6, M5, h1, h⟩ := bE_go h
    refine A_cVi1 dX10_work_14 ml_X10_237 mb_X10_isOn mi_X10_isOn ob0 rfl rfl ⟨Nat.le_of_ble_eq_true rfl, Nat.le_of_ble_eq_true rfl⟩ (Nat.le_of_ble_eq_true rfl) (ok_X10_isOn h1) ?_
    refine A_if_eq dX10_work_17 (fun hc => ?_) (fun hc => ?_)
    · have h := gT_go hc h
      refine A_aload_n dX10_work_30 rfl ?_
      refine A_iconst (v := 1) dX10_work_31 (by decide) ?_
      obtain ⟨r8, M7, h1, h⟩ := bE_go h
      refine A_cVi1 dX10_work_32 ml_X10_100 mb_X10_finding mi_X10_finding ob0 rfl rfl ⟨Nat.le_of_ble_eq_true rfl, Nat.le_of_ble_eq_true rfl⟩ (Nat.le_of_ble_eq_true rfl) (ok_X10_finding h1) ?_
      exact A_iret dX10_work_35 (pI_go h)
    · have h := gF_go hc h
      refine A_iload_n dX10_work_20 rfl ?_
      refine A_iconst (v := 0) dX10_work_21 (by decide) ?_
      refine A_ldc dX10_work_22 kc_X10_240 ?_
      obtain ⟨r10, M9, h1, h⟩ := bE_go h
      refine A_cSi3 dX10_work_24 ml_X10_121 mb_X10_isWithin ms_X10_isWithin ⟨Nat.le_of_ble_eq_true rfl, Nat.le_of_ble_eq_true rfl⟩ (Nat.le_of_ble_eq_true rfl) (ok_X10_isWithin h1) ?_
      refine A_if_ne dX10_work_27 (fun hc => ?_) (fun hc => ?_)
      · have h := gF_go hc h
        refine A_iload dX10_work_36 rfl ?_
        refine A_iconst (v := 1) dX10_work_38 (by decide) ?_
        refine A_sipush (v := 3000) dX10_work_39 (by decide) ?_
        obtain ⟨r12, M11, h1, h⟩ := bE_go h
        refine A_cSi3 dX10_work_42 ml_X10_121 mb_X10_isWithin ms_X10_isWithin ⟨Nat.le_of_ble_eq_true rfl, Nat.le_of_ble_eq_true rfl⟩ (Nat.le_of_ble_eq_true rfl) (ok_X10_isWithin h1) ?_
        refine A_if_ne dX10_work_45 (fun hc => ?_) (fun hc => ?_)
        · have h := gF_go hc h
          refine A_aload_n dX10_work_66 rfl ?_
          refine A_getf dX10_work_67 fw_X10_41 ob0 rfl ?_
          refine A_iload_n dX10_work_70 rfl ?_
          refine A_bipush (v := 10) dX10_work_71 (by decide) ?_
          refine A_idiv dX10_work_73 (by decide) ?_
          refine A_iload_n dX10_work_74 rfl ?_
          obtain ⟨r14, M13, h1, h⟩ := bE_go h
          refine A_cVi2 dX10_work_75 ml_X10_219 mb_X4_inForce mi_X4_inForce ob4 rfl rfl ⟨Nat.le_of_ble_eq_true rfl, Nat.le_of_ble_eq_true rfl⟩ (Nat.le_of_ble_eq_true rfl) (ok_X4_inForce h1) ?_
          refine A_iconst (v := -1) dX10_work_78 (by decide) ?_
          refine A_icmp_ne dX10_work_79 (fun hc => ?_) (fun hc => ?_)
          · have h := gF_go hc h
            refine A_aload_n dX10_work_88 rfl ?_
            refine A_getf dX10_work_89 fw_X10_57 ob0 rfl ?_
            obtain ⟨r16, M15, h1, h⟩ := bE_go h
            refine A_cVi0 dX10_work_92 ml_X10_241 mb_X9_isFull mi_X9_isFull ob6 rfl rfl ⟨Nat.le_of_ble_eq_true rfl, Nat.le_of_ble_eq_true rfl⟩ (Nat.le_of_ble_eq_true rfl) (ok_X9_isFull h1) ?_
            refine A_if_eq dX10_work_95 (fun hc => ?_) (fun hc => ?_)
            · have h := gT_go hc h
              refine A_aload_n dX10_work_104 rfl ?_
              refine A_getf dX10_work_105 fw_X10_57 ob0 rfl ?_
              refine A_iload_n dX10_work_108 rfl ?_
              refine A_iload_n dX10_work_109 rfl ?_
              refine A_iload_n dX10_work_110 rfl ?_
              refine A_iload dX10_work_111 rfl ?_
              obtain ⟨r18, M17, h1, h⟩ := bE_go h
              refine A_cVi4 dX10_work_113 ml_X10_242 mb_X9_add mi_X9_add ob6 rfl rfl ⟨Nat.le_of_ble_eq_true rfl, Nat.le_of_ble_eq_true rfl⟩ (Nat.le_of_ble_eq_true rfl) (ok_X9_add h1) ?_
              exact A_iret dX10_work_116 (pI_go h)
            · have h := gF_go hc h
              refine A_aload_n dX10_work_98 rfl ?_
              refine A_iconst (v := 4) dX10_work_99 (by decide) ?_
              obtain ⟨r20, M19, h1, h⟩ := bE_go h
              refine A_cVi1 dX10_work_100 ml_X10_100 mb_X10_finding mi_X10_finding ob0 rfl rfl ⟨Nat.le_of_ble_eq_true rfl, Nat.le_of_ble_eq_true rfl⟩ (Nat.le_of_ble_eq_true rfl) (ok_X10_finding h1) ?_
              exact A_iret dX10_work_103 (pI_go h)
          · have h := gT_go hc h
            refine A_aload_n dX10_work_82 rfl ?_
            refine A_iconst (v := 2) dX10_work_83 (by decide) ?_
            obtain ⟨r22, M21, h1, h⟩ := bE_go h
            refine A_cVi1 dX10_work_84 ml_X10_100 mb_X10_finding mi_X10_finding ob0 rfl rfl ⟨Nat.le_of_ble_eq_true rfl, Nat.le_of_ble_eq_true rfl⟩ (Nat.le_of_ble_eq_true rfl) (ok_X10_finding h1) ?_
            exact A_iret dX10_work_87 (pI_go h)
        · have h := gT_go hc h
          refine A_iload dX10_work_48 rfl ?_
          refine A_sipush (v := -3000) dX10_work_50 (by decide) ?_
          refine A_iconst (v := -1) dX10_work_53 (by decide) ?_
          obtain ⟨r24, M23, h1, h⟩ := bE_go h
          refine A_cSi3 dX10_work_54 ml_X10_121 mb_X10_isWithin ms_X10_isWithin ⟨Nat.le_of_ble_eq_true rfl, Nat.le_of_ble_eq_true rfl⟩ (Nat.le_of_ble_eq_true rfl) (ok_X10_isWithin h1) ?_
          refine A_if_ne dX10_work_57 (fun hc => ?_) (fun hc => ?_)
          · have h := gF_go hc h
            refine A_aload_n dX10_work_66 rfl ?_
            refine A_getf dX10_work_67 fw_X10_41 ob0 rfl ?_
            refine A_iload_n dX10_work_70 rfl ?_
            refine A_bipush (v := 10) dX10_work_71 (by decide) ?_
            refine A_idiv dX10_work_73 (by decide) ?_
            refine A_iload_n dX10_work_74 rfl ?_
            obtain ⟨r26, M25, h1, h⟩ := bE_go h
            refine A_cVi2 dX10_work_75 ml_X10_219 mb_X4_inForce mi_X4_inForce ob4 rfl rfl ⟨Nat.le_of_ble_eq_true rfl, Nat.le_of_ble_eq_true rfl⟩ (Nat.le_of_ble_eq_true rfl) (ok_X4_inForce h1) ?_
            refine A_iconst (v := -1) dX10_work_78 (by decide) ?_
            refine A_icmp_ne dX10_work_79 (fun hc => ?_) (fun hc => ?_)
            · have h := gF_go hc h
              refine A_aload_n dX10_work_88 rfl ?_
              refine A_getf dX10_work_89 fw_X10_57 ob0 rfl ?_
              obtain ⟨r28, M27, h1, h⟩ := bE_go h
              refine A_cVi0 dX10_work_92 ml_X10_241 mb_X9_isFull mi_X9_isFull ob6 rfl rfl ⟨Nat.le_of_ble_eq_true rfl, Nat.le_of_ble_eq_true rfl⟩ (Nat.le_of_ble_eq_true rfl) (ok_X9_isFull h1) ?_
              refine A_if_eq dX10_work_95 (fun hc => ?_) (fun hc => ?_)
              · have h := gT_go hc h
                refine A_aload_n dX10_work_104 rfl ?_
                refine A_getf dX10_work_105 fw_X10_57 ob0 rfl ?_
                refine A_iload_n dX10_work_108 rfl ?_
                refine A_iload_n dX10_work_109 rfl ?_
                refine A_iload_n dX10_work_110 rfl ?_
                refine A_iload dX10_work_111 rfl ?_
                obtain ⟨r30, M29, h1, h⟩ := bE_go h
                refine A_cVi4 dX10_work_113 ml_X10_242 mb_X9_add mi_X9_add ob6 rfl rfl ⟨Nat.le_of_ble_eq_true rfl, Nat.le_of_ble_eq_true rfl⟩ (Nat.le_of_ble_eq_true rfl) (ok_X9_add h1) ?_
                exact A_iret dX10_work_116 (pI_go h)
              · have h := gF_go hc h
                refine A_aload_n dX10_work_98 rfl ?_
                refine A_iconst (v := 4) dX10_work_99 (by decide) ?_
                obtain ⟨r32, M31, h1, h⟩ := bE_go h
                refine A_cVi1 dX10_work_100 ml_X10_100 mb_X10_finding mi_X10_finding ob0 rfl rfl ⟨Nat.le_of_ble_eq_true rfl, Nat.le_of_ble_eq_true rfl⟩ (Nat.le_of_ble_eq_true rfl) (ok_X10_finding h1) ?_
                exact A_iret dX10_work_103 (pI_go h)
            · have h := gT_go hc h
              refine A_aload_n dX10_work_82 rfl ?_
              refine A_iconst (v := 2) dX10_work_83 (by decide) ?_
              obtain ⟨r34, M33, h1, h⟩ := bE_go h
              refine A_cVi1 dX10_work_84 ml_X10_100 mb_X10_finding mi_X10_finding ob0 rfl rfl ⟨Nat.le_of_ble_eq_true rfl, Nat.le_of_ble_eq_true rfl⟩ (Nat.le_of_ble_eq_true rfl) (ok_X10_finding h1) ?_
              exact A_iret dX10_work_87 (pI_go h)
          · have h := gT_go hc h
            refine A_aload_n dX10_work_60 rfl ?_
            refine A_iconst (v := 1) dX10_work_61 (by decide) ?_
            obtain ⟨r36, M35, h1, h⟩ := bE_go h
            refine A_cVi1 dX10_work_62 ml_X10_100 mb_X10_finding mi_X10_finding ob0 rfl rfl ⟨Nat.le_of_ble_eq_true rfl, Nat.le_of_ble_eq_true rfl⟩ (Nat.le_of_ble_eq_true rfl) (ok_X10_finding h1) ?_
            exact A_iret dX10_work_65 (pI_go h)
      · have h := gT_go hc h
        refine A_aload_n dX10_work_30 rfl ?_
        refine A_iconst (v := 1) dX10_work_31 (by decide) ?_
        obtain ⟨r38, M37, h1, h⟩ := bE_go h
        refine A_cVi1 dX10_work_32 ml_X10_100 mb_X10_finding mi_X10_finding ob0 rfl rfl ⟨Nat.le_of_ble_eq_true rfl, Nat.le_of_ble_eq_true rfl⟩ (Nat.le_of_ble_eq_true rfl) (ok_X10_finding h1) ?_
        exact A_iret dX10_work_35 (pI_go h)
-- BenchTimes.isCause
theorem dX10_isCause_0 : di cX10_isCause 0 (.iload_n 0) 1 1 := ⟨by decide +kernel, rfl⟩
theorem dX10_isCause_1 : di cX10_isCause 1 (.iconst 0) 1 2 := ⟨by decide +kernel, rfl⟩
theorem dX10_isCause_2 : di cX10_isCause 2 (.iconst 3) 1 3 := ⟨by decide +kernel, rfl⟩
theorem dX10_isCause_3 : di cX10_isCause 3 (.invokestatic 121) 3 6 := ⟨by decide +kernel, rfl⟩
theorem dX10_isCause_6 : di cX10_isCause 6 (.ireturn) 1 7 := ⟨by decide +kernel, rfl⟩
def f_X10_isCause (v0 : Int32) (M : Mem) : Option Ret := bE (f_X10_isWithin v0 (0 : Int32) (3 : Int32) M) (fun r2 M1 => gZ r2 (some (r2, M1)))
set_option maxRecDepth 100000 in
theorem ok_X10_isCause {l : Launch} {g : Cx} {v0 : Int32} {M : Mem} {r : Int32} {Mr : Mem} (h : f_X10_isCause v0 M = some (r, Mr)) : CT l g yX10_isCause cX10_isCause 1 (some .boolean) 1 22 [.int v0] M (PI r Mr) := by
  refine CT_of (lv := [some (.int v0)]) (by decide) rfl (Nat.le_of_ble_eq_true rfl) ?_
  unfold f_X10_isCause at h
  refine A_iload_n dX10_isCause_0 rfl ?_
  refine A_iconst (v := 0) dX10_isCause_1 (by decide) ?_
  refine A_iconst (v := 3) dX10_isCause_2 (by decide) ?_
  obtain ⟨r2, M1, h1, h⟩ := bE_go h
  refine A_cSi3 dX10_isCause_3 ml_X10_121 mb_X10_isWithin ms_X10_isWithin ⟨Nat.le_of_ble_eq_true rfl, Nat.le_of_ble_eq_true rfl⟩ (Nat.le_of_ble_eq_true rfl) (ok_X10_isWithin h1) ?_
  obtain ⟨hg, h⟩ := gZ_go h
  exact A_zret dX10_isCause_6 hg (pI_go h)
-- BenchTimes.wait
theorem dX10_wait_0 : di cX10_wait 0 (.iload_n 1) 1 1 := ⟨by decide +kernel, rfl⟩
theorem dX10_wait_1 : di cX10_wait 1 (.iconst 0) 1 2 := ⟨by decide +kernel, rfl⟩
theorem dX10_wait_2 : di cX10_wait 2 (.aload_n 0) 1 3 := ⟨by decide +kernel, rfl⟩
theorem dX10_wait_3 : di cX10_wait 3 (.getfield 189) 3 6 := ⟨by decide +kernel, rfl⟩
theorem dX10_wait_6 : di cX10_wait 6 (.invokestatic 121) 3 9 := ⟨by decide +kernel, rfl⟩
theorem dX10_wait_9 : dj cX10_wait 9 (.ifCond .eq) 12 38 := ⟨29, by decide +kernel, rfl, rfl⟩
theorem dX10_wait_12 : di cX10_wait 12 (.iload_n 2) 1 13 := ⟨by decide +kernel, rfl⟩
theorem dX10_wait_13 : di cX10_wait 13 (.invokestatic 244) 3 16 := ⟨by decide +kernel, rfl⟩
theorem dX10_wait_16 : dj cX10_wait 16 (.ifCond .eq) 19 38 := ⟨22, by decide +kernel, rfl, rfl⟩
theorem dX10_wait_19 : di cX10_wait 19 (.iload_n 3) 1 20 := ⟨by decide +kernel, rfl⟩
theorem dX10_wait_20 : di cX10_wait 20 (.invokestatic 247) 3 23 := ⟨by decide +kernel, rfl⟩
theorem dX10_wait_23 : dj cX10_wait 23 (.ifCond .eq) 26 38 := ⟨15, by decide +kernel, rfl, rfl⟩
theorem dX10_wait_26 : di cX10_wait 26 (.iload 4) 2 28 := ⟨by decide +kernel, rfl⟩
theorem dX10_wait_28 : di cX10_wait 28 (.iconst 1) 1 29 := ⟨by decide +kernel, rfl⟩
theorem dX10_wait_29 : di cX10_wait 29 (.sipush 3000) 3 32 := ⟨by decide +kernel, rfl⟩
theorem dX10_wait_32 : di cX10_wait 32 (.invokestatic 121) 3 35 := ⟨by decide +kernel, rfl⟩
theorem dX10_wait_35 : dj cX10_wait 35 (.ifCond .ne) 38 44 := ⟨9, by decide +kernel, rfl, rfl⟩
theorem dX10_wait_38 : di cX10_wait 38 (.aload_n 0) 1 39 := ⟨by decide +kernel, rfl⟩
theorem dX10_wait_39 : di cX10_wait 39 (.iconst 1) 1 40 := ⟨by decide +kernel, rfl⟩
theorem dX10_wait_40 : di cX10_wait 40 (.invokevirtual 100) 3 43 := ⟨by decide +kernel, rfl⟩
theorem dX10_wait_43 : di cX10_wait 43 (.ireturn) 1 44 := ⟨by decide +kernel, rfl⟩
theorem dX10_wait_44 : di cX10_wait 44 (.aload_n 0) 1 45 := ⟨by decide +kernel, rfl⟩
theorem dX10_wait_45 : di cX10_wait 45 (.getfield 64) 3 48 := ⟨by decide +kernel, rfl⟩
theorem dX10_wait_48 : di cX10_wait 48 (.invokevirtual 250) 3 51 := ⟨by decide +kernel, rfl⟩
theorem dX10_wait_51 : dj cX10_wait 51 (.ifCond .eq) 54 60 := ⟨9, by decide +kernel, rfl, rfl⟩
theorem dX10_wait_54 : di cX10_wait 54 (.aload_n 0) 1 55 := ⟨by decide +kernel, rfl⟩
theorem dX10_wait_55 : di cX10_wait 55 (.iconst 4) 1 56 := ⟨by decide +kernel, rfl⟩
theorem dX10_wait_56 : di cX10_wait 56 (.invokevirtual 100) 3 59 := ⟨by decide +kernel, rfl⟩
theorem dX10_wait_59 : di cX10_wait 59 (.ireturn) 1 60 := ⟨by decide +kernel, rfl⟩
theorem dX10_wait_60 : di cX10_wait 60 (.aload_n 0) 1 61 := ⟨by decide +kernel, rfl⟩
theorem dX10_wait_61 : di cX10_wait 61 (.getfield 64) 3 64 := ⟨by decide +kernel, rfl⟩
theorem dX10_wait_64 : di cX10_wait 64 (.iload_n 1) 1 65 := ⟨by decide +kernel, rfl⟩
theorem dX10_wait_65 : di cX10_wait 65 (.iload_n 2) 1 66 := ⟨by decide +kernel, rfl⟩
theorem dX10_wait_66 : di cX10_wait 66 (.iload_n 3) 1 67 := ⟨by decide +kernel, rfl⟩
theorem dX10_wait_67 : di cX10_wait 67 (.iload 4) 2 69 := ⟨by decide +kernel, rfl⟩
theorem dX10_wait_69 : di cX10_wait 69 (.invokevirtual 251) 3 72 := ⟨by decide +kernel, rfl⟩
theorem dX10_wait_72 : di cX10_wait 72 (.ireturn) 1 73 := ⟨by decide +kernel, rfl⟩
def f_X10_wait (v1 : Int32) (v2 : Int32) (v3 : Int32) (v4 : Int32) (M : Mem) : Option Ret := bE (f_X10_isWithin v1 (0 : Int32) (M.1 0 13) M) (fun r2 M1 => if r2 = 0 then (bE (f_X10_finding (1 : Int32) M1) (fun r4 M3 => some (r4, M3))) else (bE (f_X10_isWorker v2 M1) (fun r6 M5 => if r6 = 0 then (bE (f_X10_finding (1 : Int32) M5) (fun r8 M7 => some (r8, M7))) else (bE (f_X10_isCause v3 M5) (fun r10 M9 => if r10 = 0 then (bE (f_X10_finding (1 : Int32) M9) (fun r12 M11 => some (r12, M11))) else (bE (f_X10_isWithin v4 (1 : Int32) (3000 : Int32) M9) (fun r14 M13 => if r14 = 0 then (bE (f_X10_finding (1 : Int32) M13) (fun r22 M21 => some (r22, M21))) else (bE (f_X7_isFull M13) (fun r16 M15 => if r16 = 0 then (bE (f_X7_add v1 v2 v3 v4 M15) (fun r18 M17 => some (r18, M17))) else (bE (f_X10_finding (4 : Int32) M15) (fun r20 M19 => some (r20, M19))))))))))))
set_option maxRecDepth 100000 in
theorem ok_X10_wait {l : Launch} {g : Cx} {v1 : Int32} {v2 : Int32} {v3 : Int32} {v4 : Int32} {M : Mem} {r : Int32} {Mr : Mem} (h : f_X10_wait v1 v2 v3 v4 M = some (r, Mr)) : CT l g yX10_wait cX10_wait 5 (some .int) 2 42 [.ref (g.1 0), .int v1, .int v2, .int v3, .int v4] M (PI r Mr) := by
  refine CT_of (lv := [some (.ref (g.1 0)), some (.int v1), some (.int v2), some (.int v3), some (.int v4)]) (by decide) rfl (Nat.le_of_ble_eq_true rfl) ?_
  unfold f_X10_wait at h
  refine A_iload_n dX10_wait_0 rfl ?_
  refine A_iconst (v := 0) dX10_wait_1 (by decide) ?_
  refine A_aload_n dX10_wait_2 rfl ?_
  refine A_getf dX10_wait_3 fw_X10_189 ob0 rfl ?_
  obtain ⟨r2, M1, h1, h⟩ := bE_go h
  refine A_cSi3 dX10_wait_6 ml_X10_121 mb_X10_isWithin ms_X10_isWithin ⟨Nat.le_of_ble_eq_true rfl, Nat.le_of_ble_eq_true rfl⟩ (Nat.le_of_ble_eq_true rfl) (ok_X10_isWithin h1) ?_
  refine A_if_eq dX10_wait_9 (fun hc => ?_) (fun hc => ?_)
  · have h := gT_go hc h
    refine A_aload_n dX10_wait_38 rfl ?_
    refine A_iconst (v := 1) dX10_wait_39 (by decide) ?_
    obtain ⟨r4, M3, h1, h⟩ := bE_go h
    refine A_cVi1 dX10_wait_40 ml_X10_100 mb_X10_finding mi_X10_finding ob0 rfl rfl ⟨Nat.le_of_ble_eq_true rfl, Nat.le_of_ble_eq_true rfl⟩ (Nat.le_of_ble_eq_true rfl) (ok_X10_finding h1) ?_
    exact A_iret dX10_wait_43 (pI_go h)
  · have h := gF_go hc h
    refine A_iload_n dX10_wait_12 rfl ?_
    obtain ⟨r6, M5, h1, h⟩ := bE_go h
    refine A_cSi1 dX10_wait_13 ml_X10_244 mb_X10_isWorker ms_X10_isWorker ⟨Nat.le_of_ble_eq_true rfl, Nat.le_of_ble_eq_true rfl⟩ (Nat.le_of_ble_eq_true rfl) (ok_X10_isWorker h1) ?_
    refine A_if_eq dX10_wait_16 (fun hc => ?_) (fun hc => ?_)
    · have h := gT_go hc h
      refine A_aload_n dX10_wait_38 rfl ?_
      refine A_iconst (v := 1) dX10_wait_39 (by decide) ?_
      obtain ⟨r8, M7, h1, h⟩ := bE_go h
      refine A_cVi1 dX10_wait_40 ml_X10_100 mb_X10_finding mi_X10_finding ob0 rfl rfl ⟨Nat.le_of_ble_eq_true rfl, Nat.le_of_ble_eq_true rfl⟩ (Nat.le_of_ble_eq_true rfl) (ok_X10_finding h1) ?_
      exact A_iret dX10_wait_43 (pI_go h)
    · have h := gF_go hc h
      refine A_iload_n dX10_wait_19 rfl ?_
      obtain ⟨r10, M9, h1, h⟩ := bE_go h
      refine A_cSi1 dX10_wait_20 ml_X10_247 mb_X10_isCause ms_X10_isCause ⟨Nat.le_of_ble_eq_true rfl, Nat.le_of_ble_eq_true rfl⟩ (Nat.le_of_ble_eq_true rfl) (ok_X10_isCause h1) ?_
      refine A_if_eq dX10_wait_23 (fun hc => ?_) (fun hc => ?_)
      · have h := gT_go hc h
        refine A_aload_n dX10_wait_38 rfl ?_
        refine A_iconst (v := 1) dX10_wait_39 (by decide) ?_
        obtain ⟨r12, M11, h1, h⟩ := bE_go h
        refine A_cVi1 dX10_wait_40 ml_X10_100 mb_X10_finding mi_X10_finding ob0 rfl rfl ⟨Nat.le_of_ble_eq_true rfl, Nat.le_of_ble_eq_true rfl⟩ (Nat.le_of_ble_eq_true rfl) (ok_X10_finding h1) ?_
        exact A_iret dX10_wait_43 (pI_go h)
      · have h := gF_go hc h
        refine A_iload dX10_wait_26 rfl ?_
        refine A_iconst (v := 1) dX10_wait_28 (by decide) ?_
        refine A_sipush (v := 3000) dX10_wait_29 (by decide) ?_
        obtain ⟨r14, M13, h1, h⟩ := bE_go h
        refine A_cSi3 dX10_wait_32 ml_X10_121 mb_X10_isWithin ms_X10_isWithin ⟨Nat.le_of_ble_eq_true rfl, Nat.le_of_ble_eq_true rfl⟩ (Nat.le_of_ble_eq_true rfl) (ok_X10_isWithin h1) ?_
        refine A_if_ne dX10_wait_35 (fun hc => ?_) (fun hc => ?_)
        · have h := gF_go hc h
          refine A_aload_n dX10_wait_44 rfl ?_
          refine A_getf dX10_wait_45 fw_X10_64 ob0 rfl ?_
          obtain ⟨r16, M15, h1, h⟩ := bE_go h
          refine A_cVi0 dX10_wait_48 ml_X10_250 mb_X7_isFull mi_X7_isFull ob7 rfl rfl ⟨Nat.le_of_ble_eq_true rfl, Nat.le_of_ble_eq_true rfl⟩ (Nat.le_of_ble_eq_true rfl) (ok_X7_isFull h1) ?_
          refine A_if_eq dX10_wait_51 (fun hc => ?_) (fun hc => ?_)
          · have h := gT_go hc h
            refine A_aload_n dX10_wait_60 rfl ?_
            refine A_getf dX10_wait_61 fw_X10_64 ob0 rfl ?_
            refine A_iload_n dX10_wait_64 rfl ?_
            refine A_iload_n dX10_wait_65 rfl ?_
            refine A_iload_n dX10_wait_66 rfl ?_
            refine A_iload dX10_wait_67 rfl ?_
            obtain ⟨r18, M17, h1, h⟩ := bE_go h
            refine A_cVi4 dX10_wait_69 ml_X10_251 mb_X7_add mi_X7_add ob7 rfl rfl ⟨Nat.le_of_ble_eq_true rfl, Nat.le_of_ble_eq_true rfl⟩ (Nat.le_of_ble_eq_true rfl) (ok_X7_add h1) ?_
            exact A_iret dX10_wait_72 (pI_go h)
          · have h := gF_go hc h
            refine A_aload_n dX10_wait_54 rfl ?_
            refine A_iconst (v := 4) dX10_wait_55 (by decide) ?_
            obtain ⟨r20, M19, h1, h⟩ := bE_go h
            refine A_cVi1 dX10_wait_56 ml_X10_100 mb_X10_finding mi_X10_finding ob0 rfl rfl ⟨Nat.le_of_ble_eq_true rfl, Nat.le_of_ble_eq_true rfl⟩ (Nat.le_of_ble_eq_true rfl) (ok_X10_finding h1) ?_
            exact A_iret dX10_wait_59 (pI_go h)
        · have h := gT_go hc h
          refine A_aload_n dX10_wait_38 rfl ?_
          refine A_iconst (v := 1) dX10_wait_39 (by decide) ?_
          obtain ⟨r22, M21, h1, h⟩ := bE_go h
          refine A_cVi1 dX10_wait_40 ml_X10_100 mb_X10_finding mi_X10_finding ob0 rfl rfl ⟨Nat.le_of_ble_eq_true rfl, Nat.le_of_ble_eq_true rfl⟩ (Nat.le_of_ble_eq_true rfl) (ok_X10_finding h1) ?_
          exact A_iret dX10_wait_43 (pI_go h)
-- BenchTimes.learner
theorem dX10_learner_0 : di cX10_learner 0 (.iload_n 1) 1 1 := ⟨by decide +kernel, rfl⟩
theorem dX10_learner_1 : di cX10_learner 1 (.invokestatic 244) 3 4 := ⟨by decide +kernel, rfl⟩
theorem dX10_learner_4 : dj cX10_learner 4 (.ifCond .eq) 7 29 := ⟨25, by decide +kernel, rfl, rfl⟩
theorem dX10_learner_7 : di cX10_learner 7 (.aload_n 0) 1 8 := ⟨by decide +kernel, rfl⟩
theorem dX10_learner_8 : di cX10_learner 8 (.getfield 32) 3 11 := ⟨by decide +kernel, rfl⟩
theorem dX10_learner_11 : di cX10_learner 11 (.iload_n 2) 1 12 := ⟨by decide +kernel, rfl⟩
theorem dX10_learner_12 : di cX10_learner 12 (.invokevirtual 172) 3 15 := ⟨by decide +kernel, rfl⟩
theorem dX10_learner_15 : dj cX10_learner 15 (.ifCond .eq) 18 29 := ⟨14, by decide +kernel, rfl, rfl⟩
theorem dX10_learner_18 : di cX10_learner 18 (.iload_n 3) 1 19 := ⟨by decide +kernel, rfl⟩
theorem dX10_learner_19 : di cX10_learner 19 (.iconst (-1)) 1 20 := ⟨by decide +kernel, rfl⟩
theorem dX10_learner_20 : di cX10_learner 20 (.sipush 500) 3 23 := ⟨by decide +kernel, rfl⟩
theorem dX10_learner_23 : di cX10_learner 23 (.invokestatic 121) 3 26 := ⟨by decide +kernel, rfl⟩
theorem dX10_learner_26 : dj cX10_learner 26 (.ifCond .ne) 29 35 := ⟨9, by decide +kernel, rfl, rfl⟩
theorem dX10_learner_29 : di cX10_learner 29 (.aload_n 0) 1 30 := ⟨by decide +kernel, rfl⟩
theorem dX10_learner_30 : di cX10_learner 30 (.iconst 1) 1 31 := ⟨by decide +kernel, rfl⟩
theorem dX10_learner_31 : di cX10_learner 31 (.invokevirtual 100) 3 34 := ⟨by decide +kernel, rfl⟩
theorem dX10_learner_34 : di cX10_learner 34 (.ireturn) 1 35 := ⟨by decide +kernel, rfl⟩
theorem dX10_learner_35 : di cX10_learner 35 (.aload_n 0) 1 36 := ⟨by decide +kernel, rfl⟩
theorem dX10_learner_36 : di cX10_learner 36 (.getfield 57) 3 39 := ⟨by decide +kernel, rfl⟩
theorem dX10_learner_39 : di cX10_learner 39 (.iload_n 1) 1 40 := ⟨by decide +kernel, rfl⟩
theorem dX10_learner_40 : di cX10_learner 40 (.iload_n 2) 1 41 := ⟨by decide +kernel, rfl⟩
theorem dX10_learner_41 : di cX10_learner 41 (.iload_n 3) 1 42 := ⟨by decide +kernel, rfl⟩
theorem dX10_learner_42 : di cX10_learner 42 (.invokevirtual 252) 3 45 := ⟨by decide +kernel, rfl⟩
theorem dX10_learner_45 : di cX10_learner 45 (.ireturn) 1 46 := ⟨by decide +kernel, rfl⟩
def f_X10_learner (v1 : Int32) (v2 : Int32) (v3 : Int32) (M : Mem) : Option Ret := bE (f_X10_isWorker v1 M) (fun r2 M1 => if r2 = 0 then (bE (f_X10_finding (1 : Int32) M1) (fun r4 M3 => some (r4, M3))) else (bE (f_X2_has v2 M1) (fun r6 M5 => if r6 = 0 then (bE (f_X10_finding (1 : Int32) M5) (fun r8 M7 => some (r8, M7))) else (bE (f_X10_isWithin v3 (-1 : Int32) (500 : Int32) M5) (fun r10 M9 => if r10 = 0 then (bE (f_X10_finding (1 : Int32) M9) (fun r14 M13 => some (r14, M13))) else (bE (f_X9_swapBegin v1 v2 v3 M9) (fun r12 M11 => some (r12, M11))))))))
set_option maxRecDepth 100000 in
theorem ok_X10_learner {l : Launch} {g : Cx} {v1 : Int32} {v2 : Int32} {v3 : Int32} {M : Mem} {r : Int32} {Mr : Mem} (h : f_X10_learner v1 v2 v3 M = some (r, Mr)) : CT l g yX10_learner cX10_learner 4 (some .int) 2 43 [.ref (g.1 0), .int v1, .int v2, .int v3] M (PI r Mr) := by
  refine CT_of (lv := [some (.ref (g.1 0)), some (.int v1), some (.int v2), some (.int v3)]) (by decide) rfl (Nat.le_of_ble_eq_true rfl) ?_
  unfold f_X10_learner at h
  refine A_iload_n dX10_learner_0 rfl ?_
  obtain ⟨r2, M1, h1, h⟩ := bE_go h
  refine A_cSi1 dX10_learner_1 ml_X10_244 mb_X10_isWorker ms_X10_isWorker ⟨Nat.le_of_ble_eq_true rfl, Nat.le_of_ble_eq_true rfl⟩ (Nat.le_of_ble_eq_true rfl) (ok_X10_isWorker h1) ?_
  refine A_if_eq dX10_learner_4 (fun hc => ?_) (fun hc => ?_)
  · have h := gT_go hc h
    refine A_aload_n dX10_learner_29 rfl ?_
    refine A_iconst (v := 1) dX10_learner_30 (by decide) ?_
    obtain ⟨r4, M3, h1, h⟩ := bE_go h
    refine A_cVi1 dX10_learner_31 ml_X10_100 mb_X10_finding mi_X10_finding ob0 rfl rfl ⟨Nat.le_of_ble_eq_true rfl, Nat.le_of_ble_eq_true rfl⟩ (Nat.le_of_ble_eq_true rfl) (ok_X10_finding h1) ?_
    exact A_iret dX10_learner_34 (pI_go h)
  · have h := gF_go hc h
    refine A_aload_n dX10_learner_7 rfl ?_
    refine A_getf dX10_learner_8 fw_X10_32 ob0 rfl ?_
    refine A_iload_n dX10_learner_11 rfl ?_
    obtain ⟨r6, M5, h1, h⟩ := bE_go h
    refine A_cVi1 dX10_learner_12 ml_X10_172 mb_X2_has mi_X2_has ob3 rfl rfl ⟨Nat.le_of_ble_eq_true rfl, Nat.le_of_ble_eq_true rfl⟩ (Nat.le_of_ble_eq_true rfl) (ok_X2_has h1) ?_
    refine A_if_eq dX10_learner_15 (fun hc => ?_) (fun hc => ?_)
    · have h := gT_go hc h
      refine A_aload_n dX10_learner_29 rfl ?_
      refine A_iconst (v := 1) dX10_learner_30 (by decide) ?_
      obtain ⟨r8, M7, h1, h⟩ := bE_go h
      refine A_cVi1 dX10_learner_31 ml_X10_100 mb_X10_finding mi_X10_finding ob0 rfl rfl ⟨Nat.le_of_ble_eq_true rfl, Nat.le_of_ble_eq_true rfl⟩ (Nat.le_of_ble_eq_true rfl) (ok_X10_finding h1) ?_
      exact A_iret dX10_learner_34 (pI_go h)
    · have h := gF_go hc h
      refine A_iload_n dX10_learner_18 rfl ?_
      refine A_iconst (v := -1) dX10_learner_19 (by decide) ?_
      refine A_sipush (v := 500) dX10_learner_20 (by decide) ?_
      obtain ⟨r10, M9, h1, h⟩ := bE_go h
      refine A_cSi3 dX10_learner_23 ml_X10_121 mb_X10_isWithin ms_X10_isWithin ⟨Nat.le_of_ble_eq_true rfl, Nat.le_of_ble_eq_true rfl⟩ (Nat.le_of_ble_eq_true rfl) (ok_X10_isWithin h1) ?_
      refine A_if_ne dX10_learner_26 (fun hc => ?_) (fun hc => ?_)
      · have h := gF_go hc h
        refine A_aload_n dX10_learner_35 rfl ?_
        refine A_getf dX10_learner_36 fw_X10_57 ob0 rfl ?_
        refine A_iload_n dX10_learner_39 rfl ?_
        refine A_iload_n dX10_learner_40 rfl ?_
        refine A_iload_n dX10_learner_41 rfl ?_
        obtain ⟨r12, M11, h1, h⟩ := bE_go h
        refine A_cVi3 dX10_learner_42 ml_X10_252 mb_X9_swapBegin mi_X9_swapBegin ob6 rfl rfl ⟨Nat.le_of_ble_eq_true rfl, Nat.le_of_ble_eq_true rfl⟩ (Nat.le_of_ble_eq_true rfl) (ok_X9_swapBegin h1) ?_
        exact A_iret dX10_learner_45 (pI_go h)
      · have h := gT_go hc h
        refine A_aload_n dX10_learner_29 rfl ?_
        refine A_iconst (v := 1) dX10_learner_30 (by decide) ?_
        obtain ⟨r14, M13, h1, h⟩ := bE_go h
        refine A_cVi1 dX10_learner_31 ml_X10_100 mb_X10_finding mi_X10_finding ob0 rfl rfl ⟨Nat.le_of_ble_eq_true rfl, Nat.le_of_ble_eq_true rfl⟩ (Nat.le_of_ble_eq_true rfl) (ok_X10_finding h1) ?_
        exact A_iret dX10_learner_34 (pI_go h)
-- BenchTimes.earned
theorem dX10_earned_0 : di cX10_earned 0 (.iload_n 1) 1 1 := ⟨by decide +kernel, rfl⟩
theorem dX10_earned_1 : di cX10_earned 1 (.iconst 0) 1 2 := ⟨by decide +kernel, rfl⟩
theorem dX10_earned_2 : di cX10_earned 2 (.aload_n 0) 1 3 := ⟨by decide +kernel, rfl⟩
theorem dX10_earned_3 : di cX10_earned 3 (.getfield 57) 3 6 := ⟨by decide +kernel, rfl⟩
theorem dX10_earned_6 : di cX10_earned 6 (.invokevirtual 255) 3 9 := ⟨by decide +kernel, rfl⟩
theorem dX10_earned_9 : di cX10_earned 9 (.iconst 1) 1 10 := ⟨by decide +kernel, rfl⟩
theorem dX10_earned_10 : di cX10_earned 10 (.isub) 1 11 := ⟨by decide +kernel, rfl⟩
theorem dX10_earned_11 : di cX10_earned 11 (.invokestatic 121) 3 14 := ⟨by decide +kernel, rfl⟩
theorem dX10_earned_14 : dj cX10_earned 14 (.ifCond .ne) 17 23 := ⟨9, by decide +kernel, rfl, rfl⟩
theorem dX10_earned_17 : di cX10_earned 17 (.aload_n 0) 1 18 := ⟨by decide +kernel, rfl⟩
theorem dX10_earned_18 : di cX10_earned 18 (.iconst 1) 1 19 := ⟨by decide +kernel, rfl⟩
theorem dX10_earned_19 : di cX10_earned 19 (.invokevirtual 100) 3 22 := ⟨by decide +kernel, rfl⟩
theorem dX10_earned_22 : di cX10_earned 22 (.ireturn) 1 23 := ⟨by decide +kernel, rfl⟩
theorem dX10_earned_23 : di cX10_earned 23 (.aload_n 0) 1 24 := ⟨by decide +kernel, rfl⟩
theorem dX10_earned_24 : di cX10_earned 24 (.getfield 57) 3 27 := ⟨by decide +kernel, rfl⟩
theorem dX10_earned_27 : di cX10_earned 27 (.iload_n 1) 1 28 := ⟨by decide +kernel, rfl⟩
theorem dX10_earned_28 : di cX10_earned 28 (.invokevirtual 256) 3 31 := ⟨by decide +kernel, rfl⟩
theorem dX10_earned_31 : di cX10_earned 31 (.ireturn) 1 32 := ⟨by decide +kernel, rfl⟩
def f_X10_earned (v1 : Int32) (M : Mem) : Option Ret := bE (f_X9_many M) (fun r2 M1 => bE (f_X10_isWithin v1 (0 : Int32) (r2 - (1 : Int32)) M1) (fun r4 M3 => if r4 = 0 then (bE (f_X10_finding (1 : Int32) M3) (fun r8 M7 => some (r8, M7))) else (bE (f_X9_earnedBy v1 M3) (fun r6 M5 => some (r6, M5)))))
set_option maxRecDepth 100000 in
theorem ok_X10_earned {l : Launch} {g : Cx} {v1 : Int32} {M : Mem} {r : Int32} {Mr : Mem} (h : f_X10_earned v1 M = some (r, Mr)) : CT l g yX10_earned cX10_earned 2 (some .int) 3 71 [.ref (g.1 0), .int v1] M (PI r Mr) := by
  refine CT_of (lv := [some (.ref (g.1 0)), some (.int v1)]) (by decide) rfl (Nat.le_of_ble_eq_true rfl) ?_
  unfold f_X10_earned at h
  refine A_iload_n dX10_earned_0 rfl ?_
  refine A_iconst (v := 0) dX10_earned_1 (by decide) ?_
  refine A_aload_n dX10_earned_2 rfl ?_
  refine A_getf dX10_earned_3 fw_X10_57 ob0 rfl ?_
  obtain ⟨r2, M1, h1, h⟩ := bE_go h
  refine A_cVi0 dX10_earned_6 ml_X10_255 mb_X9_many mi_X9_many ob6 rfl rfl ⟨Nat.le_of_ble_eq_true rfl, Nat.le_of_ble_eq_true rfl⟩ (Nat.le_of_ble_eq_true rfl) (ok_X9_many h1) ?_
  refine A_iconst (v := 1) dX10_earned_9 (by decide) ?_
  refine A_isub dX10_earned_10 ?_
  obtain ⟨r4, M3, h1, h⟩ := bE_go h
  refine A_cSi3 dX10_earned_11 ml_X10_121 mb_X10_isWithin ms_X10_isWithin ⟨Nat.le_of_ble_eq_true rfl, Nat.le_of_ble_eq_true rfl⟩ (Nat.le_of_ble_eq_true rfl) (ok_X10_isWithin h1) ?_
  refine A_if_ne dX10_earned_14 (fun hc => ?_) (fun hc => ?_)
  · have h := gF_go hc h
    refine A_aload_n dX10_earned_23 rfl ?_
    refine A_getf dX10_earned_24 fw_X10_57 ob0 rfl ?_
    refine A_iload_n dX10_earned_27 rfl ?_
    obtain ⟨r6, M5, h1, h⟩ := bE_go h
    refine A_cVi1 dX10_earned_28 ml_X10_256 mb_X9_earnedBy mi_X9_earnedBy ob6 rfl rfl ⟨Nat.le_of_ble_eq_true rfl, Nat.le_of_ble_eq_true rfl⟩ (Nat.le_of_ble_eq_true rfl) (ok_X9_earnedBy h1) ?_
    exact A_iret dX10_earned_31 (pI_go h)
  · have h := gT_go hc h
    refine A_aload_n dX10_earned_17 rfl ?_
    refine A_iconst (v := 1) dX10_earned_18 (by decide) ?_
    obtain ⟨r8, M7, h1, h⟩ := bE_go h
    refine A_cVi1 dX10_earned_19 ml_X10_100 mb_X10_finding mi_X10_finding ob0 rfl rfl ⟨Nat.le_of_ble_eq_true rfl, Nat.le_of_ble_eq_true rfl⟩ (Nat.le_of_ble_eq_true rfl) (ok_X10_finding h1) ?_
    exact A_iret dX10_earned_22 (pI_go h)
-- BenchTimes.pay
theorem dX10_pay_0 : di cX10_pay 0 (.iload_n 1) 1 1 := ⟨by decide +kernel, rfl⟩
theorem dX10_pay_1 : di cX10_pay 1 (.invokestatic 244) 3 4 := ⟨by decide +kernel, rfl⟩
theorem dX10_pay_4 : dj cX10_pay 4 (.ifCond .eq) 7 23 := ⟨19, by decide +kernel, rfl, rfl⟩
theorem dX10_pay_7 : di cX10_pay 7 (.iload_n 2) 1 8 := ⟨by decide +kernel, rfl⟩
theorem dX10_pay_8 : di cX10_pay 8 (.invokestatic 216) 3 11 := ⟨by decide +kernel, rfl⟩
theorem dX10_pay_11 : dj cX10_pay 11 (.ifCond .eq) 14 23 := ⟨12, by decide +kernel, rfl, rfl⟩
theorem dX10_pay_14 : di cX10_pay 14 (.iload_n 3) 1 15 := ⟨by decide +kernel, rfl⟩
theorem dX10_pay_15 : di cX10_pay 15 (.iconst 0) 1 16 := ⟨by decide +kernel, rfl⟩
theorem dX10_pay_16 : di cX10_pay 16 (.iconst 4) 1 17 := ⟨by decide +kernel, rfl⟩
theorem dX10_pay_17 : di cX10_pay 17 (.invokestatic 121) 3 20 := ⟨by decide +kernel, rfl⟩
theorem dX10_pay_20 : dj cX10_pay 20 (.ifCond .ne) 23 29 := ⟨9, by decide +kernel, rfl, rfl⟩
theorem dX10_pay_23 : di cX10_pay 23 (.aload_n 0) 1 24 := ⟨by decide +kernel, rfl⟩
theorem dX10_pay_24 : di cX10_pay 24 (.iconst 1) 1 25 := ⟨by decide +kernel, rfl⟩
theorem dX10_pay_25 : di cX10_pay 25 (.invokevirtual 100) 3 28 := ⟨by decide +kernel, rfl⟩
theorem dX10_pay_28 : di cX10_pay 28 (.ireturn) 1 29 := ⟨by decide +kernel, rfl⟩
theorem dX10_pay_29 : di cX10_pay 29 (.aload_n 0) 1 30 := ⟨by decide +kernel, rfl⟩
theorem dX10_pay_30 : di cX10_pay 30 (.getfield 73) 3 33 := ⟨by decide +kernel, rfl⟩
theorem dX10_pay_33 : di cX10_pay 33 (.iload_n 1) 1 34 := ⟨by decide +kernel, rfl⟩
theorem dX10_pay_34 : di cX10_pay 34 (.iload_n 2) 1 35 := ⟨by decide +kernel, rfl⟩
theorem dX10_pay_35 : di cX10_pay 35 (.iload_n 3) 1 36 := ⟨by decide +kernel, rfl⟩
theorem dX10_pay_36 : di cX10_pay 36 (.invokevirtual 259) 3 39 := ⟨by decide +kernel, rfl⟩
theorem dX10_pay_39 : di cX10_pay 39 (.ireturn) 1 40 := ⟨by decide +kernel, rfl⟩
def f_X10_pay (v1 : Int32) (v2 : Int32) (v3 : Int32) (M : Mem) : Option Ret := bE (f_X10_isWorker v1 M) (fun r2 M1 => if r2 = 0 then (bE (f_X10_finding (1 : Int32) M1) (fun r4 M3 => some (r4, M3))) else (bE (f_X10_isWeek v2 M1) (fun r6 M5 => if r6 = 0 then (bE (f_X10_finding (1 : Int32) M5) (fun r8 M7 => some (r8, M7))) else (bE (f_X10_isWithin v3 (0 : Int32) (4 : Int32) M5) (fun r10 M9 => if r10 = 0 then (bE (f_X10_finding (1 : Int32) M9) (fun r14 M13 => some (r14, M13))) else (bE (f_X3_tellOf v1 v2 v3 M9) (fun r12 M11 => some (r12, M11))))))))
set_option maxRecDepth 100000 in
theorem ok_X10_pay {l : Launch} {g : Cx} {v1 : Int32} {v2 : Int32} {v3 : Int32} {M : Mem} {r : Int32} {Mr : Mem} (h : f_X10_pay v1 v2 v3 M = some (r, Mr)) : CT l g yX10_pay cX10_pay 4 (some .int) 6 142 [.ref (g.1 0), .int v1, .int v2, .int v3] M (PI r Mr) := by
  refine CT_of (lv := [some (.ref (g.1 0)), some (.int v1), some (.int v2), some (.int v3)]) (by decide) rfl (Nat.le_of_ble_eq_true rfl) ?_
  unfold f_X10_pay at h
  refine A_iload_n dX10_pay_0 rfl ?_
  obtain ⟨r2, M1, h1, h⟩ := bE_go h
  refine A_cSi1 dX10_pay_1 ml_X10_244 mb_X10_isWorker ms_X10_isWorker ⟨Nat.le_of_ble_eq_true rfl, Nat.le_of_ble_eq_true rfl⟩ (Nat.le_of_ble_eq_true rfl) (ok_X10_isWorker h1) ?_
  refine A_if_eq dX10_pay_4 (fun hc => ?_) (fun hc => ?_)
  · have h := gT_go hc h
    refine A_aload_n dX10_pay_23 rfl ?_
    refine A_iconst (v := 1) dX10_pay_24 (by decide) ?_
    obtain ⟨r4, M3, h1, h⟩ := bE_go h
    refine A_cVi1 dX10_pay_25 ml_X10_100 mb_X10_finding mi_X10_finding ob0 rfl rfl ⟨Nat.le_of_ble_eq_true rfl, Nat.le_of_ble_eq_true rfl⟩ (Nat.le_of_ble_eq_true rfl) (ok_X10_finding h1) ?_
    exact A_iret dX10_pay_28 (pI_go h)
  · have h := gF_go hc h
    refine A_iload_n dX10_pay_7 rfl ?_
    obtain ⟨r6, M5, h1, h⟩ := bE_go h
    refine A_cSi1 dX10_pay_8 ml_X10_216 mb_X10_isWeek ms_X10_isWeek ⟨Nat.le_of_ble_eq_true rfl, Nat.le_of_ble_eq_true rfl⟩ (Nat.le_of_ble_eq_true rfl) (ok_X10_isWeek h1) ?_
    refine A_if_eq dX10_pay_11 (fun hc => ?_) (fun hc => ?_)
    · have h := gT_go hc h
      refine A_aload_n dX10_pay_23 rfl ?_
      refine A_iconst (v := 1) dX10_pay_24 (by decide) ?_
      obtain ⟨r8, M7, h1, h⟩ := bE_go h
      refine A_cVi1 dX10_pay_25 ml_X10_100 mb_X10_finding mi_X10_finding ob0 rfl rfl ⟨Nat.le_of_ble_eq_true rfl, Nat.le_of_ble_eq_true rfl⟩ (Nat.le_of_ble_eq_true rfl) (ok_X10_finding h1) ?_
      exact A_iret dX10_pay_28 (pI_go h)
    · have h := gF_go hc h
      refine A_iload_n dX10_pay_14 rfl ?_
      refine A_iconst (v := 0) dX10_pay_15 (by decide) ?_
      refine A_iconst (v := 4) dX10_pay_16 (by decide) ?_
      obtain ⟨r10, M9, h1, h⟩ := bE_go h
      refine A_cSi3 dX10_pay_17 ml_X10_121 mb_X10_isWithin ms_X10_isWithin ⟨Nat.le_of_ble_eq_true rfl, Nat.le_of_ble_eq_true rfl⟩ (Nat.le_of_ble_eq_true rfl) (ok_X10_isWithin h1) ?_
      refine A_if_ne dX10_pay_20 (fun hc => ?_) (fun hc => ?_)
      · have h := gF_go hc h
        refine A_aload_n dX10_pay_29 rfl ?_
        refine A_getf dX10_pay_30 fw_X10_73 ob0 rfl ?_
        refine A_iload_n dX10_pay_33 rfl ?_
        refine A_iload_n dX10_pay_34 rfl ?_
        refine A_iload_n dX10_pay_35 rfl ?_
        obtain ⟨r12, M11, h1, h⟩ := bE_go h
        refine A_cVi3 dX10_pay_36 ml_X10_259 mb_X3_tellOf mi_X3_tellOf ob8 rfl rfl ⟨Nat.le_of_ble_eq_true rfl, Nat.le_of_ble_eq_true rfl⟩ (Nat.le_of_ble_eq_true rfl) (ok_X3_tellOf h1) ?_
        exact A_iret dX10_pay_39 (pI_go h)
      · have h := gT_go hc h
        refine A_aload_n dX10_pay_23 rfl ?_
        refine A_iconst (v := 1) dX10_pay_24 (by decide) ?_
        obtain ⟨r14, M13, h1, h⟩ := bE_go h
        refine A_cVi1 dX10_pay_25 ml_X10_100 mb_X10_finding mi_X10_finding ob0 rfl rfl ⟨Nat.le_of_ble_eq_true rfl, Nat.le_of_ble_eq_true rfl⟩ (Nat.le_of_ble_eq_true rfl) (ok_X10_finding h1) ?_
        exact A_iret dX10_pay_28 (pI_go h)
-- BenchTimes.cause
theorem dX10_cause_0 : di cX10_cause 0 (.iload_n 1) 1 1 := ⟨by decide +kernel, rfl⟩
theorem dX10_cause_1 : di cX10_cause 1 (.invokestatic 247) 3 4 := ⟨by decide +kernel, rfl⟩
theorem dX10_cause_4 : dj cX10_cause 4 (.ifCond .ne) 7 13 := ⟨9, by decide +kernel, rfl, rfl⟩
theorem dX10_cause_7 : di cX10_cause 7 (.aload_n 0) 1 8 := ⟨by decide +kernel, rfl⟩
theorem dX10_cause_8 : di cX10_cause 8 (.iconst 1) 1 9 := ⟨by decide +kernel, rfl⟩
theorem dX10_cause_9 : di cX10_cause 9 (.invokevirtual 100) 3 12 := ⟨by decide +kernel, rfl⟩
theorem dX10_cause_12 : di cX10_cause 12 (.ireturn) 1 13 := ⟨by decide +kernel, rfl⟩
theorem dX10_cause_13 : di cX10_cause 13 (.aload_n 0) 1 14 := ⟨by decide +kernel, rfl⟩
theorem dX10_cause_14 : di cX10_cause 14 (.getfield 64) 3 17 := ⟨by decide +kernel, rfl⟩
theorem dX10_cause_17 : di cX10_cause 17 (.iload_n 1) 1 18 := ⟨by decide +kernel, rfl⟩
theorem dX10_cause_18 : di cX10_cause 18 (.invokevirtual 262) 3 21 := ⟨by decide +kernel, rfl⟩
theorem dX10_cause_21 : di cX10_cause 21 (.ireturn) 1 22 := ⟨by decide +kernel, rfl⟩
def f_X10_cause (v1 : Int32) (M : Mem) : Option Ret := bE (f_X10_isCause v1 M) (fun r2 M1 => if r2 = 0 then (bE (f_X10_finding (1 : Int32) M1) (fun r6 M5 => some (r6, M5))) else (bE (f_X7_minutesFor v1 M1) (fun r4 M3 => some (r4, M3))))
set_option maxRecDepth 100000 in
theorem ok_X10_cause {l : Launch} {g : Cx} {v1 : Int32} {M : Mem} {r : Int32} {Mr : Mem} (h : f_X10_cause v1 M = some (r, Mr)) : CT l g yX10_cause cX10_cause 2 (some .int) 2 42 [.ref (g.1 0), .int v1] M (PI r Mr) := by
  refine CT_of (lv := [some (.ref (g.1 0)), some (.int v1)]) (by decide) rfl (Nat.le_of_ble_eq_true rfl) ?_
  unfold f_X10_cause at h
  refine A_iload_n dX10_cause_0 rfl ?_
  obtain ⟨r2, M1, h1, h⟩ := bE_go h
  refine A_cSi1 dX10_cause_1 ml_X10_247 mb_X10_isCause ms_X10_isCause ⟨Nat.le_of_ble_eq_true rfl, Nat.le_of_ble_eq_true rfl⟩ (Nat.le_of_ble_eq_true rfl) (ok_X10_isCause h1) ?_
  refine A_if_ne dX10_cause_4 (fun hc => ?_) (fun hc => ?_)
  · have h := gF_go hc h
    refine A_aload_n dX10_cause_13 rfl ?_
    refine A_getf dX10_cause_14 fw_X10_64 ob0 rfl ?_
    refine A_iload_n dX10_cause_17 rfl ?_
    obtain ⟨r4, M3, h1, h⟩ := bE_go h
    refine A_cVi1 dX10_cause_18 ml_X10_262 mb_X7_minutesFor mi_X7_minutesFor ob7 rfl rfl ⟨Nat.le_of_ble_eq_true rfl, Nat.le_of_ble_eq_true rfl⟩ (Nat.le_of_ble_eq_true rfl) (ok_X7_minutesFor h1) ?_
    exact A_iret dX10_cause_21 (pI_go h)
  · have h := gT_go hc h
    refine A_aload_n dX10_cause_7 rfl ?_
    refine A_iconst (v := 1) dX10_cause_8 (by decide) ?_
    obtain ⟨r6, M5, h1, h⟩ := bE_go h
    refine A_cVi1 dX10_cause_9 ml_X10_100 mb_X10_finding mi_X10_finding ob0 rfl rfl ⟨Nat.le_of_ble_eq_true rfl, Nat.le_of_ble_eq_true rfl⟩ (Nat.le_of_ble_eq_true rfl) (ok_X10_finding h1) ?_
    exact A_iret dX10_cause_12 (pI_go h)
-- BenchTimes.orNone
theorem dX10_orNone_0 : di cX10_orNone 0 (.iload_n 1) 1 1 := ⟨by decide +kernel, rfl⟩
theorem dX10_orNone_1 : di cX10_orNone 1 (.iconst (-1)) 1 2 := ⟨by decide +kernel, rfl⟩
theorem dX10_orNone_2 : dj cX10_orNone 2 (.if_icmp .ne) 5 13 := ⟨11, by decide +kernel, rfl, rfl⟩
theorem dX10_orNone_5 : di cX10_orNone 5 (.aload_n 0) 1 6 := ⟨by decide +kernel, rfl⟩
theorem dX10_orNone_6 : di cX10_orNone 6 (.iconst 2) 1 7 := ⟨by decide +kernel, rfl⟩
theorem dX10_orNone_7 : di cX10_orNone 7 (.invokevirtual 100) 3 10 := ⟨by decide +kernel, rfl⟩
theorem dX10_orNone_10 : dj cX10_orNone 10 .goto 13 14 := ⟨4, by decide +kernel, rfl, rfl⟩
theorem dX10_orNone_13 : di cX10_orNone 13 (.iload_n 1) 1 14 := ⟨by decide +kernel, rfl⟩
theorem dX10_orNone_14 : di cX10_orNone 14 (.ireturn) 1 15 := ⟨by decide +kernel, rfl⟩
def f_X10_orNone (v1 : Int32) (M : Mem) : Option Ret := jn (α := Int32 → Mem → Option Ret) (fun (z2 : Int32) (M3 : Mem) => some (z2, M3)) (fun J1 => if v1 = (-1 : Int32) then (bE (f_X10_finding (2 : Int32) M) (fun r5 M4 => J1 r5 M4)) else (J1 v1 M))
set_option maxRecDepth 100000 in
theorem ok_X10_orNone {l : Launch} {g : Cx} {v1 : Int32} {M : Mem} {r : Int32} {Mr : Mem} (h : f_X10_orNone v1 M = some (r, Mr)) : CT l g yX10_orNone cX10_orNone 2 (some .int) 1 21 [.ref (g.1 0), .int v1] M (PI r Mr) := by
  refine CT_of (lv := [some (.ref (g.1 0)), some (.int v1)]) (by decide) rfl (Nat.le_of_ble_eq_true rfl) ?_
  unfold f_X10_orNone at h
  refine A_iload_n dX10_orNone_0 rfl ?_
  refine A_iconst (v := -1) dX10_orNone_1 (by decide) ?_
  obtain ⟨J1, hJ1, h⟩ := jn_go h
  have JJ1 : ∀ (z2 : Int32) (M3 : Mem), J1 z2 M3 = some (r, Mr) → AT l g RX10 cX10_orNone 2 (some .int) (rmM 1 21) (PI r Mr) 14 [some (.ref (g.1 0)), some (.int v1)] [.int z2] M3 := by
    intro z2 M3 h
    rw [hJ1] at h
    exact A_iret dX10_orNone_14 (pI_go h)
  refine A_icmp_ne dX10_orNone_2 (fun hc => ?_) (fun hc => ?_)
  · have h := gF_go hc h
    refine A_iload_n dX10_orNone_13 rfl ?_
    exact A_le (lvLe_s (lvLe_s lvLe_0)) (JJ1 _ _ h)
  · have h := gT_go hc h
    refine A_aload_n dX10_orNone_5 rfl ?_
    refine A_iconst (v := 2) dX10_orNone_6 (by decide) ?_
    obtain ⟨r5, M4, h1, h⟩ := bE_go h
    refine A_cVi1 dX10_orNone_7 ml_X10_100 mb_X10_finding mi_X10_finding ob0 rfl rfl ⟨Nat.le_of_ble_eq_true rfl, Nat.le_of_ble_eq_true rfl⟩ (Nat.le_of_ble_eq_true rfl) (ok_X10_finding h1) ?_
    refine A_goto dX10_orNone_10 ?_
    exact A_le (lvLe_s (lvLe_s lvLe_0)) (JJ1 _ _ h)
-- BenchTimes.pool
theorem dX10_pool_0 : di cX10_pool 0 (.iload_n 1) 1 1 := ⟨by decide +kernel, rfl⟩
theorem dX10_pool_1 : di cX10_pool 1 (.iconst 1) 1 2 := ⟨by decide +kernel, rfl⟩
theorem dX10_pool_2 : di cX10_pool 2 (.sipush 255) 3 5 := ⟨by decide +kernel, rfl⟩
theorem dX10_pool_5 : di cX10_pool 5 (.invokestatic 121) 3 8 := ⟨by decide +kernel, rfl⟩
theorem dX10_pool_8 : dj cX10_pool 8 (.ifCond .eq) 11 33 := ⟨25, by decide +kernel, rfl, rfl⟩
theorem dX10_pool_11 : di cX10_pool 11 (.iload_n 2) 1 12 := ⟨by decide +kernel, rfl⟩
theorem dX10_pool_12 : di cX10_pool 12 (.invokestatic 216) 3 15 := ⟨by decide +kernel, rfl⟩
theorem dX10_pool_15 : dj cX10_pool 15 (.ifCond .eq) 18 33 := ⟨18, by decide +kernel, rfl, rfl⟩
theorem dX10_pool_18 : di cX10_pool 18 (.iload_n 3) 1 19 := ⟨by decide +kernel, rfl⟩
theorem dX10_pool_19 : di cX10_pool 19 (.invokestatic 244) 3 22 := ⟨by decide +kernel, rfl⟩
theorem dX10_pool_22 : dj cX10_pool 22 (.ifCond .eq) 25 33 := ⟨11, by decide +kernel, rfl, rfl⟩
theorem dX10_pool_25 : di cX10_pool 25 (.iload_n 1) 1 26 := ⟨by decide +kernel, rfl⟩
theorem dX10_pool_26 : di cX10_pool 26 (.iload_n 3) 1 27 := ⟨by decide +kernel, rfl⟩
theorem dX10_pool_27 : di cX10_pool 27 (.invokestatic 265) 3 30 := ⟨by decide +kernel, rfl⟩
theorem dX10_pool_30 : dj cX10_pool 30 (.ifCond .ne) 33 39 := ⟨9, by decide +kernel, rfl, rfl⟩
theorem dX10_pool_33 : di cX10_pool 33 (.aload_n 0) 1 34 := ⟨by decide +kernel, rfl⟩
theorem dX10_pool_34 : di cX10_pool 34 (.iconst 1) 1 35 := ⟨by decide +kernel, rfl⟩
theorem dX10_pool_35 : di cX10_pool 35 (.invokevirtual 100) 3 38 := ⟨by decide +kernel, rfl⟩
theorem dX10_pool_38 : di cX10_pool 38 (.ireturn) 1 39 := ⟨by decide +kernel, rfl⟩
theorem dX10_pool_39 : di cX10_pool 39 (.aload_n 0) 1 40 := ⟨by decide +kernel, rfl⟩
theorem dX10_pool_40 : di cX10_pool 40 (.aload_n 0) 1 41 := ⟨by decide +kernel, rfl⟩
theorem dX10_pool_41 : di cX10_pool 41 (.getfield 73) 3 44 := ⟨by decide +kernel, rfl⟩
theorem dX10_pool_44 : di cX10_pool 44 (.iload_n 1) 1 45 := ⟨by decide +kernel, rfl⟩
theorem dX10_pool_45 : di cX10_pool 45 (.iload_n 2) 1 46 := ⟨by decide +kernel, rfl⟩
theorem dX10_pool_46 : di cX10_pool 46 (.iload_n 3) 1 47 := ⟨by decide +kernel, rfl⟩
theorem dX10_pool_47 : di cX10_pool 47 (.invokevirtual 268) 3 50 := ⟨by decide +kernel, rfl⟩
theorem dX10_pool_50 : di cX10_pool 50 (.invokevirtual 271) 3 53 := ⟨by decide +kernel, rfl⟩
theorem dX10_pool_53 : di cX10_pool 53 (.ireturn) 1 54 := ⟨by decide +kernel, rfl⟩
def f_X10_pool (v1 : Int32) (v2 : Int32) (v3 : Int32) (M : Mem) : Option Ret := bE (f_X10_isWithin v1 (1 : Int32) (255 : Int32) M) (fun r2 M1 => if r2 = 0 then (bE (f_X10_finding (1 : Int32) M1) (fun r4 M3 => some (r4, M3))) else (bE (f_X10_isWeek v2 M1) (fun r6 M5 => if r6 = 0 then (bE (f_X10_finding (1 : Int32) M5) (fun r8 M7 => some (r8, M7))) else (bE (f_X10_isWorker v3 M5) (fun r10 M9 => if r10 = 0 then (bE (f_X10_finding (1 : Int32) M9) (fun r12 M11 => some (r12, M11))) else (bE (f_X10_isIn v1 v3 M9) (fun r14 M13 => if r14 = 0 then (bE (f_X10_finding (1 : Int32) M13) (fun r20 M19 => some (r20, M19))) else (bE (f_X3_shareOf v1 v2 v3 M13) (fun r16 M15 => bE (f_X10_orNone r16 M15) (fun r18 M17 => some (r18, M17)))))))))))
set_option maxRecDepth 100000 in
theorem ok_X10_pool {l : Launch} {g : Cx} {v1 : Int32} {v2 : Int32} {v3 : Int32} {M : Mem} {r : Int32} {Mr : Mem} (h : f_X10_pool v1 v2 v3 M = some (r, Mr)) : CT l g yX10_pool cX10_pool 4 (some .int) 6 151 [.ref (g.1 0), .int v1, .int v2, .int v3] M (PI r Mr) := by
  refine CT_of (lv := [some (.ref (g.1 0)), some (.int v1), some (.int v2), some (.int v3)]) (by decide) rfl (Nat.le_of_ble_eq_true rfl) ?_
  unfold f_X10_pool at h
  refine A_iload_n dX10_pool_0 rfl ?_
  refine A_iconst (v := 1) dX10_pool_1 (by decide) ?_
  refine A_sipush (v := 255) dX10_pool_2 (by decide) ?_
  obtain ⟨r2, M1, h1, h⟩ := bE_go h
  refine A_cSi3 dX10_pool_5 ml_X10_121 mb_X10_isWithin ms_X10_isWithin ⟨Nat.le_of_ble_eq_true rfl, Nat.le_of_ble_eq_true rfl⟩ (Nat.le_of_ble_eq_true rfl) (ok_X10_isWithin h1) ?_
  refine A_if_eq dX10_pool_8 (fun hc => ?_) (fun hc => ?_)
  · have h := gT_go hc h
    refine A_aload_n dX10_pool_33 rfl ?_
    refine A_iconst (v := 1) dX10_pool_34 (by decide) ?_
    obtain ⟨r4, M3, h1, h⟩ := bE_go h
    refine A_cVi1 dX10_pool_35 ml_X10_100 mb_X10_finding mi_X10_finding ob0 rfl rfl ⟨Nat.le_of_ble_eq_true rfl, Nat.le_of_ble_eq_true rfl⟩ (Nat.le_of_ble_eq_true rfl) (ok_X10_finding h1) ?_
    exact A_iret dX10_pool_38 (pI_go h)
  · have h := gF_go hc h
    refine A_iload_n dX10_pool_11 rfl ?_
    obtain ⟨r6, M5, h1, h⟩ := bE_go h
    refine A_cSi1 dX10_pool_12 ml_X10_216 mb_X10_isWeek ms_X10_isWeek ⟨Nat.le_of_ble_eq_true rfl, Nat.le_of_ble_eq_true rfl⟩ (Nat.le_of_ble_eq_true rfl) (ok_X10_isWeek h1) ?_
    refine A_if_eq dX10_pool_15 (fun hc => ?_) (fun hc => ?_)
    · have h := gT_go hc h
      refine A_aload_n dX10_pool_33 rfl ?_
      refine A_iconst (v := 1) dX10_pool_34 (by decide) ?_
      obtain ⟨r8, M7, h1, h⟩ := bE_go h
      refine A_cVi1 dX10_pool_35 ml_X10_100 mb_X10_finding mi_X10_finding ob0 rfl rfl ⟨Nat.le_of_ble_eq_true rfl, Nat.le_of_ble_eq_true rfl⟩ (Nat.le_of_ble_eq_true rfl) (ok_X10_finding h1) ?_
      exact A_iret dX10_pool_38 (pI_go h)
    · have h := gF_go hc h
      refine A_iload_n dX10_pool_18 rfl ?_
      obtain ⟨r10, M9, h1, h⟩ := bE_go h
      refine A_cSi1 dX10_pool_19 ml_X10_244 mb_X10_isWorker ms_X10_isWorker ⟨Nat.le_of_ble_eq_true rfl, Nat.le_of_ble_eq_true rfl⟩ (Nat.le_of_ble_eq_true rfl) (ok_X10_isWorker h1) ?_
      refine A_if_eq dX10_pool_22 (fun hc => ?_) (fun hc => ?_)
      · have h := gT_go hc h
        refine A_aload_n dX10_pool_33 rfl ?_
        refine A_iconst (v := 1) dX10_pool_34 (by decide) ?_
        obtain ⟨r12, M11, h1, h⟩ := bE_go h
        refine A_cVi1 dX10_pool_35 ml_X10_100 mb_X10_finding mi_X10_finding ob0 rfl rfl ⟨Nat.le_of_ble_eq_true rfl, Nat.le_of_ble_eq_true rfl⟩ (Nat.le_of_ble_eq_true rfl) (ok_X10_finding h1) ?_
        exact A_iret dX10_pool_38 (pI_go h)
      · have h := gF_go hc h
        refine A_iload_n dX10_pool_25 rfl ?_
        refine A_iload_n dX10_pool_26 rfl ?_
        obtain ⟨r14, M13, h1, h⟩ := bE_go h
        refine A_cSi2 dX10_pool_27 ml_X10_265 mb_X10_isIn ms_X10_isIn ⟨Nat.le_of_ble_eq_true rfl, Nat.le_of_ble_eq_true rfl⟩ (Nat.le_of_ble_eq_true rfl) (ok_X10_isIn h1) ?_
        refine A_if_ne dX10_pool_30 (fun hc => ?_) (fun hc => ?_)
        · have h := gF_go hc h
          refine A_aload_n dX10_pool_39 rfl ?_
          refine A_aload_n dX10_pool_40 rfl ?_
          refine A_getf dX10_pool_41 fw_X10_73 ob0 rfl ?_
          refine A_iload_n dX10_pool_44 rfl ?_
          refine A_iload_n dX10_pool_45 rfl ?_
          refine A_iload_n dX10_pool_46 rfl ?_
          obtain ⟨r16, M15, h1, h⟩ := bE_go h
          refine A_cVi3 dX10_pool_47 ml_X10_268 mb_X3_shareOf mi_X3_shareOf ob8 rfl rfl ⟨Nat.le_of_ble_eq_true rfl, Nat.le_of_ble_eq_true rfl⟩ (Nat.le_of_ble_eq_true rfl) (ok_X3_shareOf h1) ?_
          obtain ⟨r18, M17, h1, h⟩ := bE_go h
          refine A_cVi1 dX10_pool_50 ml_X10_271 mb_X10_orNone mi_X10_orNone ob0 rfl rfl ⟨Nat.le_of_ble_eq_true rfl, Nat.le_of_ble_eq_true rfl⟩ (Nat.le_of_ble_eq_true rfl) (ok_X10_orNone h1) ?_
          exact A_iret dX10_pool_53 (pI_go h)
        · have h := gT_go hc h
          refine A_aload_n dX10_pool_33 rfl ?_
          refine A_iconst (v := 1) dX10_pool_34 (by decide) ?_
          obtain ⟨r20, M19, h1, h⟩ := bE_go h
          refine A_cVi1 dX10_pool_35 ml_X10_100 mb_X10_finding mi_X10_finding ob0 rfl rfl ⟨Nat.le_of_ble_eq_true rfl, Nat.le_of_ble_eq_true rfl⟩ (Nat.le_of_ble_eq_true rfl) (ok_X10_finding h1) ?_
          exact A_iret dX10_pool_38 (pI_go h)
-- BenchTimes.efficiency
theorem dX10_efficiency_0 : di cX10_efficiency 0 (.iload_n 1) 1 1 := ⟨by decide +kernel, rfl⟩
theorem dX10_efficiency_1 : di cX10_efficiency 1 (.invokestatic 244) 3 4 := ⟨by decide +kernel, rfl⟩
theorem dX10_efficiency_4 : dj cX10_efficiency 4 (.ifCond .eq) 7 18 := ⟨14, by decide +kernel, rfl, rfl⟩
theorem dX10_efficiency_7 : di cX10_efficiency 7 (.aload_n 0) 1 8 := ⟨by decide +kernel, rfl⟩
theorem dX10_efficiency_8 : di cX10_efficiency 8 (.getfield 32) 3 11 := ⟨by decide +kernel, rfl⟩
theorem dX10_efficiency_11 : di cX10_efficiency 11 (.iload_n 2) 1 12 := ⟨by decide +kernel, rfl⟩
theorem dX10_efficiency_12 : di cX10_efficiency 12 (.invokevirtual 172) 3 15 := ⟨by decide +kernel, rfl⟩
theorem dX10_efficiency_15 : dj cX10_efficiency 15 (.ifCond .ne) 18 24 := ⟨9, by decide +kernel, rfl, rfl⟩
theorem dX10_efficiency_18 : di cX10_efficiency 18 (.aload_n 0) 1 19 := ⟨by decide +kernel, rfl⟩
theorem dX10_efficiency_19 : di cX10_efficiency 19 (.iconst 1) 1 20 := ⟨by decide +kernel, rfl⟩
theorem dX10_efficiency_20 : di cX10_efficiency 20 (.invokevirtual 100) 3 23 := ⟨by decide +kernel, rfl⟩
theorem dX10_efficiency_23 : di cX10_efficiency 23 (.ireturn) 1 24 := ⟨by decide +kernel, rfl⟩
theorem dX10_efficiency_24 : di cX10_efficiency 24 (.aload_n 0) 1 25 := ⟨by decide +kernel, rfl⟩
theorem dX10_efficiency_25 : di cX10_efficiency 25 (.getfield 82) 3 28 := ⟨by decide +kernel, rfl⟩
theorem dX10_efficiency_28 : di cX10_efficiency 28 (.invokevirtual 274) 3 31 := ⟨by decide +kernel, rfl⟩
theorem dX10_efficiency_31 : di cX10_efficiency 31 (.aload_n 0) 1 32 := ⟨by decide +kernel, rfl⟩
theorem dX10_efficiency_32 : di cX10_efficiency 32 (.aload_n 0) 1 33 := ⟨by decide +kernel, rfl⟩
theorem dX10_efficiency_33 : di cX10_efficiency 33 (.getfield 82) 3 36 := ⟨by decide +kernel, rfl⟩
theorem dX10_efficiency_36 : di cX10_efficiency 36 (.iload_n 1) 1 37 := ⟨by decide +kernel, rfl⟩
theorem dX10_efficiency_37 : di cX10_efficiency 37 (.iload_n 2) 1 38 := ⟨by decide +kernel, rfl⟩
theorem dX10_efficiency_38 : di cX10_efficiency 38 (.invokevirtual 277) 3 41 := ⟨by decide +kernel, rfl⟩
theorem dX10_efficiency_41 : di cX10_efficiency 41 (.invokevirtual 271) 3 44 := ⟨by decide +kernel, rfl⟩
theorem dX10_efficiency_44 : di cX10_efficiency 44 (.ireturn) 1 45 := ⟨by decide +kernel, rfl⟩
def f_X10_efficiency (v1 : Int32) (v2 : Int32) (M : Mem) : Option Ret := bE (f_X10_isWorker v1 M) (fun r2 M1 => if r2 = 0 then (bE (f_X10_finding (1 : Int32) M1) (fun r4 M3 => some (r4, M3))) else (bE (f_X2_has v2 M1) (fun r6 M5 => if r6 = 0 then (bE (f_X10_finding (1 : Int32) M5) (fun r14 M13 => some (r14, M13))) else (bE (f_X0_survey M5) (fun r8 M7 => bE (f_X0_efficiencyOf v1 v2 M7) (fun r10 M9 => bE (f_X10_orNone r10 M9) (fun r12 M11 => some (r12, M11))))))))
set_option maxRecDepth 100000 in
theorem ok_X10_efficiency {l : Launch} {g : Cx} {v1 : Int32} {v2 : Int32} {M : Mem} {r : Int32} {Mr : Mem} (h : f_X10_efficiency v1 v2 M = some (r, Mr)) : CT l g yX10_efficiency cX10_efficiency 3 (some .int) 4 93 [.ref (g.1 0), .int v1, .int v2] M (PI r Mr) := by
  refine CT_of (lv := [some (.ref (g.1 0)), some (.int v1), some (.int v2)]) (by decide) rfl (Nat.le_of_ble_eq_true rfl) ?_
  unfold f_X10_efficiency at h
  refine A_iload_n dX10_efficiency_0 rfl ?_
  obtain ⟨r2, M1, h1, h⟩ := bE_go h
  refine A_cSi1 dX10_efficiency_1 ml_X10_244 mb_X10_isWorker ms_X10_isWorker ⟨Nat.le_of_ble_eq_true rfl, Nat.le_of_ble_eq_true rfl⟩ (Nat.le_of_ble_eq_true rfl) (ok_X10_isWorker h1) ?_
  refine A_if_eq dX10_efficiency_4 (fun hc => ?_) (fun hc => ?_)
  · have h := gT_go hc h
    refine A_aload_n dX10_efficiency_18 rfl ?_
    refine A_iconst (v := 1) dX10_efficiency_19 (by decide) ?_
    obtain ⟨r4, M3, h1, h⟩ := bE_go h
    refine A_cVi1 dX10_efficiency_20 ml_X10_100 mb_X10_finding mi_X10_finding ob0 rfl rfl ⟨Nat.le_of_ble_eq_true rfl, Nat.le_of_ble_eq_true rfl⟩ (Nat.le_of_ble_eq_true rfl) (ok_X10_finding h1) ?_
    exact A_iret dX10_efficiency_23 (pI_go h)
  · have h := gF_go hc h
    refine A_aload_n dX10_efficiency_7 rfl ?_
    refine A_getf dX10_efficiency_8 fw_X10_32 ob0 rfl ?_
    refine A_iload_n dX10_efficiency_11 rfl ?_
    obtain ⟨r6, M5, h1, h⟩ := bE_go h
    refine A_cVi1 dX10_efficiency_12 ml_X10_172 mb_X2_has mi_X2_has ob3 rfl rfl ⟨Nat.le_of_ble_eq_true rfl, Nat.le_of_ble_eq_true rfl⟩ (Nat.le_of_ble_eq_true rfl) (ok_X2_has h1) ?_
    refine A_if_ne dX10_efficiency_15 (fun hc => ?_) (fun hc => ?_)
    · have h := gF_go hc h
      refine A_aload_n dX10_efficiency_24 rfl ?_
      refine A_getf dX10_efficiency_25 fw_X10_82 ob0 rfl ?_
      obtain ⟨r8, M7, h1, h⟩ := bE_go h
      refine A_cVv0 dX10_efficiency_28 ml_X10_274 mb_X0_survey mi_X0_survey ob9 rfl rfl ⟨Nat.le_of_ble_eq_true rfl, Nat.le_of_ble_eq_true rfl⟩ (Nat.le_of_ble_eq_true rfl) (ok_X0_survey h1) ?_
      refine A_aload_n dX10_efficiency_31 rfl ?_
      refine A_aload_n dX10_efficiency_32 rfl ?_
      refine A_getf dX10_efficiency_33 fw_X10_82 ob0 rfl ?_
      refine A_iload_n dX10_efficiency_36 rfl ?_
      refine A_iload_n dX10_efficiency_37 rfl ?_
      obtain ⟨r10, M9, h1, h⟩ := bE_go h
      refine A_cVi2 dX10_efficiency_38 ml_X10_277 mb_X0_efficiencyOf mi_X0_efficiencyOf ob9 rfl rfl ⟨Nat.le_of_ble_eq_true rfl, Nat.le_of_ble_eq_true rfl⟩ (Nat.le_of_ble_eq_true rfl) (ok_X0_efficiencyOf h1) ?_
      obtain ⟨r12, M11, h1, h⟩ := bE_go h
      refine A_cVi1 dX10_efficiency_41 ml_X10_271 mb_X10_orNone mi_X10_orNone ob0 rfl rfl ⟨Nat.le_of_ble_eq_true rfl, Nat.le_of_ble_eq_true rfl⟩ (Nat.le_of_ble_eq_true rfl) (ok_X10_orNone h1) ?_
      exact A_iret dX10_efficiency_44 (pI_go h)
    · have h := gT_go hc h
      refine A_aload_n dX10_efficiency_18 rfl ?_
      refine A_iconst (v := 1) dX10_efficiency_19 (by decide) ?_
      obtain ⟨r14, M13, h1, h⟩ := bE_go h
      refine A_cVi1 dX10_efficiency_20 ml_X10_100 mb_X10_finding mi_X10_finding ob0 rfl rfl ⟨Nat.le_of_ble_eq_true rfl, Nat.le_of_ble_eq_true rfl⟩ (Nat.le_of_ble_eq_true rfl) (ok_X10_finding h1) ?_
      exact A_iret dX10_efficiency_23 (pI_go h)
-- BenchTimes.looser
theorem dX10_looser_0 : di cX10_looser 0 (.aload_n 0) 1 1 := ⟨by decide +kernel, rfl⟩
theorem dX10_looser_1 : di cX10_looser 1 (.getfield 32) 3 4 := ⟨by decide +kernel, rfl⟩
theorem dX10_looser_4 : di cX10_looser 4 (.iload_n 1) 1 5 := ⟨by decide +kernel, rfl⟩
theorem dX10_looser_5 : di cX10_looser 5 (.invokevirtual 172) 3 8 := ⟨by decide +kernel, rfl⟩
theorem dX10_looser_8 : dj cX10_looser 8 (.ifCond .eq) 11 27 := ⟨19, by decide +kernel, rfl, rfl⟩
theorem dX10_looser_11 : di cX10_looser 11 (.aload_n 0) 1 12 := ⟨by decide +kernel, rfl⟩
theorem dX10_looser_12 : di cX10_looser 12 (.getfield 32) 3 15 := ⟨by decide +kernel, rfl⟩
theorem dX10_looser_15 : di cX10_looser 15 (.iload_n 2) 1 16 := ⟨by decide +kernel, rfl⟩
theorem dX10_looser_16 : di cX10_looser 16 (.invokevirtual 172) 3 19 := ⟨by decide +kernel, rfl⟩
theorem dX10_looser_19 : dj cX10_looser 19 (.ifCond .eq) 22 27 := ⟨8, by decide +kernel, rfl, rfl⟩
theorem dX10_looser_22 : di cX10_looser 22 (.iload_n 1) 1 23 := ⟨by decide +kernel, rfl⟩
theorem dX10_looser_23 : di cX10_looser 23 (.iload_n 2) 1 24 := ⟨by decide +kernel, rfl⟩
theorem dX10_looser_24 : dj cX10_looser 24 (.if_icmp .ne) 27 33 := ⟨9, by decide +kernel, rfl, rfl⟩
theorem dX10_looser_27 : di cX10_looser 27 (.aload_n 0) 1 28 := ⟨by decide +kernel, rfl⟩
theorem dX10_looser_28 : di cX10_looser 28 (.iconst 1) 1 29 := ⟨by decide +kernel, rfl⟩
theorem dX10_looser_29 : di cX10_looser 29 (.invokevirtual 100) 3 32 := ⟨by decide +kernel, rfl⟩
theorem dX10_looser_32 : di cX10_looser 32 (.ireturn) 1 33 := ⟨by decide +kernel, rfl⟩
theorem dX10_looser_33 : di cX10_looser 33 (.aload_n 0) 1 34 := ⟨by decide +kernel, rfl⟩
theorem dX10_looser_34 : di cX10_looser 34 (.getfield 82) 3 37 := ⟨by decide +kernel, rfl⟩
theorem dX10_looser_37 : di cX10_looser 37 (.invokevirtual 274) 3 40 := ⟨by decide +kernel, rfl⟩
theorem dX10_looser_40 : di cX10_looser 40 (.aload_n 0) 1 41 := ⟨by decide +kernel, rfl⟩
theorem dX10_looser_41 : di cX10_looser 41 (.getfield 82) 3 44 := ⟨by decide +kernel, rfl⟩
theorem dX10_looser_44 : di cX10_looser 44 (.iload_n 1) 1 45 := ⟨by decide +kernel, rfl⟩
theorem dX10_looser_45 : di cX10_looser 45 (.iload_n 2) 1 46 := ⟨by decide +kernel, rfl⟩
theorem dX10_looser_46 : di cX10_looser 46 (.invokevirtual 280) 3 49 := ⟨by decide +kernel, rfl⟩
theorem dX10_looser_49 : dj cX10_looser 49 (.ifCond .eq) 52 56 := ⟨7, by decide +kernel, rfl, rfl⟩
theorem dX10_looser_52 : di cX10_looser 52 (.iconst 1) 1 53 := ⟨by decide +kernel, rfl⟩
theorem dX10_looser_53 : dj cX10_looser 53 .goto 56 57 := ⟨4, by decide +kernel, rfl, rfl⟩
theorem dX10_looser_56 : di cX10_looser 56 (.iconst 0) 1 57 := ⟨by decide +kernel, rfl⟩
theorem dX10_looser_57 : di cX10_looser 57 (.ireturn) 1 58 := ⟨by decide +kernel, rfl⟩
def f_X10_looser (v1 : Int32) (v2 : Int32) (M : Mem) : Option Ret := bE (f_X2_has v1 M) (fun r2 M1 => if r2 = 0 then (bE (f_X10_finding (1 : Int32) M1) (fun r4 M3 => some (r4, M3))) else (bE (f_X2_has v2 M1) (fun r6 M5 => if r6 = 0 then (bE (f_X10_finding (1 : Int32) M5) (fun r8 M7 => some (r8, M7))) else (if v1 = v2 then (bE (f_X10_finding (1 : Int32) M5) (fun r16 M15 => some (r16, M15))) else (bE (f_X0_survey M5) (fun r10 M9 => bE (f_X0_isLooser v1 v2 M9) (fun r12 M11 => jn (α := Int32 → Option Ret) (fun (z14 : Int32) => some (z14, M11)) (fun J13 => if r12 = 0 then (J13 (0 : Int32)) else (J13 (1 : Int32))))))))))
set_option maxRecDepth 100000 in
theorem ok_X10_looser {l : Launch} {g : Cx} {v1 : Int32} {v2 : Int32} {M : Mem} {r : Int32} {Mr : Mem} (h : f_X10_looser v1 v2 M = some (r, Mr)) : CT l g yX10_looser cX10_looser 3 (some .int) 4 93 [.ref (g.1 0), .int v1, .int v2] M (PI r Mr) := by
  refine CT_of (lv := [some (.ref (g.1 0)), some (.int v1), some (.int v2)]) (by decide) rfl (Nat.le_of_ble_eq_true rfl) ?_
  unfold f_X10_looser at h
  refine A_aload_n dX10_looser_0 rfl ?_
  refine A_getf dX10_looser_1 fw_X10_32 ob0 rfl ?_
  refine A_iload_n dX10_looser_4 rfl ?_
  obtain ⟨r2, M1, h1, h⟩ := bE_go h
  refine A_cVi1 dX10_looser_5 ml_X10_172 mb_X2_has mi_X2_has ob3 rfl rfl ⟨Nat.le_of_ble_eq_true rfl, Nat.le_of_ble_eq_true rfl⟩ (Nat.le_of_ble_eq_true rfl) (ok_X2_has h1) ?_
  refine A_if_eq dX10_looser_8 (fun hc => ?_) (fun hc => ?_)
  · have h := gT_go hc h
    refine A_aload_n dX10_looser_27 rfl ?_
    refine A_iconst (v := 1) dX10_looser_28 (by decide) ?_
    obtain ⟨r4, M3, h1, h⟩ := bE_go h
    refine A_cVi1 dX10_looser_29 ml_X10_100 mb_X10_finding mi_X10_finding ob0 rfl rfl ⟨Nat.le_of_ble_eq_true rfl, Nat.le_of_ble_eq_true rfl⟩ (Nat.le_of_ble_eq_true rfl) (ok_X10_finding h1) ?_
    exact A_iret dX10_looser_32 (pI_go h)
  · have h := gF_go hc h
    refine A_aload_n dX10_looser_11 rfl ?_
    refine A_getf dX10_looser_12 fw_X10_32 ob0 rfl ?_
    refine A_iload_n dX10_looser_15 rfl ?_
    obtain ⟨r6, M5, h1, h⟩ := bE_go h
    refine A_cVi1 dX10_looser_16 ml_X10_172 mb_X2_has mi_X2_has ob3 rfl rfl ⟨Nat.le_of_ble_eq_true rfl, Nat.le_of_ble_eq_true rfl⟩ (Nat.le_of_ble_eq_true rfl) (ok_X2_has h1) ?_
    refine A_if_eq dX10_looser_19 (fun hc => ?_) (fun hc => ?_)
    · have h := gT_go hc h
      refine A_aload_n dX10_looser_27 rfl ?_
      refine A_iconst (v := 1) dX10_looser_28 (by decide) ?_
      obtain ⟨r8, M7, h1, h⟩ := bE_go h
      refine A_cVi1 dX10_looser_29 ml_X10_100 mb_X10_finding mi_X10_finding ob0 rfl rfl ⟨Nat.le_of_ble_eq_true rfl, Nat.le_of_ble_eq_true rfl⟩ (Nat.le_of_ble_eq_true rfl) (ok_X10_finding h1) ?_
      exact A_iret dX10_looser_32 (pI_go h)
    · have h := gF_go hc h
      refine A_iload_n dX10_looser_22 rfl ?_
      refine A_iload_n dX10_looser_23 rfl ?_
      refine A_icmp_ne dX10_looser_24 (fun hc => ?_) (fun hc => ?_)
      · have h := gF_go hc h
        refine A_aload_n dX10_looser_33 rfl ?_
        refine A_getf dX10_looser_34 fw_X10_82 ob0 rfl ?_
        obtain ⟨r10, M9, h1, h⟩ := bE_go h
        refine A_cVv0 dX10_looser_37 ml_X10_274 mb_X0_survey mi_X0_survey ob9 rfl rfl ⟨Nat.le_of_ble_eq_true rfl, Nat.le_of_ble_eq_true rfl⟩ (Nat.le_of_ble_eq_true rfl) (ok_X0_survey h1) ?_
        refine A_aload_n dX10_looser_40 rfl ?_
        refine A_getf dX10_looser_41 fw_X10_82 ob0 rfl ?_
        refine A_iload_n dX10_looser_44 rfl ?_
        refine A_iload_n dX10_looser_45 rfl ?_
        obtain ⟨r12, M11, h1, h⟩ := bE_go h
        refine A_cVi2 dX10_looser_46 ml_X10_280 mb_X0_isLooser mi_X0_isLooser ob9 rfl rfl ⟨Nat.le_of_ble_eq_true rfl, Nat.le_of_ble_eq_true rfl⟩ (Nat.le_of_ble_eq_true rfl) (ok_X0_isLooser h1) ?_
        obtain ⟨J13, hJ13, h⟩ := jn_go h
        have JJ13 : ∀ (z14 : Int32), J13 z14 = some (r, Mr) → AT l g RX10 cX10_looser 3 (some .int) (rmM 4 93) (PI r Mr) 57 [some (.ref (g.1 0)), some (.int v1), some (.int v2)] [.int z14] M11 := by
          intro z14 h
          rw [hJ13] at h
          exact A_iret dX10_looser_57 (pI_go h)
        refine A_if_eq dX10_looser_49 (fun hc => ?_) (fun hc => ?_)
        · have h := gT_go hc h
          refine A_iconst (v := 0) dX10_looser_56 (by decide) ?_
          exact A_le (lvLe_s (lvLe_s (lvLe_s lvLe_0))) (JJ13 _ h)
        · have h := gF_go hc h
          refine A_iconst (v := 1) dX10_looser_52 (by decide) ?_
          refine A_goto dX10_looser_53 ?_
          exact A_le (lvLe_s (lvLe_s (lvLe_s lvLe_0))) (JJ13 _ h)
      · have h := gT_go hc h
        refine A_aload_n dX10_looser_27 rfl ?_
        refine A_iconst (v := 1) dX10_looser_28 (by decide) ?_
        obtain ⟨r16, M15, h1, h⟩ := bE_go h
        refine A_cVi1 dX10_looser_29 ml_X10_100 mb_X10_finding mi_X10_finding ob0 rfl rfl ⟨Nat.le_of_ble_eq_true rfl, Nat.le_of_ble_eq_true rfl⟩ (Nat.le_of_ble_eq_true rfl) (ok_X10_finding h1) ?_
        exact A_iret dX10_looser_32 (pI_go h)
-- BenchTimes.order
theorem dX10_order_0 : di cX10_order 0 (.iload_n 1) 1 1 := ⟨by decide +kernel, rfl⟩
theorem dX10_order_1 : dj cX10_order 1 (.ifCond .ge) 4 10 := ⟨9, by decide +kernel, rfl, rfl⟩
theorem dX10_order_4 : di cX10_order 4 (.aload_n 0) 1 5 := ⟨by decide +kernel, rfl⟩
theorem dX10_order_5 : di cX10_order 5 (.iconst 1) 1 6 := ⟨by decide +kernel, rfl⟩
theorem dX10_order_6 : di cX10_order 6 (.invokevirtual 100) 3 9 := ⟨by decide +kernel, rfl⟩
theorem dX10_order_9 : di cX10_order 9 (.ireturn) 1 10 := ⟨by decide +kernel, rfl⟩
theorem dX10_order_10 : di cX10_order 10 (.aload_n 0) 1 11 := ⟨by decide +kernel, rfl⟩
theorem dX10_order_11 : di cX10_order 11 (.getfield 82) 3 14 := ⟨by decide +kernel, rfl⟩
theorem dX10_order_14 : di cX10_order 14 (.invokevirtual 274) 3 17 := ⟨by decide +kernel, rfl⟩
theorem dX10_order_17 : di cX10_order 17 (.aload_n 0) 1 18 := ⟨by decide +kernel, rfl⟩
theorem dX10_order_18 : di cX10_order 18 (.aload_n 0) 1 19 := ⟨by decide +kernel, rfl⟩
theorem dX10_order_19 : di cX10_order 19 (.getfield 82) 3 22 := ⟨by decide +kernel, rfl⟩
theorem dX10_order_22 : di cX10_order 22 (.iload_n 1) 1 23 := ⟨by decide +kernel, rfl⟩
theorem dX10_order_23 : di cX10_order 23 (.invokevirtual 283) 3 26 := ⟨by decide +kernel, rfl⟩
theorem dX10_order_26 : di cX10_order 26 (.invokevirtual 271) 3 29 := ⟨by decide +kernel, rfl⟩
theorem dX10_order_29 : di cX10_order 29 (.ireturn) 1 30 := ⟨by decide +kernel, rfl⟩
def f_X10_order (v1 : Int32) (M : Mem) : Option Ret := if 0 ≤ v1 then (bE (f_X0_survey M) (fun r2 M1 => bE (f_X0_jobAt v1 M1) (fun r4 M3 => bE (f_X10_orNone r4 M3) (fun r6 M5 => some (r6, M5))))) else (bE (f_X10_finding (1 : Int32) M) (fun r8 M7 => some (r8, M7)))
set_option maxRecDepth 100000 in
theorem ok_X10_order {l : Launch} {g : Cx} {v1 : Int32} {M : Mem} {r : Int32} {Mr : Mem} (h : f_X10_order v1 M = some (r, Mr)) : CT l g yX10_order cX10_order 2 (some .int) 4 95 [.ref (g.1 0), .int v1] M (PI r Mr) := by
  refine CT_of (lv := [some (.ref (g.1 0)), some (.int v1)]) (by decide) rfl (Nat.le_of_ble_eq_true rfl) ?_
  unfold f_X10_order at h
  refine A_iload_n dX10_order_0 rfl ?_
  refine A_if_ge dX10_order_1 (fun hc => ?_) (fun hc => ?_)
  · have h := gT_go hc h
    refine A_aload_n dX10_order_10 rfl ?_
    refine A_getf dX10_order_11 fw_X10_82 ob0 rfl ?_
    obtain ⟨r2, M1, h1, h⟩ := bE_go h
    refine A_cVv0 dX10_order_14 ml_X10_274 mb_X0_survey mi_X0_survey ob9 rfl rfl ⟨Nat.le_of_ble_eq_true rfl, Nat.le_of_ble_eq_true rfl⟩ (Nat.le_of_ble_eq_true rfl) (ok_X0_survey h1) ?_
    refine A_aload_n dX10_order_17 rfl ?_
    refine A_aload_n dX10_order_18 rfl ?_
    refine A_getf dX10_order_19 fw_X10_82 ob0 rfl ?_
    refine A_iload_n dX10_order_22 rfl ?_
    obtain ⟨r4, M3, h1, h⟩ := bE_go h
    refine A_cVi1 dX10_order_23 ml_X10_283 mb_X0_jobAt mi_X0_jobAt ob9 rfl rfl ⟨Nat.le_of_ble_eq_true rfl, Nat.le_of_ble_eq_true rfl⟩ (Nat.le_of_ble_eq_true rfl) (ok_X0_jobAt h1) ?_
    obtain ⟨r6, M5, h1, h⟩ := bE_go h
    refine A_cVi1 dX10_order_26 ml_X10_271 mb_X10_orNone mi_X10_orNone ob0 rfl rfl ⟨Nat.le_of_ble_eq_true rfl, Nat.le_of_ble_eq_true rfl⟩ (Nat.le_of_ble_eq_true rfl) (ok_X10_orNone h1) ?_
    exact A_iret dX10_order_29 (pI_go h)
  · have h := gF_go hc h
    refine A_aload_n dX10_order_4 rfl ?_
    refine A_iconst (v := 1) dX10_order_5 (by decide) ?_
    obtain ⟨r8, M7, h1, h⟩ := bE_go h
    refine A_cVi1 dX10_order_6 ml_X10_100 mb_X10_finding mi_X10_finding ob0 rfl rfl ⟨Nat.le_of_ble_eq_true rfl, Nat.le_of_ble_eq_true rfl⟩ (Nat.le_of_ble_eq_true rfl) (ok_X10_finding h1) ?_
    exact A_iret dX10_order_9 (pI_go h)
-- BenchTimes.slow
theorem dX10_slow_0 : di cX10_slow 0 (.iload_n 1) 1 1 := ⟨by decide +kernel, rfl⟩
theorem dX10_slow_1 : di cX10_slow 1 (.invokestatic 244) 3 4 := ⟨by decide +kernel, rfl⟩
theorem dX10_slow_4 : dj cX10_slow 4 (.ifCond .eq) 7 18 := ⟨14, by decide +kernel, rfl, rfl⟩
theorem dX10_slow_7 : di cX10_slow 7 (.aload_n 0) 1 8 := ⟨by decide +kernel, rfl⟩
theorem dX10_slow_8 : di cX10_slow 8 (.getfield 32) 3 11 := ⟨by decide +kernel, rfl⟩
theorem dX10_slow_11 : di cX10_slow 11 (.iload_n 2) 1 12 := ⟨by decide +kernel, rfl⟩
theorem dX10_slow_12 : di cX10_slow 12 (.invokevirtual 172) 3 15 := ⟨by decide +kernel, rfl⟩
theorem dX10_slow_15 : dj cX10_slow 15 (.ifCond .ne) 18 24 := ⟨9, by decide +kernel, rfl, rfl⟩
theorem dX10_slow_18 : di cX10_slow 18 (.aload_n 0) 1 19 := ⟨by decide +kernel, rfl⟩
theorem dX10_slow_19 : di cX10_slow 19 (.iconst 1) 1 20 := ⟨by decide +kernel, rfl⟩
theorem dX10_slow_20 : di cX10_slow 20 (.invokevirtual 100) 3 23 := ⟨by decide +kernel, rfl⟩
theorem dX10_slow_23 : di cX10_slow 23 (.ireturn) 1 24 := ⟨by decide +kernel, rfl⟩
theorem dX10_slow_24 : di cX10_slow 24 (.aload_n 0) 1 25 := ⟨by decide +kernel, rfl⟩
theorem dX10_slow_25 : di cX10_slow 25 (.getfield 89) 3 28 := ⟨by decide +kernel, rfl⟩
theorem dX10_slow_28 : di cX10_slow 28 (.iload_n 1) 1 29 := ⟨by decide +kernel, rfl⟩
theorem dX10_slow_29 : di cX10_slow 29 (.iload_n 2) 1 30 := ⟨by decide +kernel, rfl⟩
theorem dX10_slow_30 : di cX10_slow 30 (.invokevirtual 286) 3 33 := ⟨by decide +kernel, rfl⟩
theorem dX10_slow_33 : di cX10_slow 33 (.aload_n 0) 1 34 := ⟨by decide +kernel, rfl⟩
theorem dX10_slow_34 : di cX10_slow 34 (.getfield 89) 3 37 := ⟨by decide +kernel, rfl⟩
theorem dX10_slow_37 : di cX10_slow 37 (.invokevirtual 289) 3 40 := ⟨by decide +kernel, rfl⟩
theorem dX10_slow_40 : dj cX10_slow 40 (.ifCond .ne) 43 49 := ⟨9, by decide +kernel, rfl, rfl⟩
theorem dX10_slow_43 : di cX10_slow 43 (.aload_n 0) 1 44 := ⟨by decide +kernel, rfl⟩
theorem dX10_slow_44 : di cX10_slow 44 (.iconst 2) 1 45 := ⟨by decide +kernel, rfl⟩
theorem dX10_slow_45 : di cX10_slow 45 (.invokevirtual 100) 3 48 := ⟨by decide +kernel, rfl⟩
theorem dX10_slow_48 : di cX10_slow 48 (.ireturn) 1 49 := ⟨by decide +kernel, rfl⟩
theorem dX10_slow_49 : di cX10_slow 49 (.aload_n 0) 1 50 := ⟨by decide +kernel, rfl⟩
theorem dX10_slow_50 : di cX10_slow 50 (.getfield 89) 3 53 := ⟨by decide +kernel, rfl⟩
theorem dX10_slow_53 : di cX10_slow 53 (.invokevirtual 292) 3 56 := ⟨by decide +kernel, rfl⟩
theorem dX10_slow_56 : dj cX10_slow 56 (.ifCond .eq) 59 63 := ⟨7, by decide +kernel, rfl, rfl⟩
theorem dX10_slow_59 : di cX10_slow 59 (.iconst 1) 1 60 := ⟨by decide +kernel, rfl⟩
theorem dX10_slow_60 : dj cX10_slow 60 .goto 63 64 := ⟨4, by decide +kernel, rfl, rfl⟩
theorem dX10_slow_63 : di cX10_slow 63 (.iconst 0) 1 64 := ⟨by decide +kernel, rfl⟩
theorem dX10_slow_64 : di cX10_slow 64 (.ireturn) 1 65 := ⟨by decide +kernel, rfl⟩
def f_X10_slow (v1 : Int32) (v2 : Int32) (M : Mem) : Option Ret := bE (f_X10_isWorker v1 M) (fun r2 M1 => if r2 = 0 then (bE (f_X10_finding (1 : Int32) M1) (fun r4 M3 => some (r4, M3))) else (bE (f_X2_has v2 M1) (fun r6 M5 => if r6 = 0 then (bE (f_X10_finding (1 : Int32) M5) (fun r18 M17 => some (r18, M17))) else (bE (f_X6_gather v1 v2 M5) (fun r8 M7 => bE (f_X6_canTell M7) (fun r10 M9 => if r10 = 0 then (bE (f_X10_finding (2 : Int32) M9) (fun r16 M15 => some (r16, M15))) else (bE (f_X6_isBeyondDoubt M9) (fun r12 M11 => jn (α := Int32 → Option Ret) (fun (z14 : Int32) => some (z14, M11)) (fun J13 => if r12 = 0 then (J13 (0 : Int32)) else (J13 (1 : Int32)))))))))))
set_option maxRecDepth 100000 in
theorem ok_X10_slow {l : Launch} {g : Cx} {v1 : Int32} {v2 : Int32} {M : Mem} {r : Int32} {Mr : Mem} (h : f_X10_slow v1 v2 M = some (r, Mr)) : CT l g yX10_slow cX10_slow 3 (some .int) 3 72 [.ref (g.1 0), .int v1, .int v2] M (PI r Mr) := by
  refine CT_of (lv := [some (.ref (g.1 0)), some (.int v1), some (.int v2)]) (by decide) rfl (Nat.le_of_ble_eq_true rfl) ?_
  unfold f_X10_slow at h
  refine A_iload_n dX10_slow_0 rfl ?_
  obtain ⟨r2, M1, h1, h⟩ := bE_go h
  refine A_cSi1 dX10_slow_1 ml_X10_244 mb_X10_isWorker ms_X10_isWorker ⟨Nat.le_of_ble_eq_true rfl, Nat.le_of_ble_eq_true rfl⟩ (Nat.le_of_ble_eq_true rfl) (ok_X10_isWorker h1) ?_
  refine A_if_eq dX10_slow_4 (fun hc => ?_) (fun hc => ?_)
  · have h := gT_go hc h
    refine A_aload_n dX10_slow_18 rfl ?_
    refine A_iconst (v := 1) dX10_slow_19 (by decide) ?_
    obtain ⟨r4, M3, h1, h⟩ := bE_go h
    refine A_cVi1 dX10_slow_20 ml_X10_100 mb_X10_finding mi_X10_finding ob0 rfl rfl ⟨Nat.le_of_ble_eq_true rfl, Nat.le_of_ble_eq_true rfl⟩ (Nat.le_of_ble_eq_true rfl) (ok_X10_finding h1) ?_
    exact A_iret dX10_slow_23 (pI_go h)
  · have h := gF_go hc h
    refine A_aload_n dX10_slow_7 rfl ?_
    refine A_getf dX10_slow_8 fw_X10_32 ob0 rfl ?_
    refine A_iload_n dX10_slow_11 rfl ?_
    obtain ⟨r6, M5, h1, h⟩ := bE_go h
    refine A_cVi1 dX10_slow_12 ml_X10_172 mb_X2_has mi_X2_has ob3 rfl rfl ⟨Nat.le_of_ble_eq_true rfl, Nat.le_of_ble_eq_true rfl⟩ (Nat.le_of_ble_eq_true rfl) (ok_X2_has h1) ?_
    refine A_if_ne dX10_slow_15 (fun hc => ?_) (fun hc => ?_)
    · have h := gF_go hc h
      refine A_aload_n dX10_slow_24 rfl ?_
      refine A_getf dX10_slow_25 fw_X10_89 ob0 rfl ?_
      refine A_iload_n dX10_slow_28 rfl ?_
      refine A_iload_n dX10_slow_29 rfl ?_
      obtain ⟨r8, M7, h1, h⟩ := bE_go h
      refine A_cVv2 dX10_slow_30 ml_X10_286 mb_X6_gather mi_X6_gather ob10 rfl rfl ⟨Nat.le_of_ble_eq_true rfl, Nat.le_of_ble_eq_true rfl⟩ (Nat.le_of_ble_eq_true rfl) (ok_X6_gather h1) ?_
      refine A_aload_n dX10_slow_33 rfl ?_
      refine A_getf dX10_slow_34 fw_X10_89 ob0 rfl ?_
      obtain ⟨r10, M9, h1, h⟩ := bE_go h
      refine A_cVi0 dX10_slow_37 ml_X10_289 mb_X6_canTell mi_X6_canTell ob10 rfl rfl ⟨Nat.le_of_ble_eq_true rfl, Nat.le_of_ble_eq_true rfl⟩ (Nat.le_of_ble_eq_true rfl) (ok_X6_canTell h1) ?_
      refine A_if_ne dX10_slow_40 (fun hc => ?_) (fun hc => ?_)
      · have h := gF_go hc h
        refine A_aload_n dX10_slow_49 rfl ?_
        refine A_getf dX10_slow_50 fw_X10_89 ob0 rfl ?_
        obtain ⟨r12, M11, h1, h⟩ := bE_go h
        refine A_cVi0 dX10_slow_53 ml_X10_292 mb_X6_isBeyondDoubt mi_X6_isBeyondDoubt ob10 rfl rfl ⟨Nat.le_of_ble_eq_true rfl, Nat.le_of_ble_eq_true rfl⟩ (Nat.le_of_ble_eq_true rfl) (ok_X6_isBeyondDoubt h1) ?_
        obtain ⟨J13, hJ13, h⟩ := jn_go h
        have JJ13 : ∀ (z14 : Int32), J13 z14 = some (r, Mr) → AT l g RX10 cX10_slow 3 (some .int) (rmM 3 72) (PI r Mr) 64 [some (.ref (g.1 0)), some (.int v1), some (.int v2)] [.int z14] M11 := by
          intro z14 h
          rw [hJ13] at h
          exact A_iret dX10_slow_64 (pI_go h)
        refine A_if_eq dX10_slow_56 (fun hc => ?_) (fun hc => ?_)
        · have h := gT_go hc h
          refine A_iconst (v := 0) dX10_slow_63 (by decide) ?_
          exact A_le (lvLe_s (lvLe_s (lvLe_s lvLe_0))) (JJ13 _ h)
        · have h := gF_go hc h
          refine A_iconst (v := 1) dX10_slow_59 (by decide) ?_
          refine A_goto dX10_slow_60 ?_
          exact A_le (lvLe_s (lvLe_s (lvLe_s lvLe_0))) (JJ13 _ h)
      · have h := gT_go hc h
        refine A_aload_n dX10_slow_43 rfl ?_
        refine A_iconst (v := 2) dX10_slow_44 (by decide) ?_
        obtain ⟨r16, M15, h1, h⟩ := bE_go h
        refine A_cVi1 dX10_slow_45 ml_X10_100 mb_X10_finding mi_X10_finding ob0 rfl rfl ⟨Nat.le_of_ble_eq_true rfl, Nat.le_of_ble_eq_true rfl⟩ (Nat.le_of_ble_eq_true rfl) (ok_X10_finding h1) ?_
        exact A_iret dX10_slow_48 (pI_go h)
    · have h := gT_go hc h
      refine A_aload_n dX10_slow_18 rfl ?_
      refine A_iconst (v := 1) dX10_slow_19 (by decide) ?_
      obtain ⟨r18, M17, h1, h⟩ := bE_go h
      refine A_cVi1 dX10_slow_20 ml_X10_100 mb_X10_finding mi_X10_finding ob0 rfl rfl ⟨Nat.le_of_ble_eq_true rfl, Nat.le_of_ble_eq_true rfl⟩ (Nat.le_of_ble_eq_true rfl) (ok_X10_finding h1) ?_
      exact A_iret dX10_slow_23 (pI_go h)
-- BenchTimes.tell
theorem dX10_tell_0 : di cX10_tell 0 (.aload_n 0) 1 1 := ⟨by decide +kernel, rfl⟩
theorem dX10_tell_1 : di cX10_tell 1 (.getfield 295) 3 4 := ⟨by decide +kernel, rfl⟩
theorem dX10_tell_4 : di cX10_tell 4 (.bipush 8) 2 6 := ⟨by decide +kernel, rfl⟩
theorem dX10_tell_6 : dj cX10_tell 6 (.if_icmp .lt) 9 15 := ⟨9, by decide +kernel, rfl, rfl⟩
theorem dX10_tell_9 : di cX10_tell 9 (.aload_n 0) 1 10 := ⟨by decide +kernel, rfl⟩
theorem dX10_tell_10 : di cX10_tell 10 (.iconst 4) 1 11 := ⟨by decide +kernel, rfl⟩
theorem dX10_tell_11 : di cX10_tell 11 (.invokevirtual 100) 3 14 := ⟨by decide +kernel, rfl⟩
theorem dX10_tell_14 : di cX10_tell 14 (.ireturn) 1 15 := ⟨by decide +kernel, rfl⟩
theorem dX10_tell_15 : di cX10_tell 15 (.aload_n 0) 1 16 := ⟨by decide +kernel, rfl⟩
theorem dX10_tell_16 : di cX10_tell 16 (.getfield 93) 3 19 := ⟨by decide +kernel, rfl⟩
theorem dX10_tell_19 : di cX10_tell 19 (.aload_n 0) 1 20 := ⟨by decide +kernel, rfl⟩
theorem dX10_tell_20 : di cX10_tell 20 (.getfield 295) 3 23 := ⟨by decide +kernel, rfl⟩
theorem dX10_tell_23 : di cX10_tell 23 (.iload_n 1) 1 24 := ⟨by decide +kernel, rfl⟩
theorem dX10_tell_24 : di cX10_tell 24 (.iastore) 1 25 := ⟨by decide +kernel, rfl⟩
theorem dX10_tell_25 : di cX10_tell 25 (.aload_n 0) 1 26 := ⟨by decide +kernel, rfl⟩
theorem dX10_tell_26 : di cX10_tell 26 (.dup) 1 27 := ⟨by decide +kernel, rfl⟩
theorem dX10_tell_27 : di cX10_tell 27 (.getfield 295) 3 30 := ⟨by decide +kernel, rfl⟩
theorem dX10_tell_30 : di cX10_tell 30 (.iconst 1) 1 31 := ⟨by decide +kernel, rfl⟩
theorem dX10_tell_31 : di cX10_tell 31 (.iadd) 1 32 := ⟨by decide +kernel, rfl⟩
theorem dX10_tell_32 : di cX10_tell 32 (.putfield 295) 3 35 := ⟨by decide +kernel, rfl⟩
theorem dX10_tell_35 : di cX10_tell 35 (.aload_n 0) 1 36 := ⟨by decide +kernel, rfl⟩
theorem dX10_tell_36 : di cX10_tell 36 (.getfield 295) 3 39 := ⟨by decide +kernel, rfl⟩
theorem dX10_tell_39 : di cX10_tell 39 (.ireturn) 1 40 := ⟨by decide +kernel, rfl⟩
def f_X10_tell (v1 : Int32) (M : Mem) : Option Ret := if (M.1 0 12) < (8 : Int32) then (gV (M.1 0 12) 8 (bM (up2 M 13 (M.1 0 12).toNatClampNeg v1) (fun M1 => bM (up2 M1 0 12 ((M1.1 0 12) + (1 : Int32))) (fun M2 => some (M2.1 0 12, M2))))) else (bE (f_X10_finding (4 : Int32) M) (fun r4 M3 => some (r4, M3)))
set_option maxRecDepth 100000 in
theorem ok_X10_tell {l : Launch} {g : Cx} {v1 : Int32} {M : Mem} {r : Int32} {Mr : Mem} (h : f_X10_tell v1 M = some (r, Mr)) : CT l g yX10_tell cX10_tell 2 (some .int) 1 21 [.ref (g.1 0), .int v1] M (PI r Mr) := by
  refine CT_of (lv := [some (.ref (g.1 0)), some (.int v1)]) (by decide) rfl (Nat.le_of_ble_eq_true rfl) ?_
  unfold f_X10_tell at h
  refine A_aload_n dX10_tell_0 rfl ?_
  refine A_getf dX10_tell_1 fw_X10_295 ob0 rfl ?_
  refine A_bipush (v := 8) dX10_tell_4 (by decide) ?_
  refine A_icmp_lt dX10_tell_6 (fun hc => ?_) (fun hc => ?_)
  · have h := gT_go hc h
    refine A_aload_n dX10_tell_15 rfl ?_
    refine A_getf dX10_tell_16 fw_X10_93 ob0 rfl ?_
    refine A_aload_n dX10_tell_19 rfl ?_
    refine A_getf dX10_tell_20 fw_X10_295 ob0 rfl ?_
    refine A_iload_n dX10_tell_23 rfl ?_
    obtain ⟨hg, h⟩ := gV_go h
    refine A_iast dX10_tell_24 ia13 hg (bM_go h (fun M1 h => ?_))
    refine A_aload_n dX10_tell_25 rfl ?_
    refine A_dup dX10_tell_26 rfl ?_
    refine A_getf dX10_tell_27 fw_X10_295 ob0 rfl ?_
    refine A_iconst (v := 1) dX10_tell_30 (by decide) ?_
    refine A_iadd dX10_tell_31 ?_
    refine A_putf dX10_tell_32 pw_X10_295 ob0 pf0_12 (Nat.le_of_ble_eq_true rfl) (bM_go h (fun M2 h => ?_))
    refine A_aload_n dX10_tell_35 rfl ?_
    refine A_getf dX10_tell_36 fw_X10_295 ob0 rfl ?_
    exact A_iret dX10_tell_39 (pI_go h)
  · have h := gF_go hc h
    refine A_aload_n dX10_tell_9 rfl ?_
    refine A_iconst (v := 4) dX10_tell_10 (by decide) ?_
    obtain ⟨r4, M3, h1, h⟩ := bE_go h
    refine A_cVi1 dX10_tell_11 ml_X10_100 mb_X10_finding mi_X10_finding ob0 rfl rfl ⟨Nat.le_of_ble_eq_true rfl, Nat.le_of_ble_eq_true rfl⟩ (Nat.le_of_ble_eq_true rfl) (ok_X10_finding h1) ?_
    exact A_iret dX10_tell_14 (pI_go h)
-- BenchTimes.check
theorem dX10_check_0 : di cX10_check 0 (.aload_n 0) 1 1 := ⟨by decide +kernel, rfl⟩
theorem dX10_check_1 : di cX10_check 1 (.getfield 295) 3 4 := ⟨by decide +kernel, rfl⟩
theorem dX10_check_4 : di cX10_check 4 (.istore_n 2) 1 5 := ⟨by decide +kernel, rfl⟩
theorem dX10_check_5 : di cX10_check 5 (.aload_n 0) 1 6 := ⟨by decide +kernel, rfl⟩
theorem dX10_check_6 : di cX10_check 6 (.iconst 0) 1 7 := ⟨by decide +kernel, rfl⟩
theorem dX10_check_7 : di cX10_check 7 (.putfield 295) 3 10 := ⟨by decide +kernel, rfl⟩
theorem dX10_check_10 : di cX10_check 10 (.iload_n 1) 1 11 := ⟨by decide +kernel, rfl⟩
theorem dX10_check_11 : di cX10_check 11 (.invokestatic 216) 3 14 := ⟨by decide +kernel, rfl⟩
theorem dX10_check_14 : dj cX10_check 14 (.ifCond .ne) 17 23 := ⟨9, by decide +kernel, rfl, rfl⟩
theorem dX10_check_17 : di cX10_check 17 (.aload_n 0) 1 18 := ⟨by decide +kernel, rfl⟩
theorem dX10_check_18 : di cX10_check 18 (.iconst 1) 1 19 := ⟨by decide +kernel, rfl⟩
theorem dX10_check_19 : di cX10_check 19 (.invokevirtual 100) 3 22 := ⟨by decide +kernel, rfl⟩
theorem dX10_check_22 : di cX10_check 22 (.ireturn) 1 23 := ⟨by decide +kernel, rfl⟩
theorem dX10_check_23 : di cX10_check 23 (.iconst 0) 1 24 := ⟨by decide +kernel, rfl⟩
theorem dX10_check_24 : di cX10_check 24 (.istore_n 3) 1 25 := ⟨by decide +kernel, rfl⟩
theorem dX10_check_25 : di cX10_check 25 (.iload_n 3) 1 26 := ⟨by decide +kernel, rfl⟩
theorem dX10_check_26 : di cX10_check 26 (.iload_n 2) 1 27 := ⟨by decide +kernel, rfl⟩
theorem dX10_check_27 : dj cX10_check 27 (.if_icmp .ge) 30 58 := ⟨31, by decide +kernel, rfl, rfl⟩
theorem dX10_check_30 : di cX10_check 30 (.aload_n 0) 1 31 := ⟨by decide +kernel, rfl⟩
theorem dX10_check_31 : di cX10_check 31 (.getfield 93) 3 34 := ⟨by decide +kernel, rfl⟩
theorem dX10_check_34 : di cX10_check 34 (.iload_n 3) 1 35 := ⟨by decide +kernel, rfl⟩
theorem dX10_check_35 : di cX10_check 35 (.iaload) 1 36 := ⟨by decide +kernel, rfl⟩
theorem dX10_check_36 : di cX10_check 36 (.aload_n 0) 1 37 := ⟨by decide +kernel, rfl⟩
theorem dX10_check_37 : di cX10_check 37 (.getfield 73) 3 40 := ⟨by decide +kernel, rfl⟩
theorem dX10_check_40 : di cX10_check 40 (.iload_n 3) 1 41 := ⟨by decide +kernel, rfl⟩
theorem dX10_check_41 : di cX10_check 41 (.iload_n 1) 1 42 := ⟨by decide +kernel, rfl⟩
theorem dX10_check_42 : di cX10_check 42 (.invokevirtual 298) 3 45 := ⟨by decide +kernel, rfl⟩
theorem dX10_check_45 : dj cX10_check 45 (.if_icmp .eq) 48 52 := ⟨7, by decide +kernel, rfl, rfl⟩
theorem dX10_check_48 : di cX10_check 48 (.iconst 1) 1 49 := ⟨by decide +kernel, rfl⟩
theorem dX10_check_49 : di cX10_check 49 (.iload_n 3) 1 50 := ⟨by decide +kernel, rfl⟩
theorem dX10_check_50 : di cX10_check 50 (.iadd) 1 51 := ⟨by decide +kernel, rfl⟩
theorem dX10_check_51 : di cX10_check 51 (.ireturn) 1 52 := ⟨by decide +kernel, rfl⟩
theorem dX10_check_52 : di cX10_check 52 (.iinc 3 1) 3 55 := ⟨by decide +kernel, rfl⟩
theorem dX10_check_55 : dj cX10_check 55 .goto 58 25 := ⟨-30, by decide +kernel, rfl, rfl⟩
theorem dX10_check_58 : di cX10_check 58 (.iconst 0) 1 59 := ⟨by decide +kernel, rfl⟩
theorem dX10_check_59 : di cX10_check 59 (.ireturn) 1 60 := ⟨by decide +kernel, rfl⟩
def f_X10_check_L25 (v1 : Int32) (v2 : Int32) : Nat → Int32 → Mem → (Int32 → Mem → Option Ret) → Option Ret
  | 0, _, _, _ => none
  | k25 + 1, v3, M, K25 => if v2 ≤ v3 then (K25 v3 M) else (gV v3 8 (bE (f_X3_allOf v3 v1 M) (fun r6 M5 => if (M.1 13 v3.toNatClampNeg) = r6 then (f_X10_check_L25 v1 v2 k25 (v3 + (1 : Int32)) M5 K25) else (some ((1 : Int32) + v3, M5)))))
set_option maxRecDepth 100000 in
theorem f_X10_check_L25_ok {l : Launch} {g : Cx} (v1 : Int32) (v2 : Int32)  {r : Int32} {Mr : Mem} : ∀ (k : Nat) (v3 : Int32) (M : Mem) (K25 : Int32 → Mem → Option Ret), f_X10_check_L25 v1 v2 k v3 M K25 = some (r, Mr) → (∀ (v3 : Int32) (M : Mem), K25 v3 M = some (r, Mr) → AT l g RX10 cX10_check 4 (some .int) (rmM 5 119) (PI r Mr) 58 [some (.ref (g.1 0)), some (.int v1), some (.int v2), some (.int v3)] [] M) → AT l g RX10 cX10_check 4 (some .int) (rmM 5 119) (PI r Mr) 25 [some (.ref (g.1 0)), some (.int v1), some (.int v2), some (.int v3)] [] M
  | 0, v3, M, K25, h, hK25 => by cases h
  | k25 + 1, v3, M, K25, h, hK25 => by
    have ih25 := f_X10_check_L25_ok (l := l) (g := g) v1 v2 (r := r) (Mr := Mr) k25
    rw [f_X10_check_L25] at h
    refine A_iload_n dX10_check_25 rfl ?_
    refine A_iload_n dX10_check_26 rfl ?_
    refine A_icmp_ge dX10_check_27 (fun hc => ?_) (fun hc => ?_)
    · have h := gT_go hc h
      exact A_le (lvLe_s (lvLe_s (lvLe_s (lvLe_s lvLe_0)))) (hK25 _ _ h)
    · have h := gF_go hc h
      refine A_aload_n dX10_check_30 rfl ?_
      refine A_getf dX10_check_31 fw_X10_93 ob0 rfl ?_
      refine A_iload_n dX10_check_34 rfl ?_
      obtain ⟨hg, h⟩ := gV_go h
      refine A_iald dX10_check_35 ia13 hg ?_
      refine A_aload_n dX10_check_36 rfl ?_
      refine A_getf dX10_check_37 fw_X10_73 ob0 rfl ?_
      refine A_iload_n dX10_check_40 rfl ?_
      refine A_iload_n dX10_check_41 rfl ?_
      obtain ⟨r6, M5, h1, h⟩ := bE_go h
      refine A_cVi2 dX10_check_42 ml_X10_298 mb_X3_allOf mi_X3_allOf ob8 rfl rfl ⟨Nat.le_of_ble_eq_true rfl, Nat.le_of_ble_eq_true rfl⟩ (Nat.le_of_ble_eq_true rfl) (ok_X3_allOf h1) ?_
      refine A_icmp_eq dX10_check_45 (fun hc => ?_) (fun hc => ?_)
      · have h := gT_go hc h
        refine A_iinc3 (d := 1) dX10_check_52 (by decide) (by decide) rfl ?_
        refine A_goto dX10_check_55 ?_
        exact A_le (lvLe_s (lvLe_s (lvLe_s (lvLe_s lvLe_0)))) (ih25 _ _ K25 h hK25)
      · have h := gF_go hc h
        refine A_iconst (v := 1) dX10_check_48 (by decide) ?_
        refine A_iload_n dX10_check_49 rfl ?_
        refine A_iadd dX10_check_50 ?_
        exact A_iret dX10_check_51 (pI_go h)
def f_X10_check (v1 : Int32) (M : Mem) : Option Ret := bI (M.1 0 12) (fun x1 => bM (up2 M 0 12 (0 : Int32)) (fun M2 => bE (f_X10_isWeek v1 M2) (fun r4 M3 => if r4 = 0 then (bE (f_X10_finding (1 : Int32) M3) (fun r10 M9 => some (r10, M9))) else (f_X10_check_L25 v1 x1 FU (0 : Int32) M3 (fun w7 M8 => some ((0 : Int32), M8))))))
set_option maxRecDepth 100000 in
theorem ok_X10_check {l : Launch} {g : Cx} {v1 : Int32} {M : Mem} {r : Int32} {Mr : Mem} (h : f_X10_check v1 M = some (r, Mr)) : CT l g yX10_check cX10_check 4 (some .int) 5 119 [.ref (g.1 0), .int v1] M (PI r Mr) := by
  refine CT_of (lv := [some (.ref (g.1 0)), some (.int v1), none, none]) (by decide) rfl (Nat.le_of_ble_eq_true rfl) ?_
  unfold f_X10_check at h
  refine A_aload_n dX10_check_0 rfl ?_
  refine A_getf dX10_check_1 fw_X10_295 ob0 rfl ?_
  refine A_istoren2 dX10_check_4 (by decide) rfl (bI_go h (G := fun z => AT l g RX10 cX10_check 4 (some .int) (rmM 5 119) (PI r Mr) 5 [some (.ref (g.1 0)), some (.int v1), some (.int z), none] [] M) (fun x1 h => ?_))
  refine A_aload_n dX10_check_5 rfl ?_
  refine A_iconst (v := 0) dX10_check_6 (by decide) ?_
  refine A_putf dX10_check_7 pw_X10_295 ob0 pf0_12 (Nat.le_of_ble_eq_true rfl) (bM_go h (fun M2 h => ?_))
  refine A_iload_n dX10_check_10 rfl ?_
  obtain ⟨r4, M3, h1, h⟩ := bE_go h
  refine A_cSi1 dX10_check_11 ml_X10_216 mb_X10_isWeek ms_X10_isWeek ⟨Nat.le_of_ble_eq_true rfl, Nat.le_of_ble_eq_true rfl⟩ (Nat.le_of_ble_eq_true rfl) (ok_X10_isWeek h1) ?_
  refine A_if_ne dX10_check_14 (fun hc => ?_) (fun hc => ?_)
  · have h := gF_go hc h
    refine A_iconst (v := 0) dX10_check_23 (by decide) ?_
    refine A_istoren3 dX10_check_24 (by decide) rfl ?_
    refine f_X10_check_L25_ok _ _ FU _ _ _ h (fun w7 M8 h => ?_)
    refine A_iconst (v := 0) dX10_check_58 (by decide) ?_
    exact A_iret dX10_check_59 (pI_go h)
  · have h := gT_go hc h
    refine A_aload_n dX10_check_17 rfl ?_
    refine A_iconst (v := 1) dX10_check_18 (by decide) ?_
    obtain ⟨r10, M9, h1, h⟩ := bE_go h
    refine A_cVi1 dX10_check_19 ml_X10_100 mb_X10_finding mi_X10_finding ob0 rfl rfl ⟨Nat.le_of_ble_eq_true rfl, Nat.le_of_ble_eq_true rfl⟩ (Nat.le_of_ble_eq_true rfl) (ok_X10_finding h1) ?_
    exact A_iret dX10_check_22 (pI_go h)
-- BenchTimes.count
theorem dX10_count_0 : di cX10_count 0 (.iload_n 1) 1 1 := ⟨by decide +kernel, rfl⟩
theorem dX10_count_1 : dts cX10_count 1 (0) (9) 130 [56, 64, 72, 80, 88, 96, 101, 109, 117, 125] := ⟨129, #[55, 63, 71, 79, 87, 95, 100, 108, 116, 124], 55, by decide +kernel, rfl, by decide +kernel⟩
theorem dX10_count_56 : di cX10_count 56 (.aload_n 0) 1 57 := ⟨by decide +kernel, rfl⟩
theorem dX10_count_57 : di cX10_count 57 (.getfield 16) 3 60 := ⟨by decide +kernel, rfl⟩
theorem dX10_count_60 : di cX10_count 60 (.invokevirtual 301) 3 63 := ⟨by decide +kernel, rfl⟩
theorem dX10_count_63 : di cX10_count 63 (.ireturn) 1 64 := ⟨by decide +kernel, rfl⟩
theorem dX10_count_64 : di cX10_count 64 (.aload_n 0) 1 65 := ⟨by decide +kernel, rfl⟩
theorem dX10_count_65 : di cX10_count 65 (.getfield 25) 3 68 := ⟨by decide +kernel, rfl⟩
theorem dX10_count_68 : di cX10_count 68 (.invokevirtual 152) 3 71 := ⟨by decide +kernel, rfl⟩
theorem dX10_count_71 : di cX10_count 71 (.ireturn) 1 72 := ⟨by decide +kernel, rfl⟩
theorem dX10_count_72 : di cX10_count 72 (.aload_n 0) 1 73 := ⟨by decide +kernel, rfl⟩
theorem dX10_count_73 : di cX10_count 73 (.getfield 25) 3 76 := ⟨by decide +kernel, rfl⟩
theorem dX10_count_76 : di cX10_count 76 (.invokevirtual 302) 3 79 := ⟨by decide +kernel, rfl⟩
theorem dX10_count_79 : di cX10_count 79 (.ireturn) 1 80 := ⟨by decide +kernel, rfl⟩
theorem dX10_count_80 : di cX10_count 80 (.aload_n 0) 1 81 := ⟨by decide +kernel, rfl⟩
theorem dX10_count_81 : di cX10_count 81 (.getfield 32) 3 84 := ⟨by decide +kernel, rfl⟩
theorem dX10_count_84 : di cX10_count 84 (.invokevirtual 196) 3 87 := ⟨by decide +kernel, rfl⟩
theorem dX10_count_87 : di cX10_count 87 (.ireturn) 1 88 := ⟨by decide +kernel, rfl⟩
theorem dX10_count_88 : di cX10_count 88 (.aload_n 0) 1 89 := ⟨by decide +kernel, rfl⟩
theorem dX10_count_89 : di cX10_count 89 (.getfield 41) 3 92 := ⟨by decide +kernel, rfl⟩
theorem dX10_count_92 : di cX10_count 92 (.invokevirtual 305) 3 95 := ⟨by decide +kernel, rfl⟩
theorem dX10_count_95 : di cX10_count 95 (.ireturn) 1 96 := ⟨by decide +kernel, rfl⟩
theorem dX10_count_96 : di cX10_count 96 (.aload_n 0) 1 97 := ⟨by decide +kernel, rfl⟩
theorem dX10_count_97 : di cX10_count 97 (.getfield 189) 3 100 := ⟨by decide +kernel, rfl⟩
theorem dX10_count_100 : di cX10_count 100 (.ireturn) 1 101 := ⟨by decide +kernel, rfl⟩
theorem dX10_count_101 : di cX10_count 101 (.aload_n 0) 1 102 := ⟨by decide +kernel, rfl⟩
theorem dX10_count_102 : di cX10_count 102 (.getfield 57) 3 105 := ⟨by decide +kernel, rfl⟩
theorem dX10_count_105 : di cX10_count 105 (.invokevirtual 255) 3 108 := ⟨by decide +kernel, rfl⟩
theorem dX10_count_108 : di cX10_count 108 (.ireturn) 1 109 := ⟨by decide +kernel, rfl⟩
theorem dX10_count_109 : di cX10_count 109 (.aload_n 0) 1 110 := ⟨by decide +kernel, rfl⟩
theorem dX10_count_110 : di cX10_count 110 (.getfield 64) 3 113 := ⟨by decide +kernel, rfl⟩
theorem dX10_count_113 : di cX10_count 113 (.invokevirtual 306) 3 116 := ⟨by decide +kernel, rfl⟩
theorem dX10_count_116 : di cX10_count 116 (.ireturn) 1 117 := ⟨by decide +kernel, rfl⟩
theorem dX10_count_117 : di cX10_count 117 (.aload_n 0) 1 118 := ⟨by decide +kernel, rfl⟩
theorem dX10_count_118 : di cX10_count 118 (.getfield 48) 3 121 := ⟨by decide +kernel, rfl⟩
theorem dX10_count_121 : di cX10_count 121 (.invokevirtual 307) 3 124 := ⟨by decide +kernel, rfl⟩
theorem dX10_count_124 : di cX10_count 124 (.ireturn) 1 125 := ⟨by decide +kernel, rfl⟩
theorem dX10_count_125 : di cX10_count 125 (.aload_n 0) 1 126 := ⟨by decide +kernel, rfl⟩
theorem dX10_count_126 : di cX10_count 126 (.getfield 295) 3 129 := ⟨by decide +kernel, rfl⟩
theorem dX10_count_129 : di cX10_count 129 (.ireturn) 1 130 := ⟨by decide +kernel, rfl⟩
theorem dX10_count_130 : di cX10_count 130 (.aload_n 0) 1 131 := ⟨by decide +kernel, rfl⟩
theorem dX10_count_131 : di cX10_count 131 (.iconst 1) 1 132 := ⟨by decide +kernel, rfl⟩
theorem dX10_count_132 : di cX10_count 132 (.invokevirtual 100) 3 135 := ⟨by decide +kernel, rfl⟩
theorem dX10_count_135 : di cX10_count 135 (.ireturn) 1 136 := ⟨by decide +kernel, rfl⟩
def f_X10_count (v1 : Int32) (M : Mem) : Option Ret := if v1 = (0 : Int32) then (bE (f_X1_many M) (fun r2 M1 => some (r2, M1))) else (if v1 = (1 : Int32) then (bE (f_X8_cycleMany M) (fun r4 M3 => some (r4, M3))) else (if v1 = (2 : Int32) then (bE (f_X8_filmMany M) (fun r6 M5 => some (r6, M5))) else (if v1 = (3 : Int32) then (bE (f_X2_many M) (fun r8 M7 => some (r8, M7))) else (if v1 = (4 : Int32) then (bE (f_X4_many M) (fun r10 M9 => some (r10, M9))) else (if v1 = (5 : Int32) then (some (M.1 0 13, M)) else (if v1 = (6 : Int32) then (bE (f_X9_many M) (fun r12 M11 => some (r12, M11))) else (if v1 = (7 : Int32) then (bE (f_X7_many M) (fun r14 M13 => some (r14, M13))) else (if v1 = (8 : Int32) then (bE (f_X5_byteMany M) (fun r16 M15 => some (r16, M15))) else (if v1 = (9 : Int32) then (some (M.1 0 12, M)) else (bE (f_X10_finding (1 : Int32) M) (fun r18 M17 => some (r18, M17))))))))))))
set_option maxRecDepth 100000 in
theorem ok_X10_count {l : Launch} {g : Cx} {v1 : Int32} {M : Mem} {r : Int32} {Mr : Mem} (h : f_X10_count v1 M = some (r, Mr)) : CT l g yX10_count cX10_count 2 (some .int) 1 21 [.ref (g.1 0), .int v1] M (PI r Mr) := by
  refine CT_of (lv := [some (.ref (g.1 0)), some (.int v1)]) (by decide) rfl (Nat.le_of_ble_eq_true rfl) ?_
  unfold f_X10_count at h
  refine A_iload_n dX10_count_0 rfl ?_
  by_cases hc0 : v1 = (0 : Int32)
  · have h := gT_go hc0 h
    refine A_tsIn (k0 := 0) dX10_count_1 (by rw [hc0]; decide) rfl ?_
    refine A_aload_n dX10_count_56 rfl ?_
    refine A_getf dX10_count_57 fw_X10_16 ob0 rfl ?_
    obtain ⟨r2, M1, h1, h⟩ := bE_go h
    refine A_cVi0 dX10_count_60 ml_X10_301 mb_X1_many mi_X1_many ob1 rfl rfl ⟨Nat.le_of_ble_eq_true rfl, Nat.le_of_ble_eq_true rfl⟩ (Nat.le_of_ble_eq_true rfl) (ok_X1_many h1) ?_
    exact A_iret dX10_count_63 (pI_go h)
  have h := gF_go hc0 h
  by_cases hc1 : v1 = (1 : Int32)
  · have h := gT_go hc1 h
    refine A_tsIn (k0 := 1) dX10_count_1 (by rw [hc1]; decide) rfl ?_
    refine A_aload_n dX10_count_64 rfl ?_
    refine A_getf dX10_count_65 fw_X10_25 ob0 rfl ?_
    obtain ⟨r4, M3, h1, h⟩ := bE_go h
    refine A_cVi0 dX10_count_68 ml_X10_152 mb_X8_cycleMany mi_X8_cycleMany ob2 rfl rfl ⟨Nat.le_of_ble_eq_true rfl, Nat.le_of_ble_eq_true rfl⟩ (Nat.le_of_ble_eq_true rfl) (ok_X8_cycleMany h1) ?_
    exact A_iret dX10_count_71 (pI_go h)
  have h := gF_go hc1 h
  by_cases hc2 : v1 = (2 : Int32)
  · have h := gT_go hc2 h
    refine A_tsIn (k0 := 2) dX10_count_1 (by rw [hc2]; decide) rfl ?_
    refine A_aload_n dX10_count_72 rfl ?_
    refine A_getf dX10_count_73 fw_X10_25 ob0 rfl ?_
    obtain ⟨r6, M5, h1, h⟩ := bE_go h
    refine A_cVi0 dX10_count_76 ml_X10_302 mb_X8_filmMany mi_X8_filmMany ob2 rfl rfl ⟨Nat.le_of_ble_eq_true rfl, Nat.le_of_ble_eq_true rfl⟩ (Nat.le_of_ble_eq_true rfl) (ok_X8_filmMany h1) ?_
    exact A_iret dX10_count_79 (pI_go h)
  have h := gF_go hc2 h
  by_cases hc3 : v1 = (3 : Int32)
  · have h := gT_go hc3 h
    refine A_tsIn (k0 := 3) dX10_count_1 (by rw [hc3]; decide) rfl ?_
    refine A_aload_n dX10_count_80 rfl ?_
    refine A_getf dX10_count_81 fw_X10_32 ob0 rfl ?_
    obtain ⟨r8, M7, h1, h⟩ := bE_go h
    refine A_cVi0 dX10_count_84 ml_X10_196 mb_X2_many mi_X2_many ob3 rfl rfl ⟨Nat.le_of_ble_eq_true rfl, Nat.le_of_ble_eq_true rfl⟩ (Nat.le_of_ble_eq_true rfl) (ok_X2_many h1) ?_
    exact A_iret dX10_count_87 (pI_go h)
  have h := gF_go hc3 h
  by_cases hc4 : v1 = (4 : Int32)
  · have h := gT_go hc4 h
    refine A_tsIn (k0 := 4) dX10_count_1 (by rw [hc4]; decide) rfl ?_
    refine A_aload_n dX10_count_88 rfl ?_
    refine A_getf dX10_count_89 fw_X10_41 ob0 rfl ?_
    obtain ⟨r10, M9, h1, h⟩ := bE_go h
    refine A_cVi0 dX10_count_92 ml_X10_305 mb_X4_many mi_X4_many ob4 rfl rfl ⟨Nat.le_of_ble_eq_true rfl, Nat.le_of_ble_eq_true rfl⟩ (Nat.le_of_ble_eq_true rfl) (ok_X4_many h1) ?_
    exact A_iret dX10_count_95 (pI_go h)
  have h := gF_go hc4 h
  by_cases hc5 : v1 = (5 : Int32)
  · have h := gT_go hc5 h
    refine A_tsIn (k0 := 5) dX10_count_1 (by rw [hc5]; decide) rfl ?_
    refine A_aload_n dX10_count_96 rfl ?_
    refine A_getf dX10_count_97 fw_X10_189 ob0 rfl ?_
    exact A_iret dX10_count_100 (pI_go h)
  have h := gF_go hc5 h
  by_cases hc6 : v1 = (6 : Int32)
  · have h := gT_go hc6 h
    refine A_tsIn (k0 := 6) dX10_count_1 (by rw [hc6]; decide) rfl ?_
    refine A_aload_n dX10_count_101 rfl ?_
    refine A_getf dX10_count_102 fw_X10_57 ob0 rfl ?_
    obtain ⟨r12, M11, h1, h⟩ := bE_go h
    refine A_cVi0 dX10_count_105 ml_X10_255 mb_X9_many mi_X9_many ob6 rfl rfl ⟨Nat.le_of_ble_eq_true rfl, Nat.le_of_ble_eq_true rfl⟩ (Nat.le_of_ble_eq_true rfl) (ok_X9_many h1) ?_
    exact A_iret dX10_count_108 (pI_go h)
  have h := gF_go hc6 h
  by_cases hc7 : v1 = (7 : Int32)
  · have h := gT_go hc7 h
    refine A_tsIn (k0 := 7) dX10_count_1 (by rw [hc7]; decide) rfl ?_
    refine A_aload_n dX10_count_109 rfl ?_
    refine A_getf dX10_count_110 fw_X10_64 ob0 rfl ?_
    obtain ⟨r14, M13, h1, h⟩ := bE_go h
    refine A_cVi0 dX10_count_113 ml_X10_306 mb_X7_many mi_X7_many ob7 rfl rfl ⟨Nat.le_of_ble_eq_true rfl, Nat.le_of_ble_eq_true rfl⟩ (Nat.le_of_ble_eq_true rfl) (ok_X7_many h1) ?_
    exact A_iret dX10_count_116 (pI_go h)
  have h := gF_go hc7 h
  by_cases hc8 : v1 = (8 : Int32)
  · have h := gT_go hc8 h
    refine A_tsIn (k0 := 8) dX10_count_1 (by rw [hc8]; decide) rfl ?_
    refine A_aload_n dX10_count_117 rfl ?_
    refine A_getf dX10_count_118 fw_X10_48 ob0 rfl ?_
    obtain ⟨r16, M15, h1, h⟩ := bE_go h
    refine A_cVi0 dX10_count_121 ml_X10_307 mb_X5_byteMany mi_X5_byteMany ob5 rfl rfl ⟨Nat.le_of_ble_eq_true rfl, Nat.le_of_ble_eq_true rfl⟩ (Nat.le_of_ble_eq_true rfl) (ok_X5_byteMany h1) ?_
    exact A_iret dX10_count_124 (pI_go h)
  have h := gF_go hc8 h
  by_cases hc9 : v1 = (9 : Int32)
  · have h := gT_go hc9 h
    refine A_tsIn (k0 := 9) dX10_count_1 (by rw [hc9]; decide) rfl ?_
    refine A_aload_n dX10_count_125 rfl ?_
    refine A_getf dX10_count_126 fw_X10_295 ob0 rfl ?_
    exact A_iret dX10_count_129 (pI_go h)
  have h := gF_go hc9 h
  refine A_tsOut dX10_count_1 (tsw_out (fun k h1 h2 => ?_)) ?_
  · rcases (show k = 0 ∨ k = 1 ∨ k = 2 ∨ k = 3 ∨ k = 4 ∨ k = 5 ∨ k = 6 ∨ k = 7 ∨ k = 8 ∨ k = 9 by omega) with rfl | rfl | rfl | rfl | rfl | rfl | rfl | rfl | rfl | rfl
    · exact hc0
    · exact hc1
    · exact hc2
    · exact hc3
    · exact hc4
    · exact hc5
    · exact hc6
    · exact hc7
    · exact hc8
    · exact hc9
  · refine A_aload_n dX10_count_130 rfl ?_
    refine A_iconst (v := 1) dX10_count_131 (by decide) ?_
    obtain ⟨r18, M17, h1, h⟩ := bE_go h
    refine A_cVi1 dX10_count_132 ml_X10_100 mb_X10_finding mi_X10_finding ob0 rfl rfl ⟨Nat.le_of_ble_eq_true rfl, Nat.le_of_ble_eq_true rfl⟩ (Nat.le_of_ble_eq_true rfl) (ok_X10_finding h1) ?_
    exact A_iret dX10_count_135 (pI_go h)
-- BenchTimes.found
theorem dX10_found_0 : di cX10_found 0 (.iload_n 1) 1 1 := ⟨by decide +kernel, rfl⟩
theorem dX10_found_1 : di cX10_found 1 (.iconst 1) 1 2 := ⟨by decide +kernel, rfl⟩
theorem dX10_found_2 : di cX10_found 2 (.iconst 5) 1 3 := ⟨by decide +kernel, rfl⟩
theorem dX10_found_3 : di cX10_found 3 (.invokestatic 121) 3 6 := ⟨by decide +kernel, rfl⟩
theorem dX10_found_6 : dj cX10_found 6 (.ifCond .ne) 9 15 := ⟨9, by decide +kernel, rfl, rfl⟩
theorem dX10_found_9 : di cX10_found 9 (.aload_n 0) 1 10 := ⟨by decide +kernel, rfl⟩
theorem dX10_found_10 : di cX10_found 10 (.iconst 1) 1 11 := ⟨by decide +kernel, rfl⟩
theorem dX10_found_11 : di cX10_found 11 (.invokevirtual 100) 3 14 := ⟨by decide +kernel, rfl⟩
theorem dX10_found_14 : di cX10_found 14 (.ireturn) 1 15 := ⟨by decide +kernel, rfl⟩
theorem dX10_found_15 : di cX10_found 15 (.aload_n 0) 1 16 := ⟨by decide +kernel, rfl⟩
theorem dX10_found_16 : di cX10_found 16 (.getfield 9) 3 19 := ⟨by decide +kernel, rfl⟩
theorem dX10_found_19 : di cX10_found 19 (.iload_n 1) 1 20 := ⟨by decide +kernel, rfl⟩
theorem dX10_found_20 : di cX10_found 20 (.iaload) 1 21 := ⟨by decide +kernel, rfl⟩
theorem dX10_found_21 : di cX10_found 21 (.ireturn) 1 22 := ⟨by decide +kernel, rfl⟩
def f_X10_found (v1 : Int32) (M : Mem) : Option Ret := bE (f_X10_isWithin v1 (1 : Int32) (5 : Int32) M) (fun r2 M1 => if r2 = 0 then (bE (f_X10_finding (1 : Int32) M1) (fun r4 M3 => some (r4, M3))) else (gV v1 6 (some (M1.1 12 v1.toNatClampNeg, M1))))
set_option maxRecDepth 100000 in
theorem ok_X10_found {l : Launch} {g : Cx} {v1 : Int32} {M : Mem} {r : Int32} {Mr : Mem} (h : f_X10_found v1 M = some (r, Mr)) : CT l g yX10_found cX10_found 2 (some .int) 1 22 [.ref (g.1 0), .int v1] M (PI r Mr) := by
  refine CT_of (lv := [some (.ref (g.1 0)), some (.int v1)]) (by decide) rfl (Nat.le_of_ble_eq_true rfl) ?_
  unfold f_X10_found at h
  refine A_iload_n dX10_found_0 rfl ?_
  refine A_iconst (v := 1) dX10_found_1 (by decide) ?_
  refine A_iconst (v := 5) dX10_found_2 (by decide) ?_
  obtain ⟨r2, M1, h1, h⟩ := bE_go h
  refine A_cSi3 dX10_found_3 ml_X10_121 mb_X10_isWithin ms_X10_isWithin ⟨Nat.le_of_ble_eq_true rfl, Nat.le_of_ble_eq_true rfl⟩ (Nat.le_of_ble_eq_true rfl) (ok_X10_isWithin h1) ?_
  refine A_if_ne dX10_found_6 (fun hc => ?_) (fun hc => ?_)
  · have h := gF_go hc h
    refine A_aload_n dX10_found_15 rfl ?_
    refine A_getf dX10_found_16 fw_X10_9 ob0 rfl ?_
    refine A_iload_n dX10_found_19 rfl ?_
    obtain ⟨hg, h⟩ := gV_go h
    refine A_iald dX10_found_20 ia12 hg ?_
    exact A_iret dX10_found_21 (pI_go h)
  · have h := gT_go hc h
    refine A_aload_n dX10_found_9 rfl ?_
    refine A_iconst (v := 1) dX10_found_10 (by decide) ?_
    obtain ⟨r4, M3, h1, h⟩ := bE_go h
    refine A_cVi1 dX10_found_11 ml_X10_100 mb_X10_finding mi_X10_finding ob0 rfl rfl ⟨Nat.le_of_ble_eq_true rfl, Nat.le_of_ble_eq_true rfl⟩ (Nat.le_of_ble_eq_true rfl) (ok_X10_finding h1) ?_
    exact A_iret dX10_found_14 (pI_go h)
-- BenchTimesModel.finding
theorem dX11_finding_0 : di cX11_finding 0 (.aload_n 0) 1 1 := ⟨by decide +kernel, rfl⟩
theorem dX11_finding_1 : di cX11_finding 1 (.getfield 105) 3 4 := ⟨by decide +kernel, rfl⟩
theorem dX11_finding_4 : di cX11_finding 4 (.iload_n 1) 1 5 := ⟨by decide +kernel, rfl⟩
theorem dX11_finding_5 : di cX11_finding 5 (.dup2) 1 6 := ⟨by decide +kernel, rfl⟩
theorem dX11_finding_6 : di cX11_finding 6 (.iaload) 1 7 := ⟨by decide +kernel, rfl⟩
theorem dX11_finding_7 : di cX11_finding 7 (.iconst 1) 1 8 := ⟨by decide +kernel, rfl⟩
theorem dX11_finding_8 : di cX11_finding 8 (.iadd) 1 9 := ⟨by decide +kernel, rfl⟩
theorem dX11_finding_9 : di cX11_finding 9 (.iastore) 1 10 := ⟨by decide +kernel, rfl⟩
theorem dX11_finding_10 : di cX11_finding 10 (.ldc 126) 2 12 := ⟨by decide +kernel, rfl⟩
theorem dX11_finding_12 : di cX11_finding 12 (.iload_n 1) 1 13 := ⟨by decide +kernel, rfl⟩
theorem dX11_finding_13 : di cX11_finding 13 (.isub) 1 14 := ⟨by decide +kernel, rfl⟩
theorem dX11_finding_14 : di cX11_finding 14 (.ireturn) 1 15 := ⟨by decide +kernel, rfl⟩
def f_X11_finding (v1 : Int32) (M : Mem) : Option Ret := gV v1 6 (gV v1 6 (bM (up2 M 95 v1.toNatClampNeg ((M.1 95 v1.toNatClampNeg) + (1 : Int32))) (fun M1 => some ((-1000000000 : Int32) - v1, M1))))
set_option maxRecDepth 100000 in
theorem ok_X11_finding {l : Launch} {g : Cx} {v1 : Int32} {M : Mem} {r : Int32} {Mr : Mem} (h : f_X11_finding v1 M = some (r, Mr)) : CT l g yX11_finding cX11_finding 2 (some .int) 0 0 [.ref (g.1 11), .int v1] M (PI r Mr) := by
  refine CT_of (lv := [some (.ref (g.1 11)), some (.int v1)]) (by decide) rfl (Nat.le_of_ble_eq_true rfl) ?_
  unfold f_X11_finding at h
  refine A_aload_n dX11_finding_0 rfl ?_
  refine A_getf dX11_finding_1 fw_X11_105 ob11 rfl ?_
  refine A_iload_n dX11_finding_4 rfl ?_
  refine A_dup2 dX11_finding_5 rfl rfl ?_
  obtain ⟨hg, h⟩ := gV_go h
  refine A_iald dX11_finding_6 ia95 hg ?_
  refine A_iconst (v := 1) dX11_finding_7 (by decide) ?_
  refine A_iadd dX11_finding_8 ?_
  obtain ⟨hg, h⟩ := gV_go h
  refine A_iast dX11_finding_9 ia95 hg (bM_go h (fun M1 h => ?_))
  refine A_ldc dX11_finding_10 kc_X11_126 ?_
  refine A_iload_n dX11_finding_12 rfl ?_
  refine A_isub dX11_finding_13 ?_
  exact A_iret dX11_finding_14 (pI_go h)
-- BenchTimesModel.isIn
theorem dX11_isIn_0 : di cX11_isIn 0 (.iload_n 0) 1 1 := ⟨by decide +kernel, rfl⟩
theorem dX11_isIn_1 : di cX11_isIn 1 (.iload_n 1) 1 2 := ⟨by decide +kernel, rfl⟩
theorem dX11_isIn_2 : dj cX11_isIn 2 (.if_icmp .lt) 5 14 := ⟨12, by decide +kernel, rfl, rfl⟩
theorem dX11_isIn_5 : di cX11_isIn 5 (.iload_n 0) 1 6 := ⟨by decide +kernel, rfl⟩
theorem dX11_isIn_6 : di cX11_isIn 6 (.iload_n 2) 1 7 := ⟨by decide +kernel, rfl⟩
theorem dX11_isIn_7 : dj cX11_isIn 7 (.if_icmp .gt) 10 14 := ⟨7, by decide +kernel, rfl, rfl⟩
theorem dX11_isIn_10 : di cX11_isIn 10 (.iconst 1) 1 11 := ⟨by decide +kernel, rfl⟩
theorem dX11_isIn_11 : dj cX11_isIn 11 .goto 14 15 := ⟨4, by decide +kernel, rfl, rfl⟩
theorem dX11_isIn_14 : di cX11_isIn 14 (.iconst 0) 1 15 := ⟨by decide +kernel, rfl⟩
theorem dX11_isIn_15 : di cX11_isIn 15 (.ireturn) 1 16 := ⟨by decide +kernel, rfl⟩
def f_X11_isIn (v0 : Int32) (v1 : Int32) (v2 : Int32) (M : Mem) : Option Ret := jn (α := Int32 → Option Ret) (fun (z2 : Int32) => gZ z2 (some (z2, M))) (fun J1 => if v0 < v1 then (J1 (0 : Int32)) else (if v2 < v0 then (J1 (0 : Int32)) else (J1 (1 : Int32))))
set_option maxRecDepth 100000 in
theorem ok_X11_isIn {l : Launch} {g : Cx} {v0 : Int32} {v1 : Int32} {v2 : Int32} {M : Mem} {r : Int32} {Mr : Mem} (h : f_X11_isIn v0 v1 v2 M = some (r, Mr)) : CT l g yX11_isIn cX11_isIn 3 (some .boolean) 0 0 [.int v0, .int v1, .int v2] M (PI r Mr) := by
  refine CT_of (lv := [some (.int v0), some (.int v1), some (.int v2)]) (by decide) rfl (Nat.le_of_ble_eq_true rfl) ?_
  unfold f_X11_isIn at h
  refine A_iload_n dX11_isIn_0 rfl ?_
  refine A_iload_n dX11_isIn_1 rfl ?_
  obtain ⟨J1, hJ1, h⟩ := jn_go h
  have JJ1 : ∀ (z2 : Int32), J1 z2 = some (r, Mr) → AT l g RX11 cX11_isIn 3 (some .boolean) (rmM 0 0) (PI r Mr) 15 [some (.int v0), some (.int v1), some (.int v2)] [.int z2] M := by
    intro z2 h
    rw [hJ1] at h
    obtain ⟨hg, h⟩ := gZ_go h
    exact A_zret dX11_isIn_15 hg (pI_go h)
  refine A_icmp_lt dX11_isIn_2 (fun hc => ?_) (fun hc => ?_)
  · have h := gT_go hc h
    refine A_iconst (v := 0) dX11_isIn_14 (by decide) ?_
    exact A_le (lvLe_s (lvLe_s (lvLe_s lvLe_0))) (JJ1 _ h)
  · have h := gF_go hc h
    refine A_iload_n dX11_isIn_5 rfl ?_
    refine A_iload_n dX11_isIn_6 rfl ?_
    refine A_icmp_gt dX11_isIn_7 (fun hc => ?_) (fun hc => ?_)
    · have h := gT_go hc h
      refine A_iconst (v := 0) dX11_isIn_14 (by decide) ?_
      exact A_le (lvLe_s (lvLe_s (lvLe_s lvLe_0))) (JJ1 _ h)
    · have h := gF_go hc h
      refine A_iconst (v := 1) dX11_isIn_10 (by decide) ?_
      refine A_goto dX11_isIn_11 ?_
      exact A_le (lvLe_s (lvLe_s (lvLe_s lvLe_0))) (JJ1 _ h)
-- BenchTimesModel.isElement
theorem dX11_isElement_0 : di cX11_isElement 0 (.iload_n 1) 1 1 := ⟨by decide +kernel, rfl⟩
theorem dX11_isElement_1 : dj cX11_isElement 1 (.ifCond .lt) 4 16 := ⟨15, by decide +kernel, rfl, rfl⟩
theorem dX11_isElement_4 : di cX11_isElement 4 (.iload_n 1) 1 5 := ⟨by decide +kernel, rfl⟩
theorem dX11_isElement_5 : di cX11_isElement 5 (.aload_n 0) 1 6 := ⟨by decide +kernel, rfl⟩
theorem dX11_isElement_6 : di cX11_isElement 6 (.getfield 127) 3 9 := ⟨by decide +kernel, rfl⟩
theorem dX11_isElement_9 : dj cX11_isElement 9 (.if_icmp .ge) 12 16 := ⟨7, by decide +kernel, rfl, rfl⟩
theorem dX11_isElement_12 : di cX11_isElement 12 (.iconst 1) 1 13 := ⟨by decide +kernel, rfl⟩
theorem dX11_isElement_13 : dj cX11_isElement 13 .goto 16 17 := ⟨4, by decide +kernel, rfl, rfl⟩
theorem dX11_isElement_16 : di cX11_isElement 16 (.iconst 0) 1 17 := ⟨by decide +kernel, rfl⟩
theorem dX11_isElement_17 : di cX11_isElement 17 (.ireturn) 1 18 := ⟨by decide +kernel, rfl⟩
def f_X11_isElement (v1 : Int32) (M : Mem) : Option Ret := jn (α := Int32 → Option Ret) (fun (z2 : Int32) => gZ z2 (some (z2, M))) (fun J1 => if v1 < 0 then (J1 (0 : Int32)) else (if (M.1 11 0) ≤ v1 then (J1 (0 : Int32)) else (J1 (1 : Int32))))
set_option maxRecDepth 100000 in
theorem ok_X11_isElement {l : Launch} {g : Cx} {v1 : Int32} {M : Mem} {r : Int32} {Mr : Mem} (h : f_X11_isElement v1 M = some (r, Mr)) : CT l g yX11_isElement cX11_isElement 2 (some .boolean) 0 0 [.ref (g.1 11), .int v1] M (PI r Mr) := by
  refine CT_of (lv := [some (.ref (g.1 11)), some (.int v1)]) (by decide) rfl (Nat.le_of_ble_eq_true rfl) ?_
  unfold f_X11_isElement at h
  refine A_iload_n dX11_isElement_0 rfl ?_
  obtain ⟨J1, hJ1, h⟩ := jn_go h
  have JJ1 : ∀ (z2 : Int32), J1 z2 = some (r, Mr) → AT l g RX11 cX11_isElement 2 (some .boolean) (rmM 0 0) (PI r Mr) 17 [some (.ref (g.1 11)), some (.int v1)] [.int z2] M := by
    intro z2 h
    rw [hJ1] at h
    obtain ⟨hg, h⟩ := gZ_go h
    exact A_zret dX11_isElement_17 hg (pI_go h)
  refine A_if_lt dX11_isElement_1 (fun hc => ?_) (fun hc => ?_)
  · have h := gT_go hc h
    refine A_iconst (v := 0) dX11_isElement_16 (by decide) ?_
    exact A_le (lvLe_s (lvLe_s lvLe_0)) (JJ1 _ h)
  · have h := gF_go hc h
    refine A_iload_n dX11_isElement_4 rfl ?_
    refine A_aload_n dX11_isElement_5 rfl ?_
    refine A_getf dX11_isElement_6 fw_X11_127 ob11 rfl ?_
    refine A_icmp_ge dX11_isElement_9 (fun hc => ?_) (fun hc => ?_)
    · have h := gT_go hc h
      refine A_iconst (v := 0) dX11_isElement_16 (by decide) ?_
      exact A_le (lvLe_s (lvLe_s lvLe_0)) (JJ1 _ h)
    · have h := gF_go hc h
      refine A_iconst (v := 1) dX11_isElement_12 (by decide) ?_
      refine A_goto dX11_isElement_13 ?_
      exact A_le (lvLe_s (lvLe_s lvLe_0)) (JJ1 _ h)
-- BenchTimesModel.isJob
theorem dX11_isJob_0 : di cX11_isJob 0 (.iload_n 1) 1 1 := ⟨by decide +kernel, rfl⟩
theorem dX11_isJob_1 : dj cX11_isJob 1 (.ifCond .lt) 4 16 := ⟨15, by decide +kernel, rfl, rfl⟩
theorem dX11_isJob_4 : di cX11_isJob 4 (.iload_n 1) 1 5 := ⟨by decide +kernel, rfl⟩
theorem dX11_isJob_5 : di cX11_isJob 5 (.aload_n 0) 1 6 := ⟨by decide +kernel, rfl⟩
theorem dX11_isJob_6 : di cX11_isJob 6 (.getfield 130) 3 9 := ⟨by decide +kernel, rfl⟩
theorem dX11_isJob_9 : dj cX11_isJob 9 (.if_icmp .ge) 12 16 := ⟨7, by decide +kernel, rfl, rfl⟩
theorem dX11_isJob_12 : di cX11_isJob 12 (.iconst 1) 1 13 := ⟨by decide +kernel, rfl⟩
theorem dX11_isJob_13 : dj cX11_isJob 13 .goto 16 17 := ⟨4, by decide +kernel, rfl, rfl⟩
theorem dX11_isJob_16 : di cX11_isJob 16 (.iconst 0) 1 17 := ⟨by decide +kernel, rfl⟩
theorem dX11_isJob_17 : di cX11_isJob 17 (.ireturn) 1 18 := ⟨by decide +kernel, rfl⟩
def f_X11_isJob (v1 : Int32) (M : Mem) : Option Ret := jn (α := Int32 → Option Ret) (fun (z2 : Int32) => gZ z2 (some (z2, M))) (fun J1 => if v1 < 0 then (J1 (0 : Int32)) else (if (M.1 11 12) ≤ v1 then (J1 (0 : Int32)) else (J1 (1 : Int32))))
set_option maxRecDepth 100000 in
theorem ok_X11_isJob {l : Launch} {g : Cx} {v1 : Int32} {M : Mem} {r : Int32} {Mr : Mem} (h : f_X11_isJob v1 M = some (r, Mr)) : CT l g yX11_isJob cX11_isJob 2 (some .boolean) 0 0 [.ref (g.1 11), .int v1] M (PI r Mr) := by
  refine CT_of (lv := [some (.ref (g.1 11)), some (.int v1)]) (by decide) rfl (Nat.le_of_ble_eq_true rfl) ?_
  unfold f_X11_isJob at h
  refine A_iload_n dX11_isJob_0 rfl ?_
  obtain ⟨J1, hJ1, h⟩ := jn_go h
  have JJ1 : ∀ (z2 : Int32), J1 z2 = some (r, Mr) → AT l g RX11 cX11_isJob 2 (some .boolean) (rmM 0 0) (PI r Mr) 17 [some (.ref (g.1 11)), some (.int v1)] [.int z2] M := by
    intro z2 h
    rw [hJ1] at h
    obtain ⟨hg, h⟩ := gZ_go h
    exact A_zret dX11_isJob_17 hg (pI_go h)
  refine A_if_lt dX11_isJob_1 (fun hc => ?_) (fun hc => ?_)
  · have h := gT_go hc h
    refine A_iconst (v := 0) dX11_isJob_16 (by decide) ?_
    exact A_le (lvLe_s (lvLe_s lvLe_0)) (JJ1 _ h)
  · have h := gF_go hc h
    refine A_iload_n dX11_isJob_4 rfl ?_
    refine A_aload_n dX11_isJob_5 rfl ?_
    refine A_getf dX11_isJob_6 fw_X11_130 ob11 rfl ?_
    refine A_icmp_ge dX11_isJob_9 (fun hc => ?_) (fun hc => ?_)
    · have h := gT_go hc h
      refine A_iconst (v := 0) dX11_isJob_16 (by decide) ?_
      exact A_le (lvLe_s (lvLe_s lvLe_0)) (JJ1 _ h)
    · have h := gF_go hc h
      refine A_iconst (v := 1) dX11_isJob_12 (by decide) ?_
      refine A_goto dX11_isJob_13 ?_
      exact A_le (lvLe_s (lvLe_s lvLe_0)) (JJ1 _ h)
-- BenchTimesModel.isWorker
theorem dX11_isWorker_0 : di cX11_isWorker 0 (.iload_n 0) 1 1 := ⟨by decide +kernel, rfl⟩
theorem dX11_isWorker_1 : di cX11_isWorker 1 (.iconst 0) 1 2 := ⟨by decide +kernel, rfl⟩
theorem dX11_isWorker_2 : di cX11_isWorker 2 (.bipush 7) 2 4 := ⟨by decide +kernel, rfl⟩
theorem dX11_isWorker_4 : di cX11_isWorker 4 (.invokestatic 133) 3 7 := ⟨by decide +kernel, rfl⟩
theorem dX11_isWorker_7 : di cX11_isWorker 7 (.ireturn) 1 8 := ⟨by decide +kernel, rfl⟩
def f_X11_isWorker (v0 : Int32) (M : Mem) : Option Ret := bE (f_X11_isIn v0 (0 : Int32) (7 : Int32) M) (fun r2 M1 => gZ r2 (some (r2, M1)))
set_option maxRecDepth 100000 in
theorem ok_X11_isWorker {l : Launch} {g : Cx} {v0 : Int32} {M : Mem} {r : Int32} {Mr : Mem} (h : f_X11_isWorker v0 M = some (r, Mr)) : CT l g yX11_isWorker cX11_isWorker 1 (some .boolean) 1 22 [.int v0] M (PI r Mr) := by
  refine CT_of (lv := [some (.int v0)]) (by decide) rfl (Nat.le_of_ble_eq_true rfl) ?_
  unfold f_X11_isWorker at h
  refine A_iload_n dX11_isWorker_0 rfl ?_
  refine A_iconst (v := 0) dX11_isWorker_1 (by decide) ?_
  refine A_bipush (v := 7) dX11_isWorker_2 (by decide) ?_
  obtain ⟨r2, M1, h1, h⟩ := bE_go h
  refine A_cSi3 dX11_isWorker_4 ml_X11_133 mb_X11_isIn ms_X11_isIn ⟨Nat.le_of_ble_eq_true rfl, Nat.le_of_ble_eq_true rfl⟩ (Nat.le_of_ble_eq_true rfl) (ok_X11_isIn h1) ?_
  obtain ⟨hg, h⟩ := gZ_go h
  exact A_zret dX11_isWorker_7 hg (pI_go h)
-- BenchTimesModel.isWeek
theorem dX11_isWeek_0 : di cX11_isWeek 0 (.iload_n 0) 1 1 := ⟨by decide +kernel, rfl⟩
theorem dX11_isWeek_1 : di cX11_isWeek 1 (.iconst 0) 1 2 := ⟨by decide +kernel, rfl⟩
theorem dX11_isWeek_2 : di cX11_isWeek 2 (.sipush 500) 3 5 := ⟨by decide +kernel, rfl⟩
theorem dX11_isWeek_5 : di cX11_isWeek 5 (.invokestatic 133) 3 8 := ⟨by decide +kernel, rfl⟩
theorem dX11_isWeek_8 : di cX11_isWeek 8 (.ireturn) 1 9 := ⟨by decide +kernel, rfl⟩
def f_X11_isWeek (v0 : Int32) (M : Mem) : Option Ret := bE (f_X11_isIn v0 (0 : Int32) (500 : Int32) M) (fun r2 M1 => gZ r2 (some (r2, M1)))
set_option maxRecDepth 100000 in
theorem ok_X11_isWeek {l : Launch} {g : Cx} {v0 : Int32} {M : Mem} {r : Int32} {Mr : Mem} (h : f_X11_isWeek v0 M = some (r, Mr)) : CT l g yX11_isWeek cX11_isWeek 1 (some .boolean) 1 22 [.int v0] M (PI r Mr) := by
  refine CT_of (lv := [some (.int v0)]) (by decide) rfl (Nat.le_of_ble_eq_true rfl) ?_
  unfold f_X11_isWeek at h
  refine A_iload_n dX11_isWeek_0 rfl ?_
  refine A_iconst (v := 0) dX11_isWeek_1 (by decide) ?_
  refine A_sipush (v := 500) dX11_isWeek_2 (by decide) ?_
  obtain ⟨r2, M1, h1, h⟩ := bE_go h
  refine A_cSi3 dX11_isWeek_5 ml_X11_133 mb_X11_isIn ms_X11_isIn ⟨Nat.le_of_ble_eq_true rfl, Nat.le_of_ble_eq_true rfl⟩ (Nat.le_of_ble_eq_true rfl) (ok_X11_isIn h1) ?_
  obtain ⟨hg, h⟩ := gZ_go h
  exact A_zret dX11_isWeek_8 hg (pI_go h)
-- BenchTimesModel.isPace
theorem dX11_isPace_0 : di cX11_isPace 0 (.iload_n 0) 1 1 := ⟨by decide +kernel, rfl⟩
theorem dX11_isPace_1 : di cX11_isPace 1 (.bipush 50) 2 3 := ⟨by decide +kernel, rfl⟩
theorem dX11_isPace_3 : di cX11_isPace 3 (.sipush 150) 3 6 := ⟨by decide +kernel, rfl⟩
theorem dX11_isPace_6 : di cX11_isPace 6 (.invokestatic 133) 3 9 := ⟨by decide +kernel, rfl⟩
theorem dX11_isPace_9 : di cX11_isPace 9 (.ireturn) 1 10 := ⟨by decide +kernel, rfl⟩
def f_X11_isPace (v0 : Int32) (M : Mem) : Option Ret := bE (f_X11_isIn v0 (50 : Int32) (150 : Int32) M) (fun r2 M1 => gZ r2 (some (r2, M1)))
set_option maxRecDepth 100000 in
theorem ok_X11_isPace {l : Launch} {g : Cx} {v0 : Int32} {M : Mem} {r : Int32} {Mr : Mem} (h : f_X11_isPace v0 M = some (r, Mr)) : CT l g yX11_isPace cX11_isPace 1 (some .boolean) 1 22 [.int v0] M (PI r Mr) := by
  refine CT_of (lv := [some (.int v0)]) (by decide) rfl (Nat.le_of_ble_eq_true rfl) ?_
  unfold f_X11_isPace at h
  refine A_iload_n dX11_isPace_0 rfl ?_
  refine A_bipush (v := 50) dX11_isPace_1 (by decide) ?_
  refine A_sipush (v := 150) dX11_isPace_3 (by decide) ?_
  obtain ⟨r2, M1, h1, h⟩ := bE_go h
  refine A_cSi3 dX11_isPace_6 ml_X11_133 mb_X11_isIn ms_X11_isIn ⟨Nat.le_of_ble_eq_true rfl, Nat.le_of_ble_eq_true rfl⟩ (Nat.le_of_ble_eq_true rfl) (ok_X11_isIn h1) ?_
  obtain ⟨hg, h⟩ := gZ_go h
  exact A_zret dX11_isPace_9 hg (pI_go h)
-- BenchTimesModel.element
theorem dX11_element_0 : di cX11_element 0 (.iload_n 1) 1 1 := ⟨by decide +kernel, rfl⟩
theorem dX11_element_1 : di cX11_element 1 (.iconst 0) 1 2 := ⟨by decide +kernel, rfl⟩
theorem dX11_element_2 : di cX11_element 2 (.iconst 3) 1 3 := ⟨by decide +kernel, rfl⟩
theorem dX11_element_3 : di cX11_element 3 (.invokestatic 133) 3 6 := ⟨by decide +kernel, rfl⟩
theorem dX11_element_6 : dj cX11_element 6 (.ifCond .ne) 9 15 := ⟨9, by decide +kernel, rfl, rfl⟩
theorem dX11_element_9 : di cX11_element 9 (.aload_n 0) 1 10 := ⟨by decide +kernel, rfl⟩
theorem dX11_element_10 : di cX11_element 10 (.iconst 1) 1 11 := ⟨by decide +kernel, rfl⟩
theorem dX11_element_11 : di cX11_element 11 (.invokevirtual 137) 3 14 := ⟨by decide +kernel, rfl⟩
theorem dX11_element_14 : di cX11_element 14 (.ireturn) 1 15 := ⟨by decide +kernel, rfl⟩
theorem dX11_element_15 : di cX11_element 15 (.aload_n 0) 1 16 := ⟨by decide +kernel, rfl⟩
theorem dX11_element_16 : di cX11_element 16 (.getfield 127) 3 19 := ⟨by decide +kernel, rfl⟩
theorem dX11_element_19 : di cX11_element 19 (.bipush 12) 2 21 := ⟨by decide +kernel, rfl⟩
theorem dX11_element_21 : dj cX11_element 21 (.if_icmp .ne) 24 30 := ⟨9, by decide +kernel, rfl, rfl⟩
theorem dX11_element_24 : di cX11_element 24 (.aload_n 0) 1 25 := ⟨by decide +kernel, rfl⟩
theorem dX11_element_25 : di cX11_element 25 (.iconst 4) 1 26 := ⟨by decide +kernel, rfl⟩
theorem dX11_element_26 : di cX11_element 26 (.invokevirtual 137) 3 29 := ⟨by decide +kernel, rfl⟩
theorem dX11_element_29 : di cX11_element 29 (.ireturn) 1 30 := ⟨by decide +kernel, rfl⟩
theorem dX11_element_30 : di cX11_element 30 (.aload_n 0) 1 31 := ⟨by decide +kernel, rfl⟩
theorem dX11_element_31 : di cX11_element 31 (.getfield 7) 3 34 := ⟨by decide +kernel, rfl⟩
theorem dX11_element_34 : di cX11_element 34 (.aload_n 0) 1 35 := ⟨by decide +kernel, rfl⟩
theorem dX11_element_35 : di cX11_element 35 (.getfield 127) 3 38 := ⟨by decide +kernel, rfl⟩
theorem dX11_element_38 : di cX11_element 38 (.iload_n 1) 1 39 := ⟨by decide +kernel, rfl⟩
theorem dX11_element_39 : di cX11_element 39 (.iastore) 1 40 := ⟨by decide +kernel, rfl⟩
theorem dX11_element_40 : di cX11_element 40 (.aload_n 0) 1 41 := ⟨by decide +kernel, rfl⟩
theorem dX11_element_41 : di cX11_element 41 (.dup) 1 42 := ⟨by decide +kernel, rfl⟩
theorem dX11_element_42 : di cX11_element 42 (.getfield 127) 3 45 := ⟨by decide +kernel, rfl⟩
theorem dX11_element_45 : di cX11_element 45 (.iconst 1) 1 46 := ⟨by decide +kernel, rfl⟩
theorem dX11_element_46 : di cX11_element 46 (.iadd) 1 47 := ⟨by decide +kernel, rfl⟩
theorem dX11_element_47 : di cX11_element 47 (.putfield 127) 3 50 := ⟨by decide +kernel, rfl⟩
theorem dX11_element_50 : di cX11_element 50 (.aload_n 0) 1 51 := ⟨by decide +kernel, rfl⟩
theorem dX11_element_51 : di cX11_element 51 (.getfield 127) 3 54 := ⟨by decide +kernel, rfl⟩
theorem dX11_element_54 : di cX11_element 54 (.iconst 1) 1 55 := ⟨by decide +kernel, rfl⟩
theorem dX11_element_55 : di cX11_element 55 (.isub) 1 56 := ⟨by decide +kernel, rfl⟩
theorem dX11_element_56 : di cX11_element 56 (.ireturn) 1 57 := ⟨by decide +kernel, rfl⟩
def f_X11_element (v1 : Int32) (M : Mem) : Option Ret := bE (f_X11_isIn v1 (0 : Int32) (3 : Int32) M) (fun r2 M1 => if r2 = 0 then (bE (f_X11_finding (1 : Int32) M1) (fun r8 M7 => some (r8, M7))) else (if (M1.1 11 0) = (12 : Int32) then (bE (f_X11_finding (4 : Int32) M1) (fun r6 M5 => some (r6, M5))) else (gV (M1.1 11 0) 12 (bM (up2 M1 66 (M1.1 11 0).toNatClampNeg v1) (fun M3 => bM (up2 M3 11 0 ((M3.1 11 0) + (1 : Int32))) (fun M4 => some ((M4.1 11 0) - (1 : Int32), M4)))))))
set_option maxRecDepth 100000 in
theorem ok_X11_element {l : Launch} {g : Cx} {v1 : Int32} {M : Mem} {r : Int32} {Mr : Mem} (h : f_X11_element v1 M = some (r, Mr)) : CT l g yX11_element cX11_element 2 (some .int) 1 22 [.ref (g.1 11), .int v1] M (PI r Mr) := by
  refine CT_of (lv := [some (.ref (g.1 11)), some (.int v1)]) (by decide) rfl (Nat.le_of_ble_eq_true rfl) ?_
  unfold f_X11_element at h
  refine A_iload_n dX11_element_0 rfl ?_
  refine A_iconst (v := 0) dX11_element_1 (by decide) ?_
  refine A_iconst (v := 3) dX11_element_2 (by decide) ?_
  obtain ⟨r2, M1, h1, h⟩ := bE_go h
  refine A_cSi3 dX11_element_3 ml_X11_133 mb_X11_isIn ms_X11_isIn ⟨Nat.le_of_ble_eq_true rfl, Nat.le_of_ble_eq_true rfl⟩ (Nat.le_of_ble_eq_true rfl) (ok_X11_isIn h1) ?_
  refine A_if_ne dX11_element_6 (fun hc => ?_) (fun hc => ?_)
  · have h := gF_go hc h
    refine A_aload_n dX11_element_15 rfl ?_
    refine A_getf dX11_element_16 fw_X11_127 ob11 rfl ?_
    refine A_bipush (v := 12) dX11_element_19 (by decide) ?_
    refine A_icmp_ne dX11_element_21 (fun hc => ?_) (fun hc => ?_)
    · have h := gF_go hc h
      refine A_aload_n dX11_element_30 rfl ?_
      refine A_getf dX11_element_31 fw_X11_7 ob11 rfl ?_
      refine A_aload_n dX11_element_34 rfl ?_
      refine A_getf dX11_element_35 fw_X11_127 ob11 rfl ?_
      refine A_iload_n dX11_element_38 rfl ?_
      obtain ⟨hg, h⟩ := gV_go h
      refine A_iast dX11_element_39 ia66 hg (bM_go h (fun M3 h => ?_))
      refine A_aload_n dX11_element_40 rfl ?_
      refine A_dup dX11_element_41 rfl ?_
      refine A_getf dX11_element_42 fw_X11_127 ob11 rfl ?_
      refine A_iconst (v := 1) dX11_element_45 (by decide) ?_
      refine A_iadd dX11_element_46 ?_
      refine A_putf dX11_element_47 pw_X11_127 ob11 pf11_0 (Nat.le_of_ble_eq_true rfl) (bM_go h (fun M4 h => ?_))
      refine A_aload_n dX11_element_50 rfl ?_
      refine A_getf dX11_element_51 fw_X11_127 ob11 rfl ?_
      refine A_iconst (v := 1) dX11_element_54 (by decide) ?_
      refine A_isub dX11_element_55 ?_
      exact A_iret dX11_element_56 (pI_go h)
    · have h := gT_go hc h
      refine A_aload_n dX11_element_24 rfl ?_
      refine A_iconst (v := 4) dX11_element_25 (by decide) ?_
      obtain ⟨r6, M5, h1, h⟩ := bE_go h
      refine A_cVi1 dX11_element_26 ml_X11_137 mb_X11_finding mi_X11_finding ob11 rfl rfl ⟨Nat.le_of_ble_eq_true rfl, Nat.le_of_ble_eq_true rfl⟩ (Nat.le_of_ble_eq_true rfl) (ok_X11_finding h1) ?_
      exact A_iret dX11_element_29 (pI_go h)
  · have h := gT_go hc h
    refine A_aload_n dX11_element_9 rfl ?_
    refine A_iconst (v := 1) dX11_element_10 (by decide) ?_
    obtain ⟨r8, M7, h1, h⟩ := bE_go h
    refine A_cVi1 dX11_element_11 ml_X11_137 mb_X11_finding mi_X11_finding ob11 rfl rfl ⟨Nat.le_of_ble_eq_true rfl, Nat.le_of_ble_eq_true rfl⟩ (Nat.le_of_ble_eq_true rfl) (ok_X11_finding h1) ?_
    exact A_iret dX11_element_14 (pI_go h)
