-- BenchTimes$WorkRows.swapBegin
theorem dX9_swapBegin_0 : di cX9_swapBegin 0 (.aload_n 0) 1 1 := ⟨by decide +kernel, rfl⟩
theorem dX9_swapBegin_1 : di cX9_swapBegin 1 (.getfield 34) 3 4 := ⟨by decide +kernel, rfl⟩
theorem dX9_swapBegin_4 : di cX9_swapBegin 4 (.iload_n 1) 1 5 := ⟨by decide +kernel, rfl⟩
theorem dX9_swapBegin_5 : di cX9_swapBegin 5 (.bipush 8) 2 7 := ⟨by decide +kernel, rfl⟩
theorem dX9_swapBegin_7 : di cX9_swapBegin 7 (.imul) 1 8 := ⟨by decide +kernel, rfl⟩
theorem dX9_swapBegin_8 : di cX9_swapBegin 8 (.iload_n 2) 1 9 := ⟨by decide +kernel, rfl⟩
theorem dX9_swapBegin_9 : di cX9_swapBegin 9 (.iadd) 1 10 := ⟨by decide +kernel, rfl⟩
theorem dX9_swapBegin_10 : di cX9_swapBegin 10 (.iaload) 1 11 := ⟨by decide +kernel, rfl⟩
theorem dX9_swapBegin_11 : di cX9_swapBegin 11 (.istore 4) 2 13 := ⟨by decide +kernel, rfl⟩
theorem dX9_swapBegin_13 : di cX9_swapBegin 13 (.aload_n 0) 1 14 := ⟨by decide +kernel, rfl⟩
theorem dX9_swapBegin_14 : di cX9_swapBegin 14 (.getfield 34) 3 17 := ⟨by decide +kernel, rfl⟩
theorem dX9_swapBegin_17 : di cX9_swapBegin 17 (.iload_n 1) 1 18 := ⟨by decide +kernel, rfl⟩
theorem dX9_swapBegin_18 : di cX9_swapBegin 18 (.bipush 8) 2 20 := ⟨by decide +kernel, rfl⟩
theorem dX9_swapBegin_20 : di cX9_swapBegin 20 (.imul) 1 21 := ⟨by decide +kernel, rfl⟩
theorem dX9_swapBegin_21 : di cX9_swapBegin 21 (.iload_n 2) 1 22 := ⟨by decide +kernel, rfl⟩
theorem dX9_swapBegin_22 : di cX9_swapBegin 22 (.iadd) 1 23 := ⟨by decide +kernel, rfl⟩
theorem dX9_swapBegin_23 : di cX9_swapBegin 23 (.iload_n 3) 1 24 := ⟨by decide +kernel, rfl⟩
theorem dX9_swapBegin_24 : di cX9_swapBegin 24 (.iastore) 1 25 := ⟨by decide +kernel, rfl⟩
theorem dX9_swapBegin_25 : di cX9_swapBegin 25 (.iload 4) 2 27 := ⟨by decide +kernel, rfl⟩
theorem dX9_swapBegin_27 : di cX9_swapBegin 27 (.ireturn) 1 28 := ⟨by decide +kernel, rfl⟩
def f_X9_swapBegin (v1 : Int32) (v2 : Int32) (v3 : Int32) (M : Mem) : Option Ret := gV ((v1 * (8 : Int32)) + v2) 64 (bI (M.1 40 ((v1 * (8 : Int32)) + v2).toNatClampNeg) (fun x1 => gV ((v1 * (8 : Int32)) + v2) 64 (bM (up2 M 40 ((v1 * (8 : Int32)) + v2).toNatClampNeg v3) (fun M2 => some (x1, M2)))))
set_option maxRecDepth 100000 in
theorem ok_X9_swapBegin {l : Launch} {g : Cx} {v1 : Int32} {v2 : Int32} {v3 : Int32} {M : Mem} {r : Int32} {Mr : Mem} (h : f_X9_swapBegin v1 v2 v3 M = some (r, Mr)) : CT l g yX9_swapBegin cX9_swapBegin 5 (some .int) 0 0 [.ref (g.1 6), .int v1, .int v2, .int v3] M (PI r Mr) := by
  refine CT_of (lv := [some (.ref (g.1 6)), some (.int v1), some (.int v2), some (.int v3), none]) (by decide) rfl (Nat.le_of_ble_eq_true rfl) ?_
  unfold f_X9_swapBegin at h
  refine A_aload_n dX9_swapBegin_0 rfl ?_
  refine A_getf dX9_swapBegin_1 fw_X9_34 ob6 rfl ?_
  refine A_iload_n dX9_swapBegin_4 rfl ?_
  refine A_bipush (v := 8) dX9_swapBegin_5 (by decide) ?_
  refine A_imul dX9_swapBegin_7 ?_
  refine A_iload_n dX9_swapBegin_8 rfl ?_
  refine A_iadd dX9_swapBegin_9 ?_
  obtain ⟨hg, h⟩ := gV_go h
  refine A_iald dX9_swapBegin_10 ia40 hg ?_
  refine A_istore4 dX9_swapBegin_11 (by decide) rfl (bI_go h (G := fun z => AT l g RX9 cX9_swapBegin 5 (some .int) (rmM 0 0) (PI r Mr) 13 [some (.ref (g.1 6)), some (.int v1), some (.int v2), some (.int v3), some (.int z)] [] M) (fun x1 h => ?_))
  refine A_aload_n dX9_swapBegin_13 rfl ?_
  refine A_getf dX9_swapBegin_14 fw_X9_34 ob6 rfl ?_
  refine A_iload_n dX9_swapBegin_17 rfl ?_
  refine A_bipush (v := 8) dX9_swapBegin_18 (by decide) ?_
  refine A_imul dX9_swapBegin_20 ?_
  refine A_iload_n dX9_swapBegin_21 rfl ?_
  refine A_iadd dX9_swapBegin_22 ?_
  refine A_iload_n dX9_swapBegin_23 rfl ?_
  obtain ⟨hg, h⟩ := gV_go h
  refine A_iast dX9_swapBegin_24 ia40 hg (bM_go h (fun M2 h => ?_))
  refine A_iload dX9_swapBegin_25 rfl ?_
  exact A_iret dX9_swapBegin_27 (pI_go h)
-- BenchTimes.finding
theorem dX10_finding_0 : di cX10_finding 0 (.aload_n 0) 1 1 := ⟨by decide +kernel, rfl⟩
theorem dX10_finding_1 : di cX10_finding 1 (.getfield 9) 3 4 := ⟨by decide +kernel, rfl⟩
theorem dX10_finding_4 : di cX10_finding 4 (.iload_n 1) 1 5 := ⟨by decide +kernel, rfl⟩
theorem dX10_finding_5 : di cX10_finding 5 (.dup2) 1 6 := ⟨by decide +kernel, rfl⟩
theorem dX10_finding_6 : di cX10_finding 6 (.iaload) 1 7 := ⟨by decide +kernel, rfl⟩
theorem dX10_finding_7 : di cX10_finding 7 (.iconst 1) 1 8 := ⟨by decide +kernel, rfl⟩
theorem dX10_finding_8 : di cX10_finding 8 (.iadd) 1 9 := ⟨by decide +kernel, rfl⟩
theorem dX10_finding_9 : di cX10_finding 9 (.iastore) 1 10 := ⟨by decide +kernel, rfl⟩
theorem dX10_finding_10 : di cX10_finding 10 (.ldc_w 310) 3 13 := ⟨by decide +kernel, rfl⟩
theorem dX10_finding_13 : di cX10_finding 13 (.iload_n 1) 1 14 := ⟨by decide +kernel, rfl⟩
theorem dX10_finding_14 : di cX10_finding 14 (.isub) 1 15 := ⟨by decide +kernel, rfl⟩
theorem dX10_finding_15 : di cX10_finding 15 (.ireturn) 1 16 := ⟨by decide +kernel, rfl⟩
def f_X10_finding (v1 : Int32) (M : Mem) : Option Ret := gV v1 6 (gV v1 6 (bM (up2 M 12 v1.toNatClampNeg ((M.1 12 v1.toNatClampNeg) + (1 : Int32))) (fun M1 => some ((-1000000000 : Int32) - v1, M1))))
set_option maxRecDepth 100000 in
theorem ok_X10_finding {l : Launch} {g : Cx} {v1 : Int32} {M : Mem} {r : Int32} {Mr : Mem} (h : f_X10_finding v1 M = some (r, Mr)) : CT l g yX10_finding cX10_finding 2 (some .int) 0 0 [.ref (g.1 0), .int v1] M (PI r Mr) := by
  refine CT_of (lv := [some (.ref (g.1 0)), some (.int v1)]) (by decide) rfl (Nat.le_of_ble_eq_true rfl) ?_
  unfold f_X10_finding at h
  refine A_aload_n dX10_finding_0 rfl ?_
  refine A_getf dX10_finding_1 fw_X10_9 ob0 rfl ?_
  refine A_iload_n dX10_finding_4 rfl ?_
  refine A_dup2 dX10_finding_5 rfl rfl ?_
  obtain ⟨hg, h⟩ := gV_go h
  refine A_iald dX10_finding_6 ia12 hg ?_
  refine A_iconst (v := 1) dX10_finding_7 (by decide) ?_
  refine A_iadd dX10_finding_8 ?_
  obtain ⟨hg, h⟩ := gV_go h
  refine A_iast dX10_finding_9 ia12 hg (bM_go h (fun M1 h => ?_))
  refine A_ldcw dX10_finding_10 kc_X10_310 ?_
  refine A_iload_n dX10_finding_13 rfl ?_
  refine A_isub dX10_finding_14 ?_
  exact A_iret dX10_finding_15 (pI_go h)
-- BenchTimes.element
theorem dX10_element_0 : di cX10_element 0 (.iload_n 1) 1 1 := ⟨by decide +kernel, rfl⟩
theorem dX10_element_1 : di cX10_element 1 (.invokestatic 96) 3 4 := ⟨by decide +kernel, rfl⟩
theorem dX10_element_4 : dj cX10_element 4 (.ifCond .ne) 7 13 := ⟨9, by decide +kernel, rfl, rfl⟩
theorem dX10_element_7 : di cX10_element 7 (.aload_n 0) 1 8 := ⟨by decide +kernel, rfl⟩
theorem dX10_element_8 : di cX10_element 8 (.iconst 1) 1 9 := ⟨by decide +kernel, rfl⟩
theorem dX10_element_9 : di cX10_element 9 (.invokevirtual 100) 3 12 := ⟨by decide +kernel, rfl⟩
theorem dX10_element_12 : di cX10_element 12 (.ireturn) 1 13 := ⟨by decide +kernel, rfl⟩
theorem dX10_element_13 : di cX10_element 13 (.aload_n 0) 1 14 := ⟨by decide +kernel, rfl⟩
theorem dX10_element_14 : di cX10_element 14 (.getfield 16) 3 17 := ⟨by decide +kernel, rfl⟩
theorem dX10_element_17 : di cX10_element 17 (.invokevirtual 104) 3 20 := ⟨by decide +kernel, rfl⟩
theorem dX10_element_20 : dj cX10_element 20 (.ifCond .eq) 23 29 := ⟨9, by decide +kernel, rfl, rfl⟩
theorem dX10_element_23 : di cX10_element 23 (.aload_n 0) 1 24 := ⟨by decide +kernel, rfl⟩
theorem dX10_element_24 : di cX10_element 24 (.iconst 4) 1 25 := ⟨by decide +kernel, rfl⟩
theorem dX10_element_25 : di cX10_element 25 (.invokevirtual 100) 3 28 := ⟨by decide +kernel, rfl⟩
theorem dX10_element_28 : di cX10_element 28 (.ireturn) 1 29 := ⟨by decide +kernel, rfl⟩
theorem dX10_element_29 : di cX10_element 29 (.aload_n 0) 1 30 := ⟨by decide +kernel, rfl⟩
theorem dX10_element_30 : di cX10_element 30 (.getfield 16) 3 33 := ⟨by decide +kernel, rfl⟩
theorem dX10_element_33 : di cX10_element 33 (.iload_n 1) 1 34 := ⟨by decide +kernel, rfl⟩
theorem dX10_element_34 : di cX10_element 34 (.invokevirtual 108) 3 37 := ⟨by decide +kernel, rfl⟩
theorem dX10_element_37 : di cX10_element 37 (.ireturn) 1 38 := ⟨by decide +kernel, rfl⟩
def f_X10_element (v1 : Int32) (M : Mem) : Option Ret := bE (f_X1_isKind v1 M) (fun r2 M1 => if r2 = 0 then (bE (f_X10_finding (1 : Int32) M1) (fun r10 M9 => some (r10, M9))) else (bE (f_X1_isFull M1) (fun r4 M3 => if r4 = 0 then (bE (f_X1_add v1 M3) (fun r6 M5 => some (r6, M5))) else (bE (f_X10_finding (4 : Int32) M3) (fun r8 M7 => some (r8, M7))))))
set_option maxRecDepth 100000 in
theorem ok_X10_element {l : Launch} {g : Cx} {v1 : Int32} {M : Mem} {r : Int32} {Mr : Mem} (h : f_X10_element v1 M = some (r, Mr)) : CT l g yX10_element cX10_element 2 (some .int) 2 42 [.ref (g.1 0), .int v1] M (PI r Mr) := by
  refine CT_of (lv := [some (.ref (g.1 0)), some (.int v1)]) (by decide) rfl (Nat.le_of_ble_eq_true rfl) ?_
  unfold f_X10_element at h
  refine A_iload_n dX10_element_0 rfl ?_
  obtain ⟨r2, M1, h1, h⟩ := bE_go h
  refine A_cSi1 dX10_element_1 ml_X10_96 mb_X1_isKind ms_X1_isKind ⟨Nat.le_of_ble_eq_true rfl, Nat.le_of_ble_eq_true rfl⟩ (Nat.le_of_ble_eq_true rfl) (ok_X1_isKind h1) ?_
  refine A_if_ne dX10_element_4 (fun hc => ?_) (fun hc => ?_)
  · have h := gF_go hc h
    refine A_aload_n dX10_element_13 rfl ?_
    refine A_getf dX10_element_14 fw_X10_16 ob0 rfl ?_
    obtain ⟨r4, M3, h1, h⟩ := bE_go h
    refine A_cVi0 dX10_element_17 ml_X10_104 mb_X1_isFull mi_X1_isFull ob1 rfl rfl ⟨Nat.le_of_ble_eq_true rfl, Nat.le_of_ble_eq_true rfl⟩ (Nat.le_of_ble_eq_true rfl) (ok_X1_isFull h1) ?_
    refine A_if_eq dX10_element_20 (fun hc => ?_) (fun hc => ?_)
    · have h := gT_go hc h
      refine A_aload_n dX10_element_29 rfl ?_
      refine A_getf dX10_element_30 fw_X10_16 ob0 rfl ?_
      refine A_iload_n dX10_element_33 rfl ?_
      obtain ⟨r6, M5, h1, h⟩ := bE_go h
      refine A_cVi1 dX10_element_34 ml_X10_108 mb_X1_add mi_X1_add ob1 rfl rfl ⟨Nat.le_of_ble_eq_true rfl, Nat.le_of_ble_eq_true rfl⟩ (Nat.le_of_ble_eq_true rfl) (ok_X1_add h1) ?_
      exact A_iret dX10_element_37 (pI_go h)
    · have h := gF_go hc h
      refine A_aload_n dX10_element_23 rfl ?_
      refine A_iconst (v := 4) dX10_element_24 (by decide) ?_
      obtain ⟨r8, M7, h1, h⟩ := bE_go h
      refine A_cVi1 dX10_element_25 ml_X10_100 mb_X10_finding mi_X10_finding ob0 rfl rfl ⟨Nat.le_of_ble_eq_true rfl, Nat.le_of_ble_eq_true rfl⟩ (Nat.le_of_ble_eq_true rfl) (ok_X10_finding h1) ?_
      exact A_iret dX10_element_28 (pI_go h)
  · have h := gT_go hc h
    refine A_aload_n dX10_element_7 rfl ?_
    refine A_iconst (v := 1) dX10_element_8 (by decide) ?_
    obtain ⟨r10, M9, h1, h⟩ := bE_go h
    refine A_cVi1 dX10_element_9 ml_X10_100 mb_X10_finding mi_X10_finding ob0 rfl rfl ⟨Nat.le_of_ble_eq_true rfl, Nat.le_of_ble_eq_true rfl⟩ (Nat.le_of_ble_eq_true rfl) (ok_X10_finding h1) ?_
    exact A_iret dX10_element_12 (pI_go h)
-- BenchTimes.as
theorem dX10_as_0 : di cX10_as 0 (.aload_n 0) 1 1 := ⟨by decide +kernel, rfl⟩
theorem dX10_as_1 : di cX10_as 1 (.getfield 16) 3 4 := ⟨by decide +kernel, rfl⟩
theorem dX10_as_4 : di cX10_as 4 (.iload_n 1) 1 5 := ⟨by decide +kernel, rfl⟩
theorem dX10_as_5 : di cX10_as 5 (.invokevirtual 111) 3 8 := ⟨by decide +kernel, rfl⟩
theorem dX10_as_8 : dj cX10_as 8 (.ifCond .eq) 11 18 := ⟨10, by decide +kernel, rfl, rfl⟩
theorem dX10_as_11 : di cX10_as 11 (.iload_n 2) 1 12 := ⟨by decide +kernel, rfl⟩
theorem dX10_as_12 : di cX10_as 12 (.invokestatic 96) 3 15 := ⟨by decide +kernel, rfl⟩
theorem dX10_as_15 : dj cX10_as 15 (.ifCond .ne) 18 24 := ⟨9, by decide +kernel, rfl, rfl⟩
theorem dX10_as_18 : di cX10_as 18 (.aload_n 0) 1 19 := ⟨by decide +kernel, rfl⟩
theorem dX10_as_19 : di cX10_as 19 (.iconst 1) 1 20 := ⟨by decide +kernel, rfl⟩
theorem dX10_as_20 : di cX10_as 20 (.invokevirtual 100) 3 23 := ⟨by decide +kernel, rfl⟩
theorem dX10_as_23 : di cX10_as 23 (.ireturn) 1 24 := ⟨by decide +kernel, rfl⟩
theorem dX10_as_24 : di cX10_as 24 (.aload_n 0) 1 25 := ⟨by decide +kernel, rfl⟩
theorem dX10_as_25 : di cX10_as 25 (.getfield 16) 3 28 := ⟨by decide +kernel, rfl⟩
theorem dX10_as_28 : di cX10_as 28 (.iload_n 1) 1 29 := ⟨by decide +kernel, rfl⟩
theorem dX10_as_29 : di cX10_as 29 (.iload_n 2) 1 30 := ⟨by decide +kernel, rfl⟩
theorem dX10_as_30 : di cX10_as 30 (.invokevirtual 114) 3 33 := ⟨by decide +kernel, rfl⟩
theorem dX10_as_33 : dj cX10_as 33 (.ifCond .ne) 36 42 := ⟨9, by decide +kernel, rfl, rfl⟩
theorem dX10_as_36 : di cX10_as 36 (.aload_n 0) 1 37 := ⟨by decide +kernel, rfl⟩
theorem dX10_as_37 : di cX10_as 37 (.iconst 5) 1 38 := ⟨by decide +kernel, rfl⟩
theorem dX10_as_38 : di cX10_as 38 (.invokevirtual 100) 3 41 := ⟨by decide +kernel, rfl⟩
theorem dX10_as_41 : di cX10_as 41 (.ireturn) 1 42 := ⟨by decide +kernel, rfl⟩
theorem dX10_as_42 : di cX10_as 42 (.aload_n 0) 1 43 := ⟨by decide +kernel, rfl⟩
theorem dX10_as_43 : di cX10_as 43 (.getfield 16) 3 46 := ⟨by decide +kernel, rfl⟩
theorem dX10_as_46 : di cX10_as 46 (.iload_n 1) 1 47 := ⟨by decide +kernel, rfl⟩
theorem dX10_as_47 : di cX10_as 47 (.invokevirtual 118) 3 50 := ⟨by decide +kernel, rfl⟩
theorem dX10_as_50 : di cX10_as 50 (.ireturn) 1 51 := ⟨by decide +kernel, rfl⟩
def f_X10_as (v1 : Int32) (v2 : Int32) (M : Mem) : Option Ret := bE (f_X1_has v1 M) (fun r2 M1 => if r2 = 0 then (bE (f_X10_finding (1 : Int32) M1) (fun r4 M3 => some (r4, M3))) else (bE (f_X1_isKind v2 M1) (fun r6 M5 => if r6 = 0 then (bE (f_X10_finding (1 : Int32) M5) (fun r14 M13 => some (r14, M13))) else (bE (f_X1_isUnder v1 v2 M5) (fun r8 M7 => if r8 = 0 then (bE (f_X10_finding (5 : Int32) M7) (fun r12 M11 => some (r12, M11))) else (bE (f_X1_allowanceOf v1 M7) (fun r10 M9 => some (r10, M9))))))))
set_option maxRecDepth 100000 in
theorem ok_X10_as {l : Launch} {g : Cx} {v1 : Int32} {v2 : Int32} {M : Mem} {r : Int32} {Mr : Mem} (h : f_X10_as v1 v2 M = some (r, Mr)) : CT l g yX10_as cX10_as 3 (some .int) 2 43 [.ref (g.1 0), .int v1, .int v2] M (PI r Mr) := by
  refine CT_of (lv := [some (.ref (g.1 0)), some (.int v1), some (.int v2)]) (by decide) rfl (Nat.le_of_ble_eq_true rfl) ?_
  unfold f_X10_as at h
  refine A_aload_n dX10_as_0 rfl ?_
  refine A_getf dX10_as_1 fw_X10_16 ob0 rfl ?_
  refine A_iload_n dX10_as_4 rfl ?_
  obtain ⟨r2, M1, h1, h⟩ := bE_go h
  refine A_cVi1 dX10_as_5 ml_X10_111 mb_X1_has mi_X1_has ob1 rfl rfl ⟨Nat.le_of_ble_eq_true rfl, Nat.le_of_ble_eq_true rfl⟩ (Nat.le_of_ble_eq_true rfl) (ok_X1_has h1) ?_
  refine A_if_eq dX10_as_8 (fun hc => ?_) (fun hc => ?_)
  · have h := gT_go hc h
    refine A_aload_n dX10_as_18 rfl ?_
    refine A_iconst (v := 1) dX10_as_19 (by decide) ?_
    obtain ⟨r4, M3, h1, h⟩ := bE_go h
    refine A_cVi1 dX10_as_20 ml_X10_100 mb_X10_finding mi_X10_finding ob0 rfl rfl ⟨Nat.le_of_ble_eq_true rfl, Nat.le_of_ble_eq_true rfl⟩ (Nat.le_of_ble_eq_true rfl) (ok_X10_finding h1) ?_
    exact A_iret dX10_as_23 (pI_go h)
  · have h := gF_go hc h
    refine A_iload_n dX10_as_11 rfl ?_
    obtain ⟨r6, M5, h1, h⟩ := bE_go h
    refine A_cSi1 dX10_as_12 ml_X10_96 mb_X1_isKind ms_X1_isKind ⟨Nat.le_of_ble_eq_true rfl, Nat.le_of_ble_eq_true rfl⟩ (Nat.le_of_ble_eq_true rfl) (ok_X1_isKind h1) ?_
    refine A_if_ne dX10_as_15 (fun hc => ?_) (fun hc => ?_)
    · have h := gF_go hc h
      refine A_aload_n dX10_as_24 rfl ?_
      refine A_getf dX10_as_25 fw_X10_16 ob0 rfl ?_
      refine A_iload_n dX10_as_28 rfl ?_
      refine A_iload_n dX10_as_29 rfl ?_
      obtain ⟨r8, M7, h1, h⟩ := bE_go h
      refine A_cVi2 dX10_as_30 ml_X10_114 mb_X1_isUnder mi_X1_isUnder ob1 rfl rfl ⟨Nat.le_of_ble_eq_true rfl, Nat.le_of_ble_eq_true rfl⟩ (Nat.le_of_ble_eq_true rfl) (ok_X1_isUnder h1) ?_
      refine A_if_ne dX10_as_33 (fun hc => ?_) (fun hc => ?_)
      · have h := gF_go hc h
        refine A_aload_n dX10_as_42 rfl ?_
        refine A_getf dX10_as_43 fw_X10_16 ob0 rfl ?_
        refine A_iload_n dX10_as_46 rfl ?_
        obtain ⟨r10, M9, h1, h⟩ := bE_go h
        refine A_cVi1 dX10_as_47 ml_X10_118 mb_X1_allowanceOf mi_X1_allowanceOf ob1 rfl rfl ⟨Nat.le_of_ble_eq_true rfl, Nat.le_of_ble_eq_true rfl⟩ (Nat.le_of_ble_eq_true rfl) (ok_X1_allowanceOf h1) ?_
        exact A_iret dX10_as_50 (pI_go h)
      · have h := gT_go hc h
        refine A_aload_n dX10_as_36 rfl ?_
        refine A_iconst (v := 5) dX10_as_37 (by decide) ?_
        obtain ⟨r12, M11, h1, h⟩ := bE_go h
        refine A_cVi1 dX10_as_38 ml_X10_100 mb_X10_finding mi_X10_finding ob0 rfl rfl ⟨Nat.le_of_ble_eq_true rfl, Nat.le_of_ble_eq_true rfl⟩ (Nat.le_of_ble_eq_true rfl) (ok_X10_finding h1) ?_
        exact A_iret dX10_as_41 (pI_go h)
    · have h := gT_go hc h
      refine A_aload_n dX10_as_18 rfl ?_
      refine A_iconst (v := 1) dX10_as_19 (by decide) ?_
      obtain ⟨r14, M13, h1, h⟩ := bE_go h
      refine A_cVi1 dX10_as_20 ml_X10_100 mb_X10_finding mi_X10_finding ob0 rfl rfl ⟨Nat.le_of_ble_eq_true rfl, Nat.le_of_ble_eq_true rfl⟩ (Nat.le_of_ble_eq_true rfl) (ok_X10_finding h1) ?_
      exact A_iret dX10_as_23 (pI_go h)
-- BenchTimes.allow
theorem dX10_allow_0 : di cX10_allow 0 (.iload_n 1) 1 1 := ⟨by decide +kernel, rfl⟩
theorem dX10_allow_1 : di cX10_allow 1 (.iconst 0) 1 2 := ⟨by decide +kernel, rfl⟩
theorem dX10_allow_2 : di cX10_allow 2 (.bipush 50) 2 4 := ⟨by decide +kernel, rfl⟩
theorem dX10_allow_4 : di cX10_allow 4 (.invokestatic 121) 3 7 := ⟨by decide +kernel, rfl⟩
theorem dX10_allow_7 : dj cX10_allow 7 (.ifCond .eq) 10 20 := ⟨13, by decide +kernel, rfl, rfl⟩
theorem dX10_allow_10 : di cX10_allow 10 (.iload_n 2) 1 11 := ⟨by decide +kernel, rfl⟩
theorem dX10_allow_11 : di cX10_allow 11 (.iconst 0) 1 12 := ⟨by decide +kernel, rfl⟩
theorem dX10_allow_12 : di cX10_allow 12 (.bipush 50) 2 14 := ⟨by decide +kernel, rfl⟩
theorem dX10_allow_14 : di cX10_allow 14 (.invokestatic 121) 3 17 := ⟨by decide +kernel, rfl⟩
theorem dX10_allow_17 : dj cX10_allow 17 (.ifCond .ne) 20 26 := ⟨9, by decide +kernel, rfl, rfl⟩
theorem dX10_allow_20 : di cX10_allow 20 (.aload_n 0) 1 21 := ⟨by decide +kernel, rfl⟩
theorem dX10_allow_21 : di cX10_allow 21 (.iconst 1) 1 22 := ⟨by decide +kernel, rfl⟩
theorem dX10_allow_22 : di cX10_allow 22 (.invokevirtual 100) 3 25 := ⟨by decide +kernel, rfl⟩
theorem dX10_allow_25 : di cX10_allow 25 (.ireturn) 1 26 := ⟨by decide +kernel, rfl⟩
theorem dX10_allow_26 : di cX10_allow 26 (.aload_n 0) 1 27 := ⟨by decide +kernel, rfl⟩
theorem dX10_allow_27 : di cX10_allow 27 (.getfield 16) 3 30 := ⟨by decide +kernel, rfl⟩
theorem dX10_allow_30 : di cX10_allow 30 (.iload_n 1) 1 31 := ⟨by decide +kernel, rfl⟩
theorem dX10_allow_31 : di cX10_allow 31 (.iload_n 2) 1 32 := ⟨by decide +kernel, rfl⟩
theorem dX10_allow_32 : di cX10_allow 32 (.invokevirtual 125) 3 35 := ⟨by decide +kernel, rfl⟩
theorem dX10_allow_35 : di cX10_allow 35 (.iconst 1) 1 36 := ⟨by decide +kernel, rfl⟩
theorem dX10_allow_36 : di cX10_allow 36 (.ireturn) 1 37 := ⟨by decide +kernel, rfl⟩
def f_X10_allow (v1 : Int32) (v2 : Int32) (M : Mem) : Option Ret := bE (f_X10_isWithin v1 (0 : Int32) (50 : Int32) M) (fun r2 M1 => if r2 = 0 then (bE (f_X10_finding (1 : Int32) M1) (fun r4 M3 => some (r4, M3))) else (bE (f_X10_isWithin v2 (0 : Int32) (50 : Int32) M1) (fun r6 M5 => if r6 = 0 then (bE (f_X10_finding (1 : Int32) M5) (fun r10 M9 => some (r10, M9))) else (bE (f_X1_setAllowances v1 v2 M5) (fun r8 M7 => some ((1 : Int32), M7))))))
set_option maxRecDepth 100000 in
theorem ok_X10_allow {l : Launch} {g : Cx} {v1 : Int32} {v2 : Int32} {M : Mem} {r : Int32} {Mr : Mem} (h : f_X10_allow v1 v2 M = some (r, Mr)) : CT l g yX10_allow cX10_allow 3 (some .int) 1 22 [.ref (g.1 0), .int v1, .int v2] M (PI r Mr) := by
  refine CT_of (lv := [some (.ref (g.1 0)), some (.int v1), some (.int v2)]) (by decide) rfl (Nat.le_of_ble_eq_true rfl) ?_
  unfold f_X10_allow at h
  refine A_iload_n dX10_allow_0 rfl ?_
  refine A_iconst (v := 0) dX10_allow_1 (by decide) ?_
  refine A_bipush (v := 50) dX10_allow_2 (by decide) ?_
  obtain ⟨r2, M1, h1, h⟩ := bE_go h
  refine A_cSi3 dX10_allow_4 ml_X10_121 mb_X10_isWithin ms_X10_isWithin ⟨Nat.le_of_ble_eq_true rfl, Nat.le_of_ble_eq_true rfl⟩ (Nat.le_of_ble_eq_true rfl) (ok_X10_isWithin h1) ?_
  refine A_if_eq dX10_allow_7 (fun hc => ?_) (fun hc => ?_)
  · have h := gT_go hc h
    refine A_aload_n dX10_allow_20 rfl ?_
    refine A_iconst (v := 1) dX10_allow_21 (by decide) ?_
    obtain ⟨r4, M3, h1, h⟩ := bE_go h
    refine A_cVi1 dX10_allow_22 ml_X10_100 mb_X10_finding mi_X10_finding ob0 rfl rfl ⟨Nat.le_of_ble_eq_true rfl, Nat.le_of_ble_eq_true rfl⟩ (Nat.le_of_ble_eq_true rfl) (ok_X10_finding h1) ?_
    exact A_iret dX10_allow_25 (pI_go h)
  · have h := gF_go hc h
    refine A_iload_n dX10_allow_10 rfl ?_
    refine A_iconst (v := 0) dX10_allow_11 (by decide) ?_
    refine A_bipush (v := 50) dX10_allow_12 (by decide) ?_
    obtain ⟨r6, M5, h1, h⟩ := bE_go h
    refine A_cSi3 dX10_allow_14 ml_X10_121 mb_X10_isWithin ms_X10_isWithin ⟨Nat.le_of_ble_eq_true rfl, Nat.le_of_ble_eq_true rfl⟩ (Nat.le_of_ble_eq_true rfl) (ok_X10_isWithin h1) ?_
    refine A_if_ne dX10_allow_17 (fun hc => ?_) (fun hc => ?_)
    · have h := gF_go hc h
      refine A_aload_n dX10_allow_26 rfl ?_
      refine A_getf dX10_allow_27 fw_X10_16 ob0 rfl ?_
      refine A_iload_n dX10_allow_30 rfl ?_
      refine A_iload_n dX10_allow_31 rfl ?_
      obtain ⟨r8, M7, h1, h⟩ := bE_go h
      refine A_cVv2 dX10_allow_32 ml_X10_125 mb_X1_setAllowances mi_X1_setAllowances ob1 rfl rfl ⟨Nat.le_of_ble_eq_true rfl, Nat.le_of_ble_eq_true rfl⟩ (Nat.le_of_ble_eq_true rfl) (ok_X1_setAllowances h1) ?_
      refine A_iconst (v := 1) dX10_allow_35 (by decide) ?_
      exact A_iret dX10_allow_36 (pI_go h)
    · have h := gT_go hc h
      refine A_aload_n dX10_allow_20 rfl ?_
      refine A_iconst (v := 1) dX10_allow_21 (by decide) ?_
      obtain ⟨r10, M9, h1, h⟩ := bE_go h
      refine A_cVi1 dX10_allow_22 ml_X10_100 mb_X10_finding mi_X10_finding ob0 rfl rfl ⟨Nat.le_of_ble_eq_true rfl, Nat.le_of_ble_eq_true rfl⟩ (Nat.le_of_ble_eq_true rfl) (ok_X10_finding h1) ?_
      exact A_iret dX10_allow_25 (pI_go h)
-- BenchTimes.isRater
theorem dX10_isRater_0 : di cX10_isRater 0 (.iload_n 0) 1 1 := ⟨by decide +kernel, rfl⟩
theorem dX10_isRater_1 : di cX10_isRater 1 (.iconst 0) 1 2 := ⟨by decide +kernel, rfl⟩
theorem dX10_isRater_2 : di cX10_isRater 2 (.iconst 3) 1 3 := ⟨by decide +kernel, rfl⟩
theorem dX10_isRater_3 : di cX10_isRater 3 (.invokestatic 121) 3 6 := ⟨by decide +kernel, rfl⟩
theorem dX10_isRater_6 : di cX10_isRater 6 (.ireturn) 1 7 := ⟨by decide +kernel, rfl⟩
def f_X10_isRater (v0 : Int32) (M : Mem) : Option Ret := bE (f_X10_isWithin v0 (0 : Int32) (3 : Int32) M) (fun r2 M1 => gZ r2 (some (r2, M1)))
set_option maxRecDepth 100000 in
theorem ok_X10_isRater {l : Launch} {g : Cx} {v0 : Int32} {M : Mem} {r : Int32} {Mr : Mem} (h : f_X10_isRater v0 M = some (r, Mr)) : CT l g yX10_isRater cX10_isRater 1 (some .boolean) 1 22 [.int v0] M (PI r Mr) := by
  refine CT_of (lv := [some (.int v0)]) (by decide) rfl (Nat.le_of_ble_eq_true rfl) ?_
  unfold f_X10_isRater at h
  refine A_iload_n dX10_isRater_0 rfl ?_
  refine A_iconst (v := 0) dX10_isRater_1 (by decide) ?_
  refine A_iconst (v := 3) dX10_isRater_2 (by decide) ?_
  obtain ⟨r2, M1, h1, h⟩ := bE_go h
  refine A_cSi3 dX10_isRater_3 ml_X10_121 mb_X10_isWithin ms_X10_isWithin ⟨Nat.le_of_ble_eq_true rfl, Nat.le_of_ble_eq_true rfl⟩ (Nat.le_of_ble_eq_true rfl) (ok_X10_isWithin h1) ?_
  obtain ⟨hg, h⟩ := gZ_go h
  exact A_zret dX10_isRater_6 hg (pI_go h)
-- BenchTimes.isPace
theorem dX10_isPace_0 : di cX10_isPace 0 (.iload_n 0) 1 1 := ⟨by decide +kernel, rfl⟩
theorem dX10_isPace_1 : di cX10_isPace 1 (.bipush 50) 2 3 := ⟨by decide +kernel, rfl⟩
theorem dX10_isPace_3 : di cX10_isPace 3 (.sipush 150) 3 6 := ⟨by decide +kernel, rfl⟩
theorem dX10_isPace_6 : di cX10_isPace 6 (.invokestatic 121) 3 9 := ⟨by decide +kernel, rfl⟩
theorem dX10_isPace_9 : di cX10_isPace 9 (.ireturn) 1 10 := ⟨by decide +kernel, rfl⟩
def f_X10_isPace (v0 : Int32) (M : Mem) : Option Ret := bE (f_X10_isWithin v0 (50 : Int32) (150 : Int32) M) (fun r2 M1 => gZ r2 (some (r2, M1)))
set_option maxRecDepth 100000 in
theorem ok_X10_isPace {l : Launch} {g : Cx} {v0 : Int32} {M : Mem} {r : Int32} {Mr : Mem} (h : f_X10_isPace v0 M = some (r, Mr)) : CT l g yX10_isPace cX10_isPace 1 (some .boolean) 1 22 [.int v0] M (PI r Mr) := by
  refine CT_of (lv := [some (.int v0)]) (by decide) rfl (Nat.le_of_ble_eq_true rfl) ?_
  unfold f_X10_isPace at h
  refine A_iload_n dX10_isPace_0 rfl ?_
  refine A_bipush (v := 50) dX10_isPace_1 (by decide) ?_
  refine A_sipush (v := 150) dX10_isPace_3 (by decide) ?_
  obtain ⟨r2, M1, h1, h⟩ := bE_go h
  refine A_cSi3 dX10_isPace_6 ml_X10_121 mb_X10_isWithin ms_X10_isWithin ⟨Nat.le_of_ble_eq_true rfl, Nat.le_of_ble_eq_true rfl⟩ (Nat.le_of_ble_eq_true rfl) (ok_X10_isWithin h1) ?_
  obtain ⟨hg, h⟩ := gZ_go h
  exact A_zret dX10_isPace_9 hg (pI_go h)
-- BenchTimes.film
theorem dX10_film_0 : di cX10_film 0 (.iload_n 1) 1 1 := ⟨by decide +kernel, rfl⟩
theorem dX10_film_1 : di cX10_film 1 (.invokestatic 129) 3 4 := ⟨by decide +kernel, rfl⟩
theorem dX10_film_4 : dj cX10_film 4 (.ifCond .eq) 7 21 := ⟨17, by decide +kernel, rfl, rfl⟩
theorem dX10_film_7 : di cX10_film 7 (.iload_n 2) 1 8 := ⟨by decide +kernel, rfl⟩
theorem dX10_film_8 : di cX10_film 8 (.invokestatic 132) 3 11 := ⟨by decide +kernel, rfl⟩
theorem dX10_film_11 : dj cX10_film 11 (.ifCond .eq) 14 21 := ⟨10, by decide +kernel, rfl, rfl⟩
theorem dX10_film_14 : di cX10_film 14 (.iload_n 3) 1 15 := ⟨by decide +kernel, rfl⟩
theorem dX10_film_15 : di cX10_film 15 (.invokestatic 132) 3 18 := ⟨by decide +kernel, rfl⟩
theorem dX10_film_18 : dj cX10_film 18 (.ifCond .ne) 21 27 := ⟨9, by decide +kernel, rfl, rfl⟩
theorem dX10_film_21 : di cX10_film 21 (.aload_n 0) 1 22 := ⟨by decide +kernel, rfl⟩
theorem dX10_film_22 : di cX10_film 22 (.iconst 1) 1 23 := ⟨by decide +kernel, rfl⟩
theorem dX10_film_23 : di cX10_film 23 (.invokevirtual 100) 3 26 := ⟨by decide +kernel, rfl⟩
theorem dX10_film_26 : di cX10_film 26 (.ireturn) 1 27 := ⟨by decide +kernel, rfl⟩
theorem dX10_film_27 : di cX10_film 27 (.aload_n 0) 1 28 := ⟨by decide +kernel, rfl⟩
theorem dX10_film_28 : di cX10_film 28 (.getfield 25) 3 31 := ⟨by decide +kernel, rfl⟩
theorem dX10_film_31 : di cX10_film 31 (.invokevirtual 135) 3 34 := ⟨by decide +kernel, rfl⟩
theorem dX10_film_34 : dj cX10_film 34 (.ifCond .eq) 37 43 := ⟨9, by decide +kernel, rfl, rfl⟩
theorem dX10_film_37 : di cX10_film 37 (.aload_n 0) 1 38 := ⟨by decide +kernel, rfl⟩
theorem dX10_film_38 : di cX10_film 38 (.iconst 4) 1 39 := ⟨by decide +kernel, rfl⟩
theorem dX10_film_39 : di cX10_film 39 (.invokevirtual 100) 3 42 := ⟨by decide +kernel, rfl⟩
theorem dX10_film_42 : di cX10_film 42 (.ireturn) 1 43 := ⟨by decide +kernel, rfl⟩
theorem dX10_film_43 : di cX10_film 43 (.aload_n 0) 1 44 := ⟨by decide +kernel, rfl⟩
theorem dX10_film_44 : di cX10_film 44 (.getfield 25) 3 47 := ⟨by decide +kernel, rfl⟩
theorem dX10_film_47 : di cX10_film 47 (.iload_n 1) 1 48 := ⟨by decide +kernel, rfl⟩
theorem dX10_film_48 : di cX10_film 48 (.iload_n 3) 1 49 := ⟨by decide +kernel, rfl⟩
theorem dX10_film_49 : di cX10_film 49 (.iload_n 2) 1 50 := ⟨by decide +kernel, rfl⟩
theorem dX10_film_50 : di cX10_film 50 (.isub) 1 51 := ⟨by decide +kernel, rfl⟩
theorem dX10_film_51 : di cX10_film 51 (.invokevirtual 138) 3 54 := ⟨by decide +kernel, rfl⟩
theorem dX10_film_54 : di cX10_film 54 (.ireturn) 1 55 := ⟨by decide +kernel, rfl⟩
def f_X10_film (v1 : Int32) (v2 : Int32) (v3 : Int32) (M : Mem) : Option Ret := bE (f_X10_isRater v1 M) (fun r2 M1 => if r2 = 0 then (bE (f_X10_finding (1 : Int32) M1) (fun r4 M3 => some (r4, M3))) else (bE (f_X10_isPace v2 M1) (fun r6 M5 => if r6 = 0 then (bE (f_X10_finding (1 : Int32) M5) (fun r8 M7 => some (r8, M7))) else (bE (f_X10_isPace v3 M5) (fun r10 M9 => if r10 = 0 then (bE (f_X10_finding (1 : Int32) M9) (fun r18 M17 => some (r18, M17))) else (bE (f_X8_isFullOfFilms M9) (fun r12 M11 => if r12 = 0 then (bE (f_X8_addFilm v1 (v3 - v2) M11) (fun r14 M13 => some (r14, M13))) else (bE (f_X10_finding (4 : Int32) M11) (fun r16 M15 => some (r16, M15))))))))))
set_option maxRecDepth 100000 in
theorem ok_X10_film {l : Launch} {g : Cx} {v1 : Int32} {v2 : Int32} {v3 : Int32} {M : Mem} {r : Int32} {Mr : Mem} (h : f_X10_film v1 v2 v3 M = some (r, Mr)) : CT l g yX10_film cX10_film 4 (some .int) 2 42 [.ref (g.1 0), .int v1, .int v2, .int v3] M (PI r Mr) := by
  refine CT_of (lv := [some (.ref (g.1 0)), some (.int v1), some (.int v2), some (.int v3)]) (by decide) rfl (Nat.le_of_ble_eq_true rfl) ?_
  unfold f_X10_film at h
  refine A_iload_n dX10_film_0 rfl ?_
  obtain ⟨r2, M1, h1, h⟩ := bE_go h
  refine A_cSi1 dX10_film_1 ml_X10_129 mb_X10_isRater ms_X10_isRater ⟨Nat.le_of_ble_eq_true rfl, Nat.le_of_ble_eq_true rfl⟩ (Nat.le_of_ble_eq_true rfl) (ok_X10_isRater h1) ?_
  refine A_if_eq dX10_film_4 (fun hc => ?_) (fun hc => ?_)
  · have h := gT_go hc h
    refine A_aload_n dX10_film_21 rfl ?_
    refine A_iconst (v := 1) dX10_film_22 (by decide) ?_
    obtain ⟨r4, M3, h1, h⟩ := bE_go h
    refine A_cVi1 dX10_film_23 ml_X10_100 mb_X10_finding mi_X10_finding ob0 rfl rfl ⟨Nat.le_of_ble_eq_true rfl, Nat.le_of_ble_eq_true rfl⟩ (Nat.le_of_ble_eq_true rfl) (ok_X10_finding h1) ?_
    exact A_iret dX10_film_26 (pI_go h)
  · have h := gF_go hc h
    refine A_iload_n dX10_film_7 rfl ?_
    obtain ⟨r6, M5, h1, h⟩ := bE_go h
    refine A_cSi1 dX10_film_8 ml_X10_132 mb_X10_isPace ms_X10_isPace ⟨Nat.le_of_ble_eq_true rfl, Nat.le_of_ble_eq_true rfl⟩ (Nat.le_of_ble_eq_true rfl) (ok_X10_isPace h1) ?_
    refine A_if_eq dX10_film_11 (fun hc => ?_) (fun hc => ?_)
    · have h := gT_go hc h
      refine A_aload_n dX10_film_21 rfl ?_
      refine A_iconst (v := 1) dX10_film_22 (by decide) ?_
      obtain ⟨r8, M7, h1, h⟩ := bE_go h
      refine A_cVi1 dX10_film_23 ml_X10_100 mb_X10_finding mi_X10_finding ob0 rfl rfl ⟨Nat.le_of_ble_eq_true rfl, Nat.le_of_ble_eq_true rfl⟩ (Nat.le_of_ble_eq_true rfl) (ok_X10_finding h1) ?_
      exact A_iret dX10_film_26 (pI_go h)
    · have h := gF_go hc h
      refine A_iload_n dX10_film_14 rfl ?_
      obtain ⟨r10, M9, h1, h⟩ := bE_go h
      refine A_cSi1 dX10_film_15 ml_X10_132 mb_X10_isPace ms_X10_isPace ⟨Nat.le_of_ble_eq_true rfl, Nat.le_of_ble_eq_true rfl⟩ (Nat.le_of_ble_eq_true rfl) (ok_X10_isPace h1) ?_
      refine A_if_ne dX10_film_18 (fun hc => ?_) (fun hc => ?_)
      · have h := gF_go hc h
        refine A_aload_n dX10_film_27 rfl ?_
        refine A_getf dX10_film_28 fw_X10_25 ob0 rfl ?_
        obtain ⟨r12, M11, h1, h⟩ := bE_go h
        refine A_cVi0 dX10_film_31 ml_X10_135 mb_X8_isFullOfFilms mi_X8_isFullOfFilms ob2 rfl rfl ⟨Nat.le_of_ble_eq_true rfl, Nat.le_of_ble_eq_true rfl⟩ (Nat.le_of_ble_eq_true rfl) (ok_X8_isFullOfFilms h1) ?_
        refine A_if_eq dX10_film_34 (fun hc => ?_) (fun hc => ?_)
        · have h := gT_go hc h
          refine A_aload_n dX10_film_43 rfl ?_
          refine A_getf dX10_film_44 fw_X10_25 ob0 rfl ?_
          refine A_iload_n dX10_film_47 rfl ?_
          refine A_iload_n dX10_film_48 rfl ?_
          refine A_iload_n dX10_film_49 rfl ?_
          refine A_isub dX10_film_50 ?_
          obtain ⟨r14, M13, h1, h⟩ := bE_go h
          refine A_cVi2 dX10_film_51 ml_X10_138 mb_X8_addFilm mi_X8_addFilm ob2 rfl rfl ⟨Nat.le_of_ble_eq_true rfl, Nat.le_of_ble_eq_true rfl⟩ (Nat.le_of_ble_eq_true rfl) (ok_X8_addFilm h1) ?_
          exact A_iret dX10_film_54 (pI_go h)
        · have h := gF_go hc h
          refine A_aload_n dX10_film_37 rfl ?_
          refine A_iconst (v := 4) dX10_film_38 (by decide) ?_
          obtain ⟨r16, M15, h1, h⟩ := bE_go h
          refine A_cVi1 dX10_film_39 ml_X10_100 mb_X10_finding mi_X10_finding ob0 rfl rfl ⟨Nat.le_of_ble_eq_true rfl, Nat.le_of_ble_eq_true rfl⟩ (Nat.le_of_ble_eq_true rfl) (ok_X10_finding h1) ?_
          exact A_iret dX10_film_42 (pI_go h)
      · have h := gT_go hc h
        refine A_aload_n dX10_film_21 rfl ?_
        refine A_iconst (v := 1) dX10_film_22 (by decide) ?_
        obtain ⟨r18, M17, h1, h⟩ := bE_go h
        refine A_cVi1 dX10_film_23 ml_X10_100 mb_X10_finding mi_X10_finding ob0 rfl rfl ⟨Nat.le_of_ble_eq_true rfl, Nat.le_of_ble_eq_true rfl⟩ (Nat.le_of_ble_eq_true rfl) (ok_X10_finding h1) ?_
        exact A_iret dX10_film_26 (pI_go h)
-- BenchTimes.habit
theorem dX10_habit_0 : di cX10_habit 0 (.iload_n 1) 1 1 := ⟨by decide +kernel, rfl⟩
theorem dX10_habit_1 : di cX10_habit 1 (.invokestatic 129) 3 4 := ⟨by decide +kernel, rfl⟩
theorem dX10_habit_4 : dj cX10_habit 4 (.ifCond .ne) 7 13 := ⟨9, by decide +kernel, rfl, rfl⟩
theorem dX10_habit_7 : di cX10_habit 7 (.aload_n 0) 1 8 := ⟨by decide +kernel, rfl⟩
theorem dX10_habit_8 : di cX10_habit 8 (.iconst 1) 1 9 := ⟨by decide +kernel, rfl⟩
theorem dX10_habit_9 : di cX10_habit 9 (.invokevirtual 100) 3 12 := ⟨by decide +kernel, rfl⟩
theorem dX10_habit_12 : di cX10_habit 12 (.ireturn) 1 13 := ⟨by decide +kernel, rfl⟩
theorem dX10_habit_13 : di cX10_habit 13 (.aload_n 0) 1 14 := ⟨by decide +kernel, rfl⟩
theorem dX10_habit_14 : di cX10_habit 14 (.getfield 25) 3 17 := ⟨by decide +kernel, rfl⟩
theorem dX10_habit_17 : di cX10_habit 17 (.iload_n 1) 1 18 := ⟨by decide +kernel, rfl⟩
theorem dX10_habit_18 : di cX10_habit 18 (.invokevirtual 142) 3 21 := ⟨by decide +kernel, rfl⟩
theorem dX10_habit_21 : di cX10_habit 21 (.ireturn) 1 22 := ⟨by decide +kernel, rfl⟩
def f_X10_habit (v1 : Int32) (M : Mem) : Option Ret := bE (f_X10_isRater v1 M) (fun r2 M1 => if r2 = 0 then (bE (f_X10_finding (1 : Int32) M1) (fun r6 M5 => some (r6, M5))) else (bE (f_X8_habitOf v1 M1) (fun r4 M3 => some (r4, M3))))
set_option maxRecDepth 100000 in
theorem ok_X10_habit {l : Launch} {g : Cx} {v1 : Int32} {M : Mem} {r : Int32} {Mr : Mem} (h : f_X10_habit v1 M = some (r, Mr)) : CT l g yX10_habit cX10_habit 2 (some .int) 2 42 [.ref (g.1 0), .int v1] M (PI r Mr) := by
  refine CT_of (lv := [some (.ref (g.1 0)), some (.int v1)]) (by decide) rfl (Nat.le_of_ble_eq_true rfl) ?_
  unfold f_X10_habit at h
  refine A_iload_n dX10_habit_0 rfl ?_
  obtain ⟨r2, M1, h1, h⟩ := bE_go h
  refine A_cSi1 dX10_habit_1 ml_X10_129 mb_X10_isRater ms_X10_isRater ⟨Nat.le_of_ble_eq_true rfl, Nat.le_of_ble_eq_true rfl⟩ (Nat.le_of_ble_eq_true rfl) (ok_X10_isRater h1) ?_
  refine A_if_ne dX10_habit_4 (fun hc => ?_) (fun hc => ?_)
  · have h := gF_go hc h
    refine A_aload_n dX10_habit_13 rfl ?_
    refine A_getf dX10_habit_14 fw_X10_25 ob0 rfl ?_
    refine A_iload_n dX10_habit_17 rfl ?_
    obtain ⟨r4, M3, h1, h⟩ := bE_go h
    refine A_cVi1 dX10_habit_18 ml_X10_142 mb_X8_habitOf mi_X8_habitOf ob2 rfl rfl ⟨Nat.le_of_ble_eq_true rfl, Nat.le_of_ble_eq_true rfl⟩ (Nat.le_of_ble_eq_true rfl) (ok_X8_habitOf h1) ?_
    exact A_iret dX10_habit_21 (pI_go h)
  · have h := gT_go hc h
    refine A_aload_n dX10_habit_7 rfl ?_
    refine A_iconst (v := 1) dX10_habit_8 (by decide) ?_
    obtain ⟨r6, M5, h1, h⟩ := bE_go h
    refine A_cVi1 dX10_habit_9 ml_X10_100 mb_X10_finding mi_X10_finding ob0 rfl rfl ⟨Nat.le_of_ble_eq_true rfl, Nat.le_of_ble_eq_true rfl⟩ (Nat.le_of_ble_eq_true rfl) (ok_X10_finding h1) ?_
    exact A_iret dX10_habit_12 (pI_go h)
-- BenchTimes.cycle
theorem dX10_cycle_0 : di cX10_cycle 0 (.aload_n 0) 1 1 := ⟨by decide +kernel, rfl⟩
theorem dX10_cycle_1 : di cX10_cycle 1 (.getfield 16) 3 4 := ⟨by decide +kernel, rfl⟩
theorem dX10_cycle_4 : di cX10_cycle 4 (.iload_n 1) 1 5 := ⟨by decide +kernel, rfl⟩
theorem dX10_cycle_5 : di cX10_cycle 5 (.invokevirtual 111) 3 8 := ⟨by decide +kernel, rfl⟩
theorem dX10_cycle_8 : dj cX10_cycle 8 (.ifCond .eq) 11 37 := ⟨29, by decide +kernel, rfl, rfl⟩
theorem dX10_cycle_11 : di cX10_cycle 11 (.iload_n 2) 1 12 := ⟨by decide +kernel, rfl⟩
theorem dX10_cycle_12 : di cX10_cycle 12 (.invokestatic 129) 3 15 := ⟨by decide +kernel, rfl⟩
theorem dX10_cycle_15 : dj cX10_cycle 15 (.ifCond .eq) 18 37 := ⟨22, by decide +kernel, rfl, rfl⟩
theorem dX10_cycle_18 : di cX10_cycle 18 (.iload_n 3) 1 19 := ⟨by decide +kernel, rfl⟩
theorem dX10_cycle_19 : di cX10_cycle 19 (.invokestatic 132) 3 22 := ⟨by decide +kernel, rfl⟩
theorem dX10_cycle_22 : dj cX10_cycle 22 (.ifCond .eq) 25 37 := ⟨15, by decide +kernel, rfl, rfl⟩
theorem dX10_cycle_25 : di cX10_cycle 25 (.iload 4) 2 27 := ⟨by decide +kernel, rfl⟩
theorem dX10_cycle_27 : di cX10_cycle 27 (.iconst 1) 1 28 := ⟨by decide +kernel, rfl⟩
theorem dX10_cycle_28 : di cX10_cycle 28 (.sipush 999) 3 31 := ⟨by decide +kernel, rfl⟩
theorem dX10_cycle_31 : di cX10_cycle 31 (.invokestatic 121) 3 34 := ⟨by decide +kernel, rfl⟩
theorem dX10_cycle_34 : dj cX10_cycle 34 (.ifCond .ne) 37 43 := ⟨9, by decide +kernel, rfl, rfl⟩
theorem dX10_cycle_37 : di cX10_cycle 37 (.aload_n 0) 1 38 := ⟨by decide +kernel, rfl⟩
theorem dX10_cycle_38 : di cX10_cycle 38 (.iconst 1) 1 39 := ⟨by decide +kernel, rfl⟩
theorem dX10_cycle_39 : di cX10_cycle 39 (.invokevirtual 100) 3 42 := ⟨by decide +kernel, rfl⟩
theorem dX10_cycle_42 : di cX10_cycle 42 (.ireturn) 1 43 := ⟨by decide +kernel, rfl⟩
theorem dX10_cycle_43 : di cX10_cycle 43 (.aload_n 0) 1 44 := ⟨by decide +kernel, rfl⟩
theorem dX10_cycle_44 : di cX10_cycle 44 (.getfield 25) 3 47 := ⟨by decide +kernel, rfl⟩
theorem dX10_cycle_47 : di cX10_cycle 47 (.invokevirtual 145) 3 50 := ⟨by decide +kernel, rfl⟩
theorem dX10_cycle_50 : dj cX10_cycle 50 (.ifCond .eq) 53 59 := ⟨9, by decide +kernel, rfl, rfl⟩
theorem dX10_cycle_53 : di cX10_cycle 53 (.aload_n 0) 1 54 := ⟨by decide +kernel, rfl⟩
theorem dX10_cycle_54 : di cX10_cycle 54 (.iconst 4) 1 55 := ⟨by decide +kernel, rfl⟩
theorem dX10_cycle_55 : di cX10_cycle 55 (.invokevirtual 100) 3 58 := ⟨by decide +kernel, rfl⟩
theorem dX10_cycle_58 : di cX10_cycle 58 (.ireturn) 1 59 := ⟨by decide +kernel, rfl⟩
theorem dX10_cycle_59 : di cX10_cycle 59 (.aload_n 0) 1 60 := ⟨by decide +kernel, rfl⟩
theorem dX10_cycle_60 : di cX10_cycle 60 (.getfield 25) 3 63 := ⟨by decide +kernel, rfl⟩
theorem dX10_cycle_63 : di cX10_cycle 63 (.iload_n 1) 1 64 := ⟨by decide +kernel, rfl⟩
theorem dX10_cycle_64 : di cX10_cycle 64 (.iload_n 2) 1 65 := ⟨by decide +kernel, rfl⟩
theorem dX10_cycle_65 : di cX10_cycle 65 (.iload_n 3) 1 66 := ⟨by decide +kernel, rfl⟩
theorem dX10_cycle_66 : di cX10_cycle 66 (.iload 4) 2 68 := ⟨by decide +kernel, rfl⟩
theorem dX10_cycle_68 : di cX10_cycle 68 (.invokevirtual 148) 3 71 := ⟨by decide +kernel, rfl⟩
theorem dX10_cycle_71 : di cX10_cycle 71 (.ireturn) 1 72 := ⟨by decide +kernel, rfl⟩
def f_X10_cycle (v1 : Int32) (v2 : Int32) (v3 : Int32) (v4 : Int32) (M : Mem) : Option Ret := bE (f_X1_has v1 M) (fun r2 M1 => if r2 = 0 then (bE (f_X10_finding (1 : Int32) M1) (fun r4 M3 => some (r4, M3))) else (bE (f_X10_isRater v2 M1) (fun r6 M5 => if r6 = 0 then (bE (f_X10_finding (1 : Int32) M5) (fun r8 M7 => some (r8, M7))) else (bE (f_X10_isPace v3 M5) (fun r10 M9 => if r10 = 0 then (bE (f_X10_finding (1 : Int32) M9) (fun r12 M11 => some (r12, M11))) else (bE (f_X10_isWithin v4 (1 : Int32) (999 : Int32) M9) (fun r14 M13 => if r14 = 0 then (bE (f_X10_finding (1 : Int32) M13) (fun r22 M21 => some (r22, M21))) else (bE (f_X8_isFullOfCycles M13) (fun r16 M15 => if r16 = 0 then (bE (f_X8_addCycle v1 v2 v3 v4 M15) (fun r18 M17 => some (r18, M17))) else (bE (f_X10_finding (4 : Int32) M15) (fun r20 M19 => some (r20, M19))))))))))))
set_option maxRecDepth 100000 in
theorem ok_X10_cycle {l : Launch} {g : Cx} {v1 : Int32} {v2 : Int32} {v3 : Int32} {v4 : Int32} {M : Mem} {r : Int32} {Mr : Mem} (h : f_X10_cycle v1 v2 v3 v4 M = some (r, Mr)) : CT l g yX10_cycle cX10_cycle 5 (some .int) 2 43 [.ref (g.1 0), .int v1, .int v2, .int v3, .int v4] M (PI r Mr) := by
  refine CT_of (lv := [some (.ref (g.1 0)), some (.int v1), some (.int v2), some (.int v3), some (.int v4)]) (by decide) rfl (Nat.le_of_ble_eq_true rfl) ?_
  unfold f_X10_cycle at h
  refine A_aload_n dX10_cycle_0 rfl ?_
  refine A_getf dX10_cycle_1 fw_X10_16 ob0 rfl ?_
  refine A_iload_n dX10_cycle_4 rfl ?_
  obtain ⟨r2, M1, h1, h⟩ := bE_go h
  refine A_cVi1 dX10_cycle_5 ml_X10_111 mb_X1_has mi_X1_has ob1 rfl rfl ⟨Nat.le_of_ble_eq_true rfl, Nat.le_of_ble_eq_true rfl⟩ (Nat.le_of_ble_eq_true rfl) (ok_X1_has h1) ?_
  refine A_if_eq dX10_cycle_8 (fun hc => ?_) (fun hc => ?_)
  · have h := gT_go hc h
    refine A_aload_n dX10_cycle_37 rfl ?_
    refine A_iconst (v := 1) dX10_cycle_38 (by decide) ?_
    obtain ⟨r4, M3, h1, h⟩ := bE_go h
    refine A_cVi1 dX10_cycle_39 ml_X10_100 mb_X10_finding mi_X10_finding ob0 rfl rfl ⟨Nat.le_of_ble_eq_true rfl, Nat.le_of_ble_eq_true rfl⟩ (Nat.le_of_ble_eq_true rfl) (ok_X10_finding h1) ?_
    exact A_iret dX10_cycle_42 (pI_go h)
  · have h := gF_go hc h
    refine A_iload_n dX10_cycle_11 rfl ?_
    obtain ⟨r6, M5, h1, h⟩ := bE_go h
    refine A_cSi1 dX10_cycle_12 ml_X10_129 mb_X10_isRater ms_X10_isRater ⟨Nat.le_of_ble_eq_true rfl, Nat.le_of_ble_eq_true rfl⟩ (Nat.le_of_ble_eq_true rfl) (ok_X10_isRater h1) ?_
    refine A_if_eq dX10_cycle_15 (fun hc => ?_) (fun hc => ?_)
    · have h := gT_go hc h
      refine A_aload_n dX10_cycle_37 rfl ?_
      refine A_iconst (v := 1) dX10_cycle_38 (by decide) ?_
      obtain ⟨r8, M7, h1, h⟩ := bE_go h
      refine A_cVi1 dX10_cycle_39 ml_X10_100 mb_X10_finding mi_X10_finding ob0 rfl rfl ⟨Nat.le_of_ble_eq_true rfl, Nat.le_of_ble_eq_true rfl⟩ (Nat.le_of_ble_eq_true rfl) (ok_X10_finding h1) ?_
      exact A_iret dX10_cycle_42 (pI_go h)
    · have h := gF_go hc h
      refine A_iload_n dX10_cycle_18 rfl ?_
      obtain ⟨r10, M9, h1, h⟩ := bE_go h
      refine A_cSi1 dX10_cycle_19 ml_X10_132 mb_X10_isPace ms_X10_isPace ⟨Nat.le_of_ble_eq_true rfl, Nat.le_of_ble_eq_true rfl⟩ (Nat.le_of_ble_eq_true rfl) (ok_X10_isPace h1) ?_
      refine A_if_eq dX10_cycle_22 (fun hc => ?_) (fun hc => ?_)
      · have h := gT_go hc h
        refine A_aload_n dX10_cycle_37 rfl ?_
        refine A_iconst (v := 1) dX10_cycle_38 (by decide) ?_
        obtain ⟨r12, M11, h1, h⟩ := bE_go h
        refine A_cVi1 dX10_cycle_39 ml_X10_100 mb_X10_finding mi_X10_finding ob0 rfl rfl ⟨Nat.le_of_ble_eq_true rfl, Nat.le_of_ble_eq_true rfl⟩ (Nat.le_of_ble_eq_true rfl) (ok_X10_finding h1) ?_
        exact A_iret dX10_cycle_42 (pI_go h)
      · have h := gF_go hc h
        refine A_iload dX10_cycle_25 rfl ?_
        refine A_iconst (v := 1) dX10_cycle_27 (by decide) ?_
        refine A_sipush (v := 999) dX10_cycle_28 (by decide) ?_
        obtain ⟨r14, M13, h1, h⟩ := bE_go h
        refine A_cSi3 dX10_cycle_31 ml_X10_121 mb_X10_isWithin ms_X10_isWithin ⟨Nat.le_of_ble_eq_true rfl, Nat.le_of_ble_eq_true rfl⟩ (Nat.le_of_ble_eq_true rfl) (ok_X10_isWithin h1) ?_
        refine A_if_ne dX10_cycle_34 (fun hc => ?_) (fun hc => ?_)
        · have h := gF_go hc h
          refine A_aload_n dX10_cycle_43 rfl ?_
          refine A_getf dX10_cycle_44 fw_X10_25 ob0 rfl ?_
          obtain ⟨r16, M15, h1, h⟩ := bE_go h
          refine A_cVi0 dX10_cycle_47 ml_X10_145 mb_X8_isFullOfCycles mi_X8_isFullOfCycles ob2 rfl rfl ⟨Nat.le_of_ble_eq_true rfl, Nat.le_of_ble_eq_true rfl⟩ (Nat.le_of_ble_eq_true rfl) (ok_X8_isFullOfCycles h1) ?_
          refine A_if_eq dX10_cycle_50 (fun hc => ?_) (fun hc => ?_)
          · have h := gT_go hc h
            refine A_aload_n dX10_cycle_59 rfl ?_
            refine A_getf dX10_cycle_60 fw_X10_25 ob0 rfl ?_
            refine A_iload_n dX10_cycle_63 rfl ?_
            refine A_iload_n dX10_cycle_64 rfl ?_
            refine A_iload_n dX10_cycle_65 rfl ?_
            refine A_iload dX10_cycle_66 rfl ?_
            obtain ⟨r18, M17, h1, h⟩ := bE_go h
            refine A_cVi4 dX10_cycle_68 ml_X10_148 mb_X8_addCycle mi_X8_addCycle ob2 rfl rfl ⟨Nat.le_of_ble_eq_true rfl, Nat.le_of_ble_eq_true rfl⟩ (Nat.le_of_ble_eq_true rfl) (ok_X8_addCycle h1) ?_
            exact A_iret dX10_cycle_71 (pI_go h)
          · have h := gF_go hc h
            refine A_aload_n dX10_cycle_53 rfl ?_
            refine A_iconst (v := 4) dX10_cycle_54 (by decide) ?_
            obtain ⟨r20, M19, h1, h⟩ := bE_go h
            refine A_cVi1 dX10_cycle_55 ml_X10_100 mb_X10_finding mi_X10_finding ob0 rfl rfl ⟨Nat.le_of_ble_eq_true rfl, Nat.le_of_ble_eq_true rfl⟩ (Nat.le_of_ble_eq_true rfl) (ok_X10_finding h1) ?_
            exact A_iret dX10_cycle_58 (pI_go h)
        · have h := gT_go hc h
          refine A_aload_n dX10_cycle_37 rfl ?_
          refine A_iconst (v := 1) dX10_cycle_38 (by decide) ?_
          obtain ⟨r22, M21, h1, h⟩ := bE_go h
          refine A_cVi1 dX10_cycle_39 ml_X10_100 mb_X10_finding mi_X10_finding ob0 rfl rfl ⟨Nat.le_of_ble_eq_true rfl, Nat.le_of_ble_eq_true rfl⟩ (Nat.le_of_ble_eq_true rfl) (ok_X10_finding h1) ?_
          exact A_iret dX10_cycle_42 (pI_go h)
-- BenchTimes.normal
theorem dX10_normal_0 : di cX10_normal 0 (.iload_n 1) 1 1 := ⟨by decide +kernel, rfl⟩
theorem dX10_normal_1 : di cX10_normal 1 (.iconst 0) 1 2 := ⟨by decide +kernel, rfl⟩
theorem dX10_normal_2 : di cX10_normal 2 (.aload_n 0) 1 3 := ⟨by decide +kernel, rfl⟩
theorem dX10_normal_3 : di cX10_normal 3 (.getfield 25) 3 6 := ⟨by decide +kernel, rfl⟩
theorem dX10_normal_6 : di cX10_normal 6 (.invokevirtual 152) 3 9 := ⟨by decide +kernel, rfl⟩
theorem dX10_normal_9 : di cX10_normal 9 (.iconst 1) 1 10 := ⟨by decide +kernel, rfl⟩
theorem dX10_normal_10 : di cX10_normal 10 (.isub) 1 11 := ⟨by decide +kernel, rfl⟩
theorem dX10_normal_11 : di cX10_normal 11 (.invokestatic 121) 3 14 := ⟨by decide +kernel, rfl⟩
theorem dX10_normal_14 : dj cX10_normal 14 (.ifCond .ne) 17 23 := ⟨9, by decide +kernel, rfl, rfl⟩
theorem dX10_normal_17 : di cX10_normal 17 (.aload_n 0) 1 18 := ⟨by decide +kernel, rfl⟩
theorem dX10_normal_18 : di cX10_normal 18 (.iconst 1) 1 19 := ⟨by decide +kernel, rfl⟩
theorem dX10_normal_19 : di cX10_normal 19 (.invokevirtual 100) 3 22 := ⟨by decide +kernel, rfl⟩
theorem dX10_normal_22 : di cX10_normal 22 (.ireturn) 1 23 := ⟨by decide +kernel, rfl⟩
theorem dX10_normal_23 : di cX10_normal 23 (.aload_n 0) 1 24 := ⟨by decide +kernel, rfl⟩
theorem dX10_normal_24 : di cX10_normal 24 (.getfield 25) 3 27 := ⟨by decide +kernel, rfl⟩
theorem dX10_normal_27 : di cX10_normal 27 (.iload_n 1) 1 28 := ⟨by decide +kernel, rfl⟩
theorem dX10_normal_28 : di cX10_normal 28 (.invokevirtual 156) 3 31 := ⟨by decide +kernel, rfl⟩
theorem dX10_normal_31 : di cX10_normal 31 (.ireturn) 1 32 := ⟨by decide +kernel, rfl⟩
def f_X10_normal (v1 : Int32) (M : Mem) : Option Ret := bE (f_X8_cycleMany M) (fun r2 M1 => bE (f_X10_isWithin v1 (0 : Int32) (r2 - (1 : Int32)) M1) (fun r4 M3 => if r4 = 0 then (bE (f_X10_finding (1 : Int32) M3) (fun r8 M7 => some (r8, M7))) else (bE (f_X8_normalOf v1 M3) (fun r6 M5 => some (r6, M5)))))
set_option maxRecDepth 100000 in
theorem ok_X10_normal {l : Launch} {g : Cx} {v1 : Int32} {M : Mem} {r : Int32} {Mr : Mem} (h : f_X10_normal v1 M = some (r, Mr)) : CT l g yX10_normal cX10_normal 2 (some .int) 2 43 [.ref (g.1 0), .int v1] M (PI r Mr) := by
  refine CT_of (lv := [some (.ref (g.1 0)), some (.int v1)]) (by decide) rfl (Nat.le_of_ble_eq_true rfl) ?_
  unfold f_X10_normal at h
  refine A_iload_n dX10_normal_0 rfl ?_
  refine A_iconst (v := 0) dX10_normal_1 (by decide) ?_
  refine A_aload_n dX10_normal_2 rfl ?_
  refine A_getf dX10_normal_3 fw_X10_25 ob0 rfl ?_
  obtain ⟨r2, M1, h1, h⟩ := bE_go h
  refine A_cVi0 dX10_normal_6 ml_X10_152 mb_X8_cycleMany mi_X8_cycleMany ob2 rfl rfl ⟨Nat.le_of_ble_eq_true rfl, Nat.le_of_ble_eq_true rfl⟩ (Nat.le_of_ble_eq_true rfl) (ok_X8_cycleMany h1) ?_
  refine A_iconst (v := 1) dX10_normal_9 (by decide) ?_
  refine A_isub dX10_normal_10 ?_
  obtain ⟨r4, M3, h1, h⟩ := bE_go h
  refine A_cSi3 dX10_normal_11 ml_X10_121 mb_X10_isWithin ms_X10_isWithin ⟨Nat.le_of_ble_eq_true rfl, Nat.le_of_ble_eq_true rfl⟩ (Nat.le_of_ble_eq_true rfl) (ok_X10_isWithin h1) ?_
  refine A_if_ne dX10_normal_14 (fun hc => ?_) (fun hc => ?_)
  · have h := gF_go hc h
    refine A_aload_n dX10_normal_23 rfl ?_
    refine A_getf dX10_normal_24 fw_X10_25 ob0 rfl ?_
    refine A_iload_n dX10_normal_27 rfl ?_
    obtain ⟨r6, M5, h1, h⟩ := bE_go h
    refine A_cVi1 dX10_normal_28 ml_X10_156 mb_X8_normalOf mi_X8_normalOf ob2 rfl rfl ⟨Nat.le_of_ble_eq_true rfl, Nat.le_of_ble_eq_true rfl⟩ (Nat.le_of_ble_eq_true rfl) (ok_X8_normalOf h1) ?_
    exact A_iret dX10_normal_31 (pI_go h)
  · have h := gT_go hc h
    refine A_aload_n dX10_normal_17 rfl ?_
    refine A_iconst (v := 1) dX10_normal_18 (by decide) ?_
    obtain ⟨r8, M7, h1, h⟩ := bE_go h
    refine A_cVi1 dX10_normal_19 ml_X10_100 mb_X10_finding mi_X10_finding ob0 rfl rfl ⟨Nat.le_of_ble_eq_true rfl, Nat.le_of_ble_eq_true rfl⟩ (Nat.le_of_ble_eq_true rfl) (ok_X10_finding h1) ?_
    exact A_iret dX10_normal_22 (pI_go h)
-- BenchTimes.of
theorem dX10_of_0 : di cX10_of 0 (.aload_n 0) 1 1 := ⟨by decide +kernel, rfl⟩
theorem dX10_of_1 : di cX10_of 1 (.getfield 16) 3 4 := ⟨by decide +kernel, rfl⟩
theorem dX10_of_4 : di cX10_of 4 (.iload_n 1) 1 5 := ⟨by decide +kernel, rfl⟩
theorem dX10_of_5 : di cX10_of 5 (.invokevirtual 111) 3 8 := ⟨by decide +kernel, rfl⟩
theorem dX10_of_8 : dj cX10_of 8 (.ifCond .eq) 11 21 := ⟨13, by decide +kernel, rfl, rfl⟩
theorem dX10_of_11 : di cX10_of 11 (.iload_n 2) 1 12 := ⟨by decide +kernel, rfl⟩
theorem dX10_of_12 : di cX10_of 12 (.iconst 0) 1 13 := ⟨by decide +kernel, rfl⟩
theorem dX10_of_13 : di cX10_of 13 (.bipush 6) 2 15 := ⟨by decide +kernel, rfl⟩
theorem dX10_of_15 : di cX10_of 15 (.invokestatic 121) 3 18 := ⟨by decide +kernel, rfl⟩
theorem dX10_of_18 : dj cX10_of 18 (.ifCond .ne) 21 27 := ⟨9, by decide +kernel, rfl, rfl⟩
theorem dX10_of_21 : di cX10_of 21 (.aload_n 0) 1 22 := ⟨by decide +kernel, rfl⟩
theorem dX10_of_22 : di cX10_of 22 (.iconst 1) 1 23 := ⟨by decide +kernel, rfl⟩
theorem dX10_of_23 : di cX10_of 23 (.invokevirtual 100) 3 26 := ⟨by decide +kernel, rfl⟩
theorem dX10_of_26 : di cX10_of 26 (.ireturn) 1 27 := ⟨by decide +kernel, rfl⟩
theorem dX10_of_27 : di cX10_of 27 (.iload_n 2) 1 28 := ⟨by decide +kernel, rfl⟩
theorem dX10_of_28 : dj cX10_of 28 (.ifCond .ne) 31 40 := ⟨12, by decide +kernel, rfl, rfl⟩
theorem dX10_of_31 : di cX10_of 31 (.aload_n 0) 1 32 := ⟨by decide +kernel, rfl⟩
theorem dX10_of_32 : di cX10_of 32 (.getfield 16) 3 35 := ⟨by decide +kernel, rfl⟩
theorem dX10_of_35 : di cX10_of 35 (.iload_n 1) 1 36 := ⟨by decide +kernel, rfl⟩
theorem dX10_of_36 : di cX10_of 36 (.invokevirtual 159) 3 39 := ⟨by decide +kernel, rfl⟩
theorem dX10_of_39 : di cX10_of 39 (.ireturn) 1 40 := ⟨by decide +kernel, rfl⟩
theorem dX10_of_40 : di cX10_of 40 (.aload_n 0) 1 41 := ⟨by decide +kernel, rfl⟩
theorem dX10_of_41 : di cX10_of 41 (.getfield 25) 3 44 := ⟨by decide +kernel, rfl⟩
theorem dX10_of_44 : di cX10_of 44 (.iload_n 1) 1 45 := ⟨by decide +kernel, rfl⟩
theorem dX10_of_45 : di cX10_of 45 (.invokevirtual 162) 3 48 := ⟨by decide +kernel, rfl⟩
theorem dX10_of_48 : di cX10_of 48 (.iload_n 2) 1 49 := ⟨by decide +kernel, rfl⟩
theorem dX10_of_49 : di cX10_of 49 (.iconst 1) 1 50 := ⟨by decide +kernel, rfl⟩
theorem dX10_of_50 : dj cX10_of 50 (.if_icmp .le) 53 70 := ⟨20, by decide +kernel, rfl, rfl⟩
theorem dX10_of_53 : di cX10_of 53 (.aload_n 0) 1 54 := ⟨by decide +kernel, rfl⟩
theorem dX10_of_54 : di cX10_of 54 (.getfield 25) 3 57 := ⟨by decide +kernel, rfl⟩
theorem dX10_of_57 : di cX10_of 57 (.iconst 1) 1 58 := ⟨by decide +kernel, rfl⟩
theorem dX10_of_58 : di cX10_of 58 (.invokevirtual 166) 3 61 := ⟨by decide +kernel, rfl⟩
theorem dX10_of_61 : dj cX10_of 61 (.ifCond .ne) 64 70 := ⟨9, by decide +kernel, rfl, rfl⟩
theorem dX10_of_64 : di cX10_of 64 (.aload_n 0) 1 65 := ⟨by decide +kernel, rfl⟩
theorem dX10_of_65 : di cX10_of 65 (.iconst 2) 1 66 := ⟨by decide +kernel, rfl⟩
theorem dX10_of_66 : di cX10_of 66 (.invokevirtual 100) 3 69 := ⟨by decide +kernel, rfl⟩
theorem dX10_of_69 : di cX10_of 69 (.ireturn) 1 70 := ⟨by decide +kernel, rfl⟩
theorem dX10_of_70 : di cX10_of 70 (.aload_n 0) 1 71 := ⟨by decide +kernel, rfl⟩
theorem dX10_of_71 : di cX10_of 71 (.getfield 25) 3 74 := ⟨by decide +kernel, rfl⟩
theorem dX10_of_74 : di cX10_of 74 (.iload_n 2) 1 75 := ⟨by decide +kernel, rfl⟩
theorem dX10_of_75 : di cX10_of 75 (.invokevirtual 166) 3 78 := ⟨by decide +kernel, rfl⟩
theorem dX10_of_78 : di cX10_of 78 (.ireturn) 1 79 := ⟨by decide +kernel, rfl⟩
def f_X10_of (v1 : Int32) (v2 : Int32) (M : Mem) : Option Ret := bE (f_X1_has v1 M) (fun r2 M1 => if r2 = 0 then (bE (f_X10_finding (1 : Int32) M1) (fun r4 M3 => some (r4, M3))) else (bE (f_X10_isWithin v2 (0 : Int32) (6 : Int32) M1) (fun r6 M5 => if r6 = 0 then (bE (f_X10_finding (1 : Int32) M5) (fun r20 M19 => some (r20, M19))) else (if v2 = 0 then (bE (f_X1_kindOf v1 M5) (fun r18 M17 => some (r18, M17))) else (bE (f_X8_study v1 M5) (fun r8 M7 => if v2 ≤ (1 : Int32) then (bE (f_X8_studied v2 M7) (fun r10 M9 => some (r10, M9))) else (bE (f_X8_studied (1 : Int32) M7) (fun r12 M11 => if r12 = 0 then (bE (f_X10_finding (2 : Int32) M11) (fun r16 M15 => some (r16, M15))) else (bE (f_X8_studied v2 M11) (fun r14 M13 => some (r14, M13)))))))))))
set_option maxRecDepth 100000 in
theorem ok_X10_of {l : Launch} {g : Cx} {v1 : Int32} {v2 : Int32} {M : Mem} {r : Int32} {Mr : Mem} (h : f_X10_of v1 v2 M = some (r, Mr)) : CT l g yX10_of cX10_of 3 (some .int) 4 87 [.ref (g.1 0), .int v1, .int v2] M (PI r Mr) := by
  refine CT_of (lv := [some (.ref (g.1 0)), some (.int v1), some (.int v2)]) (by decide) rfl (Nat.le_of_ble_eq_true rfl) ?_
  unfold f_X10_of at h
  refine A_aload_n dX10_of_0 rfl ?_
  refine A_getf dX10_of_1 fw_X10_16 ob0 rfl ?_
  refine A_iload_n dX10_of_4 rfl ?_
  obtain ⟨r2, M1, h1, h⟩ := bE_go h
  refine A_cVi1 dX10_of_5 ml_X10_111 mb_X1_has mi_X1_has ob1 rfl rfl ⟨Nat.le_of_ble_eq_true rfl, Nat.le_of_ble_eq_true rfl⟩ (Nat.le_of_ble_eq_true rfl) (ok_X1_has h1) ?_
  refine A_if_eq dX10_of_8 (fun hc => ?_) (fun hc => ?_)
  · have h := gT_go hc h
    refine A_aload_n dX10_of_21 rfl ?_
    refine A_iconst (v := 1) dX10_of_22 (by decide) ?_
    obtain ⟨r4, M3, h1, h⟩ := bE_go h
    refine A_cVi1 dX10_of_23 ml_X10_100 mb_X10_finding mi_X10_finding ob0 rfl rfl ⟨Nat.le_of_ble_eq_true rfl, Nat.le_of_ble_eq_true rfl⟩ (Nat.le_of_ble_eq_true rfl) (ok_X10_finding h1) ?_
    exact A_iret dX10_of_26 (pI_go h)
  · have h := gF_go hc h
    refine A_iload_n dX10_of_11 rfl ?_
    refine A_iconst (v := 0) dX10_of_12 (by decide) ?_
    refine A_bipush (v := 6) dX10_of_13 (by decide) ?_
    obtain ⟨r6, M5, h1, h⟩ := bE_go h
    refine A_cSi3 dX10_of_15 ml_X10_121 mb_X10_isWithin ms_X10_isWithin ⟨Nat.le_of_ble_eq_true rfl, Nat.le_of_ble_eq_true rfl⟩ (Nat.le_of_ble_eq_true rfl) (ok_X10_isWithin h1) ?_
    refine A_if_ne dX10_of_18 (fun hc => ?_) (fun hc => ?_)
    · have h := gF_go hc h
      refine A_iload_n dX10_of_27 rfl ?_
      refine A_if_ne dX10_of_28 (fun hc => ?_) (fun hc => ?_)
      · have h := gF_go hc h
        refine A_aload_n dX10_of_40 rfl ?_
        refine A_getf dX10_of_41 fw_X10_25 ob0 rfl ?_
        refine A_iload_n dX10_of_44 rfl ?_
        obtain ⟨r8, M7, h1, h⟩ := bE_go h
        refine A_cVv1 dX10_of_45 ml_X10_162 mb_X8_study mi_X8_study ob2 rfl rfl ⟨Nat.le_of_ble_eq_true rfl, Nat.le_of_ble_eq_true rfl⟩ (Nat.le_of_ble_eq_true rfl) (ok_X8_study h1) ?_
        refine A_iload_n dX10_of_48 rfl ?_
        refine A_iconst (v := 1) dX10_of_49 (by decide) ?_
        refine A_icmp_le dX10_of_50 (fun hc => ?_) (fun hc => ?_)
        · have h := gT_go hc h
          refine A_aload_n dX10_of_70 rfl ?_
          refine A_getf dX10_of_71 fw_X10_25 ob0 rfl ?_
          refine A_iload_n dX10_of_74 rfl ?_
          obtain ⟨r10, M9, h1, h⟩ := bE_go h
          refine A_cVi1 dX10_of_75 ml_X10_166 mb_X8_studied mi_X8_studied ob2 rfl rfl ⟨Nat.le_of_ble_eq_true rfl, Nat.le_of_ble_eq_true rfl⟩ (Nat.le_of_ble_eq_true rfl) (ok_X8_studied h1) ?_
          exact A_iret dX10_of_78 (pI_go h)
        · have h := gF_go hc h
          refine A_aload_n dX10_of_53 rfl ?_
          refine A_getf dX10_of_54 fw_X10_25 ob0 rfl ?_
          refine A_iconst (v := 1) dX10_of_57 (by decide) ?_
          obtain ⟨r12, M11, h1, h⟩ := bE_go h
          refine A_cVi1 dX10_of_58 ml_X10_166 mb_X8_studied mi_X8_studied ob2 rfl rfl ⟨Nat.le_of_ble_eq_true rfl, Nat.le_of_ble_eq_true rfl⟩ (Nat.le_of_ble_eq_true rfl) (ok_X8_studied h1) ?_
          refine A_if_ne dX10_of_61 (fun hc => ?_) (fun hc => ?_)
          · have h := gF_go hc h
            refine A_aload_n dX10_of_70 rfl ?_
            refine A_getf dX10_of_71 fw_X10_25 ob0 rfl ?_
            refine A_iload_n dX10_of_74 rfl ?_
            obtain ⟨r14, M13, h1, h⟩ := bE_go h
            refine A_cVi1 dX10_of_75 ml_X10_166 mb_X8_studied mi_X8_studied ob2 rfl rfl ⟨Nat.le_of_ble_eq_true rfl, Nat.le_of_ble_eq_true rfl⟩ (Nat.le_of_ble_eq_true rfl) (ok_X8_studied h1) ?_
            exact A_iret dX10_of_78 (pI_go h)
          · have h := gT_go hc h
            refine A_aload_n dX10_of_64 rfl ?_
            refine A_iconst (v := 2) dX10_of_65 (by decide) ?_
            obtain ⟨r16, M15, h1, h⟩ := bE_go h
            refine A_cVi1 dX10_of_66 ml_X10_100 mb_X10_finding mi_X10_finding ob0 rfl rfl ⟨Nat.le_of_ble_eq_true rfl, Nat.le_of_ble_eq_true rfl⟩ (Nat.le_of_ble_eq_true rfl) (ok_X10_finding h1) ?_
            exact A_iret dX10_of_69 (pI_go h)
      · have h := gT_go hc h
        refine A_aload_n dX10_of_31 rfl ?_
        refine A_getf dX10_of_32 fw_X10_16 ob0 rfl ?_
        refine A_iload_n dX10_of_35 rfl ?_
        obtain ⟨r18, M17, h1, h⟩ := bE_go h
        refine A_cVi1 dX10_of_36 ml_X10_159 mb_X1_kindOf mi_X1_kindOf ob1 rfl rfl ⟨Nat.le_of_ble_eq_true rfl, Nat.le_of_ble_eq_true rfl⟩ (Nat.le_of_ble_eq_true rfl) (ok_X1_kindOf h1) ?_
        exact A_iret dX10_of_39 (pI_go h)
    · have h := gT_go hc h
      refine A_aload_n dX10_of_21 rfl ?_
      refine A_iconst (v := 1) dX10_of_22 (by decide) ?_
      obtain ⟨r20, M19, h1, h⟩ := bE_go h
      refine A_cVi1 dX10_of_23 ml_X10_100 mb_X10_finding mi_X10_finding ob0 rfl rfl ⟨Nat.le_of_ble_eq_true rfl, Nat.le_of_ble_eq_true rfl⟩ (Nat.le_of_ble_eq_true rfl) (ok_X10_finding h1) ?_
      exact A_iret dX10_of_26 (pI_go h)
-- BenchTimes.job
theorem dX10_job_0 : di cX10_job 0 (.aload_n 0) 1 1 := ⟨by decide +kernel, rfl⟩
theorem dX10_job_1 : di cX10_job 1 (.getfield 32) 3 4 := ⟨by decide +kernel, rfl⟩
theorem dX10_job_4 : di cX10_job 4 (.invokevirtual 169) 3 7 := ⟨by decide +kernel, rfl⟩
theorem dX10_job_7 : dj cX10_job 7 (.ifCond .eq) 10 16 := ⟨9, by decide +kernel, rfl, rfl⟩
theorem dX10_job_10 : di cX10_job 10 (.aload_n 0) 1 11 := ⟨by decide +kernel, rfl⟩
theorem dX10_job_11 : di cX10_job 11 (.iconst 4) 1 12 := ⟨by decide +kernel, rfl⟩
theorem dX10_job_12 : di cX10_job 12 (.invokevirtual 100) 3 15 := ⟨by decide +kernel, rfl⟩
theorem dX10_job_15 : di cX10_job 15 (.ireturn) 1 16 := ⟨by decide +kernel, rfl⟩
theorem dX10_job_16 : di cX10_job 16 (.aload_n 0) 1 17 := ⟨by decide +kernel, rfl⟩
theorem dX10_job_17 : di cX10_job 17 (.getfield 32) 3 20 := ⟨by decide +kernel, rfl⟩
theorem dX10_job_20 : di cX10_job 20 (.invokevirtual 170) 3 23 := ⟨by decide +kernel, rfl⟩
theorem dX10_job_23 : di cX10_job 23 (.ireturn) 1 24 := ⟨by decide +kernel, rfl⟩
def f_X10_job  (M : Mem) : Option Ret := bE (f_X2_isFull M) (fun r2 M1 => if r2 = 0 then (bE (f_X2_add M1) (fun r4 M3 => some (r4, M3))) else (bE (f_X10_finding (4 : Int32) M1) (fun r6 M5 => some (r6, M5))))
set_option maxRecDepth 100000 in
theorem ok_X10_job {l : Launch} {g : Cx}  {M : Mem} {r : Int32} {Mr : Mem} (h : f_X10_job  M = some (r, Mr)) : CT l g yX10_job cX10_job 1 (some .int) 1 21 [.ref (g.1 0)] M (PI r Mr) := by
  refine CT_of (lv := [some (.ref (g.1 0))]) (by decide) rfl (Nat.le_of_ble_eq_true rfl) ?_
  unfold f_X10_job at h
  refine A_aload_n dX10_job_0 rfl ?_
  refine A_getf dX10_job_1 fw_X10_32 ob0 rfl ?_
  obtain ⟨r2, M1, h1, h⟩ := bE_go h
  refine A_cVi0 dX10_job_4 ml_X10_169 mb_X2_isFull mi_X2_isFull ob3 rfl rfl ⟨Nat.le_of_ble_eq_true rfl, Nat.le_of_ble_eq_true rfl⟩ (Nat.le_of_ble_eq_true rfl) (ok_X2_isFull h1) ?_
  refine A_if_eq dX10_job_7 (fun hc => ?_) (fun hc => ?_)
  · have h := gT_go hc h
    refine A_aload_n dX10_job_16 rfl ?_
    refine A_getf dX10_job_17 fw_X10_32 ob0 rfl ?_
    obtain ⟨r4, M3, h1, h⟩ := bE_go h
    refine A_cVi0 dX10_job_20 ml_X10_170 mb_X2_add mi_X2_add ob3 rfl rfl ⟨Nat.le_of_ble_eq_true rfl, Nat.le_of_ble_eq_true rfl⟩ (Nat.le_of_ble_eq_true rfl) (ok_X2_add h1) ?_
    exact A_iret dX10_job_23 (pI_go h)
  · have h := gF_go hc h
    refine A_aload_n dX10_job_10 rfl ?_
    refine A_iconst (v := 4) dX10_job_11 (by decide) ?_
    obtain ⟨r6, M5, h1, h⟩ := bE_go h
    refine A_cVi1 dX10_job_12 ml_X10_100 mb_X10_finding mi_X10_finding ob0 rfl rfl ⟨Nat.le_of_ble_eq_true rfl, Nat.le_of_ble_eq_true rfl⟩ (Nat.le_of_ble_eq_true rfl) (ok_X10_finding h1) ?_
    exact A_iret dX10_job_15 (pI_go h)
-- BenchTimes.part
theorem dX10_part_0 : di cX10_part 0 (.aload_n 0) 1 1 := ⟨by decide +kernel, rfl⟩
theorem dX10_part_1 : di cX10_part 1 (.getfield 32) 3 4 := ⟨by decide +kernel, rfl⟩
theorem dX10_part_4 : di cX10_part 4 (.iload_n 1) 1 5 := ⟨by decide +kernel, rfl⟩
theorem dX10_part_5 : di cX10_part 5 (.invokevirtual 172) 3 8 := ⟨by decide +kernel, rfl⟩
theorem dX10_part_8 : dj cX10_part 8 (.ifCond .eq) 11 32 := ⟨24, by decide +kernel, rfl, rfl⟩
theorem dX10_part_11 : di cX10_part 11 (.aload_n 0) 1 12 := ⟨by decide +kernel, rfl⟩
theorem dX10_part_12 : di cX10_part 12 (.getfield 16) 3 15 := ⟨by decide +kernel, rfl⟩
theorem dX10_part_15 : di cX10_part 15 (.iload_n 2) 1 16 := ⟨by decide +kernel, rfl⟩
theorem dX10_part_16 : di cX10_part 16 (.invokevirtual 111) 3 19 := ⟨by decide +kernel, rfl⟩
theorem dX10_part_19 : dj cX10_part 19 (.ifCond .eq) 22 32 := ⟨13, by decide +kernel, rfl, rfl⟩
theorem dX10_part_22 : di cX10_part 22 (.iload_n 3) 1 23 := ⟨by decide +kernel, rfl⟩
theorem dX10_part_23 : di cX10_part 23 (.iconst 1) 1 24 := ⟨by decide +kernel, rfl⟩
theorem dX10_part_24 : di cX10_part 24 (.bipush 9) 2 26 := ⟨by decide +kernel, rfl⟩
theorem dX10_part_26 : di cX10_part 26 (.invokestatic 121) 3 29 := ⟨by decide +kernel, rfl⟩
theorem dX10_part_29 : dj cX10_part 29 (.ifCond .ne) 32 38 := ⟨9, by decide +kernel, rfl, rfl⟩
theorem dX10_part_32 : di cX10_part 32 (.aload_n 0) 1 33 := ⟨by decide +kernel, rfl⟩
theorem dX10_part_33 : di cX10_part 33 (.iconst 1) 1 34 := ⟨by decide +kernel, rfl⟩
theorem dX10_part_34 : di cX10_part 34 (.invokevirtual 100) 3 37 := ⟨by decide +kernel, rfl⟩
theorem dX10_part_37 : di cX10_part 37 (.ireturn) 1 38 := ⟨by decide +kernel, rfl⟩
theorem dX10_part_38 : di cX10_part 38 (.aload_n 0) 1 39 := ⟨by decide +kernel, rfl⟩
theorem dX10_part_39 : di cX10_part 39 (.getfield 32) 3 42 := ⟨by decide +kernel, rfl⟩
theorem dX10_part_42 : di cX10_part 42 (.iload_n 1) 1 43 := ⟨by decide +kernel, rfl⟩
theorem dX10_part_43 : di cX10_part 43 (.iload_n 2) 1 44 := ⟨by decide +kernel, rfl⟩
theorem dX10_part_44 : di cX10_part 44 (.invokevirtual 173) 3 47 := ⟨by decide +kernel, rfl⟩
theorem dX10_part_47 : di cX10_part 47 (.iconst (-1)) 1 48 := ⟨by decide +kernel, rfl⟩
theorem dX10_part_48 : dj cX10_part 48 (.if_icmp .ne) 51 63 := ⟨15, by decide +kernel, rfl, rfl⟩
theorem dX10_part_51 : di cX10_part 51 (.aload_n 0) 1 52 := ⟨by decide +kernel, rfl⟩
theorem dX10_part_52 : di cX10_part 52 (.getfield 41) 3 55 := ⟨by decide +kernel, rfl⟩
theorem dX10_part_55 : di cX10_part 55 (.iload_n 1) 1 56 := ⟨by decide +kernel, rfl⟩
theorem dX10_part_56 : di cX10_part 56 (.invokevirtual 176) 3 59 := ⟨by decide +kernel, rfl⟩
theorem dX10_part_59 : di cX10_part 59 (.iconst (-1)) 1 60 := ⟨by decide +kernel, rfl⟩
theorem dX10_part_60 : dj cX10_part 60 (.if_icmp .eq) 63 69 := ⟨9, by decide +kernel, rfl, rfl⟩
theorem dX10_part_63 : di cX10_part 63 (.aload_n 0) 1 64 := ⟨by decide +kernel, rfl⟩
theorem dX10_part_64 : di cX10_part 64 (.iconst 3) 1 65 := ⟨by decide +kernel, rfl⟩
theorem dX10_part_65 : di cX10_part 65 (.invokevirtual 100) 3 68 := ⟨by decide +kernel, rfl⟩
theorem dX10_part_68 : di cX10_part 68 (.ireturn) 1 69 := ⟨by decide +kernel, rfl⟩
theorem dX10_part_69 : di cX10_part 69 (.aload_n 0) 1 70 := ⟨by decide +kernel, rfl⟩
theorem dX10_part_70 : di cX10_part 70 (.getfield 32) 3 73 := ⟨by decide +kernel, rfl⟩
theorem dX10_part_73 : di cX10_part 73 (.iload_n 1) 1 74 := ⟨by decide +kernel, rfl⟩
theorem dX10_part_74 : di cX10_part 74 (.invokevirtual 179) 3 77 := ⟨by decide +kernel, rfl⟩
theorem dX10_part_77 : dj cX10_part 77 (.ifCond .eq) 80 86 := ⟨9, by decide +kernel, rfl, rfl⟩
theorem dX10_part_80 : di cX10_part 80 (.aload_n 0) 1 81 := ⟨by decide +kernel, rfl⟩
theorem dX10_part_81 : di cX10_part 81 (.iconst 4) 1 82 := ⟨by decide +kernel, rfl⟩
theorem dX10_part_82 : di cX10_part 82 (.invokevirtual 100) 3 85 := ⟨by decide +kernel, rfl⟩
theorem dX10_part_85 : di cX10_part 85 (.ireturn) 1 86 := ⟨by decide +kernel, rfl⟩
theorem dX10_part_86 : di cX10_part 86 (.aload_n 0) 1 87 := ⟨by decide +kernel, rfl⟩
theorem dX10_part_87 : di cX10_part 87 (.getfield 32) 3 90 := ⟨by decide +kernel, rfl⟩
theorem dX10_part_90 : di cX10_part 90 (.iload_n 1) 1 91 := ⟨by decide +kernel, rfl⟩
theorem dX10_part_91 : di cX10_part 91 (.iload_n 2) 1 92 := ⟨by decide +kernel, rfl⟩
theorem dX10_part_92 : di cX10_part 92 (.iload_n 3) 1 93 := ⟨by decide +kernel, rfl⟩
theorem dX10_part_93 : di cX10_part 93 (.invokevirtual 182) 3 96 := ⟨by decide +kernel, rfl⟩
theorem dX10_part_96 : di cX10_part 96 (.ireturn) 1 97 := ⟨by decide +kernel, rfl⟩
def f_X10_part (v1 : Int32) (v2 : Int32) (v3 : Int32) (M : Mem) : Option Ret := bE (f_X2_has v1 M) (fun r2 M1 => if r2 = 0 then (bE (f_X10_finding (1 : Int32) M1) (fun r4 M3 => some (r4, M3))) else (bE (f_X1_has v2 M1) (fun r6 M5 => if r6 = 0 then (bE (f_X10_finding (1 : Int32) M5) (fun r8 M7 => some (r8, M7))) else (bE (f_X10_isWithin v3 (1 : Int32) (9 : Int32) M5) (fun r10 M9 => if r10 = 0 then (bE (f_X10_finding (1 : Int32) M9) (fun r26 M25 => some (r26, M25))) else (bE (f_X2_placeOf v1 v2 M9) (fun r12 M11 => if r12 = (-1 : Int32) then (bE (f_X4_latestOf v1 M11) (fun r16 M15 => if r16 = (-1 : Int32) then (bE (f_X2_isFullOfParts v1 M15) (fun r18 M17 => if r18 = 0 then (bE (f_X2_addPart v1 v2 v3 M17) (fun r20 M19 => some (r20, M19))) else (bE (f_X10_finding (4 : Int32) M17) (fun r22 M21 => some (r22, M21))))) else (bE (f_X10_finding (3 : Int32) M15) (fun r24 M23 => some (r24, M23))))) else (bE (f_X10_finding (3 : Int32) M11) (fun r14 M13 => some (r14, M13))))))))))
set_option maxRecDepth 100000 in
theorem ok_X10_part {l : Launch} {g : Cx} {v1 : Int32} {v2 : Int32} {v3 : Int32} {M : Mem} {r : Int32} {Mr : Mem} (h : f_X10_part v1 v2 v3 M = some (r, Mr)) : CT l g yX10_part cX10_part 4 (some .int) 2 43 [.ref (g.1 0), .int v1, .int v2, .int v3] M (PI r Mr) := by
  refine CT_of (lv := [some (.ref (g.1 0)), some (.int v1), some (.int v2), some (.int v3)]) (by decide) rfl (Nat.le_of_ble_eq_true rfl) ?_
  unfold f_X10_part at h
  refine A_aload_n dX10_part_0 rfl ?_
  refine A_getf dX10_part_1 fw_X10_32 ob0 rfl ?_
  refine A_iload_n dX10_part_4 rfl ?_
  obtain ⟨r2, M1, h1, h⟩ := bE_go h
  refine A_cVi1 dX10_part_5 ml_X10_172 mb_X2_has mi_X2_has ob3 rfl rfl ⟨Nat.le_of_ble_eq_true rfl, Nat.le_of_ble_eq_true rfl⟩ (Nat.le_of_ble_eq_true rfl) (ok_X2_has h1) ?_
  refine A_if_eq dX10_part_8 (fun hc => ?_) (fun hc => ?_)
  · have h := gT_go hc h
    refine A_aload_n dX10_part_32 rfl ?_
    refine A_iconst (v := 1) dX10_part_33 (by decide) ?_
    obtain ⟨r4, M3, h1, h⟩ := bE_go h
    refine A_cVi1 dX10_part_34 ml_X10_100 mb_X10_finding mi_X10_finding ob0 rfl rfl ⟨Nat.le_of_ble_eq_true rfl, Nat.le_of_ble_eq_true rfl⟩ (Nat.le_of_ble_eq_true rfl) (ok_X10_finding h1) ?_
    exact A_iret dX10_part_37 (pI_go h)
  · have h := gF_go hc h
    refine A_aload_n dX10_part_11 rfl ?_
    refine A_getf dX10_part_12 fw_X10_16 ob0 rfl ?_
    refine A_iload_n dX10_part_15 rfl ?_
    obtain ⟨r6, M5, h1, h⟩ := bE_go h
    refine A_cVi1 dX10_part_16 ml_X10_111 mb_X1_has mi_X1_has ob1 rfl rfl ⟨Nat.le_of_ble_eq_true rfl, Nat.le_of_ble_eq_true rfl⟩ (Nat.le_of_ble_eq_true rfl) (ok_X1_has h1) ?_
    refine A_if_eq dX10_part_19 (fun hc => ?_) (fun hc => ?_)
    · have h := gT_go hc h
      refine A_aload_n dX10_part_32 rfl ?_
      refine A_iconst (v := 1) dX10_part_33 (by decide) ?_
      obtain ⟨r8, M7, h1, h⟩ := bE_go h
      refine A_cVi1 dX10_part_34 ml_X10_100 mb_X10_finding mi_X10_finding ob0 rfl rfl ⟨Nat.le_of_ble_eq_true rfl, Nat.le_of_ble_eq_true rfl⟩ (Nat.le_of_ble_eq_true rfl) (ok_X10_finding h1) ?_
      exact A_iret dX10_part_37 (pI_go h)
    · have h := gF_go hc h
      refine A_iload_n dX10_part_22 rfl ?_
      refine A_iconst (v := 1) dX10_part_23 (by decide) ?_
      refine A_bipush (v := 9) dX10_part_24 (by decide) ?_
      obtain ⟨r10, M9, h1, h⟩ := bE_go h
      refine A_cSi3 dX10_part_26 ml_X10_121 mb_X10_isWithin ms_X10_isWithin ⟨Nat.le_of_ble_eq_true rfl, Nat.le_of_ble_eq_true rfl⟩ (Nat.le_of_ble_eq_true rfl) (ok_X10_isWithin h1) ?_
      refine A_if_ne dX10_part_29 (fun hc => ?_) (fun hc => ?_)
      · have h := gF_go hc h
        refine A_aload_n dX10_part_38 rfl ?_
        refine A_getf dX10_part_39 fw_X10_32 ob0 rfl ?_
        refine A_iload_n dX10_part_42 rfl ?_
        refine A_iload_n dX10_part_43 rfl ?_
        obtain ⟨r12, M11, h1, h⟩ := bE_go h
        refine A_cVi2 dX10_part_44 ml_X10_173 mb_X2_placeOf mi_X2_placeOf ob3 rfl rfl ⟨Nat.le_of_ble_eq_true rfl, Nat.le_of_ble_eq_true rfl⟩ (Nat.le_of_ble_eq_true rfl) (ok_X2_placeOf h1) ?_
        refine A_iconst (v := -1) dX10_part_47 (by decide) ?_
        refine A_icmp_ne dX10_part_48 (fun hc => ?_) (fun hc => ?_)
        · have h := gF_go hc h
          refine A_aload_n dX10_part_63 rfl ?_
          refine A_iconst (v := 3) dX10_part_64 (by decide) ?_
          obtain ⟨r14, M13, h1, h⟩ := bE_go h
          refine A_cVi1 dX10_part_65 ml_X10_100 mb_X10_finding mi_X10_finding ob0 rfl rfl ⟨Nat.le_of_ble_eq_true rfl, Nat.le_of_ble_eq_true rfl⟩ (Nat.le_of_ble_eq_true rfl) (ok_X10_finding h1) ?_
          exact A_iret dX10_part_68 (pI_go h)
        · have h := gT_go hc h
          refine A_aload_n dX10_part_51 rfl ?_
          refine A_getf dX10_part_52 fw_X10_41 ob0 rfl ?_
          refine A_iload_n dX10_part_55 rfl ?_
          obtain ⟨r16, M15, h1, h⟩ := bE_go h
          refine A_cVi1 dX10_part_56 ml_X10_176 mb_X4_latestOf mi_X4_latestOf ob4 rfl rfl ⟨Nat.le_of_ble_eq_true rfl, Nat.le_of_ble_eq_true rfl⟩ (Nat.le_of_ble_eq_true rfl) (ok_X4_latestOf h1) ?_
          refine A_iconst (v := -1) dX10_part_59 (by decide) ?_
          refine A_icmp_eq dX10_part_60 (fun hc => ?_) (fun hc => ?_)
          · have h := gT_go hc h
            refine A_aload_n dX10_part_69 rfl ?_
            refine A_getf dX10_part_70 fw_X10_32 ob0 rfl ?_
            refine A_iload_n dX10_part_73 rfl ?_
            obtain ⟨r18, M17, h1, h⟩ := bE_go h
            refine A_cVi1 dX10_part_74 ml_X10_179 mb_X2_isFullOfParts mi_X2_isFullOfParts ob3 rfl rfl ⟨Nat.le_of_ble_eq_true rfl, Nat.le_of_ble_eq_true rfl⟩ (Nat.le_of_ble_eq_true rfl) (ok_X2_isFullOfParts h1) ?_
            refine A_if_eq dX10_part_77 (fun hc => ?_) (fun hc => ?_)
            · have h := gT_go hc h
              refine A_aload_n dX10_part_86 rfl ?_
              refine A_getf dX10_part_87 fw_X10_32 ob0 rfl ?_
              refine A_iload_n dX10_part_90 rfl ?_
              refine A_iload_n dX10_part_91 rfl ?_
              refine A_iload_n dX10_part_92 rfl ?_
              obtain ⟨r20, M19, h1, h⟩ := bE_go h
              refine A_cVi3 dX10_part_93 ml_X10_182 mb_X2_addPart mi_X2_addPart ob3 rfl rfl ⟨Nat.le_of_ble_eq_true rfl, Nat.le_of_ble_eq_true rfl⟩ (Nat.le_of_ble_eq_true rfl) (ok_X2_addPart h1) ?_
              exact A_iret dX10_part_96 (pI_go h)
            · have h := gF_go hc h
              refine A_aload_n dX10_part_80 rfl ?_
              refine A_iconst (v := 4) dX10_part_81 (by decide) ?_
              obtain ⟨r22, M21, h1, h⟩ := bE_go h
              refine A_cVi1 dX10_part_82 ml_X10_100 mb_X10_finding mi_X10_finding ob0 rfl rfl ⟨Nat.le_of_ble_eq_true rfl, Nat.le_of_ble_eq_true rfl⟩ (Nat.le_of_ble_eq_true rfl) (ok_X10_finding h1) ?_
              exact A_iret dX10_part_85 (pI_go h)
          · have h := gF_go hc h
            refine A_aload_n dX10_part_63 rfl ?_
            refine A_iconst (v := 3) dX10_part_64 (by decide) ?_
            obtain ⟨r24, M23, h1, h⟩ := bE_go h
            refine A_cVi1 dX10_part_65 ml_X10_100 mb_X10_finding mi_X10_finding ob0 rfl rfl ⟨Nat.le_of_ble_eq_true rfl, Nat.le_of_ble_eq_true rfl⟩ (Nat.le_of_ble_eq_true rfl) (ok_X10_finding h1) ?_
            exact A_iret dX10_part_68 (pI_go h)
      · have h := gT_go hc h
        refine A_aload_n dX10_part_32 rfl ?_
        refine A_iconst (v := 1) dX10_part_33 (by decide) ?_
        obtain ⟨r26, M25, h1, h⟩ := bE_go h
        refine A_cVi1 dX10_part_34 ml_X10_100 mb_X10_finding mi_X10_finding ob0 rfl rfl ⟨Nat.le_of_ble_eq_true rfl, Nat.le_of_ble_eq_true rfl⟩ (Nat.le_of_ble_eq_true rfl) (ok_X10_finding h1) ?_
        exact A_iret dX10_part_37 (pI_go h)
-- BenchTimes.newRate
theorem dX10_newRate_0 : di cX10_newRate 0 (.aload_n 0) 1 1 := ⟨by decide +kernel, rfl⟩
theorem dX10_newRate_1 : di cX10_newRate 1 (.getfield 41) 3 4 := ⟨by decide +kernel, rfl⟩
theorem dX10_newRate_4 : di cX10_newRate 4 (.iload_n 1) 1 5 := ⟨by decide +kernel, rfl⟩
theorem dX10_newRate_5 : di cX10_newRate 5 (.invokevirtual 311) 3 8 := ⟨by decide +kernel, rfl⟩
theorem dX10_newRate_8 : dj cX10_newRate 8 (.ifCond .ne) 11 17 := ⟨9, by decide +kernel, rfl, rfl⟩
theorem dX10_newRate_11 : di cX10_newRate 11 (.aload_n 0) 1 12 := ⟨by decide +kernel, rfl⟩
theorem dX10_newRate_12 : di cX10_newRate 12 (.iconst 2) 1 13 := ⟨by decide +kernel, rfl⟩
theorem dX10_newRate_13 : di cX10_newRate 13 (.invokevirtual 100) 3 16 := ⟨by decide +kernel, rfl⟩
theorem dX10_newRate_16 : di cX10_newRate 16 (.ireturn) 1 17 := ⟨by decide +kernel, rfl⟩
theorem dX10_newRate_17 : di cX10_newRate 17 (.aload_n 0) 1 18 := ⟨by decide +kernel, rfl⟩
theorem dX10_newRate_18 : di cX10_newRate 18 (.getfield 41) 3 21 := ⟨by decide +kernel, rfl⟩
theorem dX10_newRate_21 : di cX10_newRate 21 (.invokevirtual 314) 3 24 := ⟨by decide +kernel, rfl⟩
theorem dX10_newRate_24 : dj cX10_newRate 24 (.ifCond .eq) 27 33 := ⟨9, by decide +kernel, rfl, rfl⟩
theorem dX10_newRate_27 : di cX10_newRate 27 (.aload_n 0) 1 28 := ⟨by decide +kernel, rfl⟩
theorem dX10_newRate_28 : di cX10_newRate 28 (.iconst 4) 1 29 := ⟨by decide +kernel, rfl⟩
theorem dX10_newRate_29 : di cX10_newRate 29 (.invokevirtual 100) 3 32 := ⟨by decide +kernel, rfl⟩
theorem dX10_newRate_32 : di cX10_newRate 32 (.ireturn) 1 33 := ⟨by decide +kernel, rfl⟩
theorem dX10_newRate_33 : di cX10_newRate 33 (.aload_n 0) 1 34 := ⟨by decide +kernel, rfl⟩
theorem dX10_newRate_34 : di cX10_newRate 34 (.getfield 41) 3 37 := ⟨by decide +kernel, rfl⟩
theorem dX10_newRate_37 : di cX10_newRate 37 (.iload_n 1) 1 38 := ⟨by decide +kernel, rfl⟩
theorem dX10_newRate_38 : di cX10_newRate 38 (.iload_n 2) 1 39 := ⟨by decide +kernel, rfl⟩
theorem dX10_newRate_39 : di cX10_newRate 39 (.invokevirtual 315) 3 42 := ⟨by decide +kernel, rfl⟩
theorem dX10_newRate_42 : di cX10_newRate 42 (.ireturn) 1 43 := ⟨by decide +kernel, rfl⟩
def f_X10_newRate (v1 : Int32) (v2 : Int32) (M : Mem) : Option Ret := bE (f_X4_canMake v1 M) (fun r2 M1 => if r2 = 0 then (bE (f_X10_finding (2 : Int32) M1) (fun r10 M9 => some (r10, M9))) else (bE (f_X4_isFull M1) (fun r4 M3 => if r4 = 0 then (bE (f_X4_make v1 v2 M3) (fun r6 M5 => some (r6, M5))) else (bE (f_X10_finding (4 : Int32) M3) (fun r8 M7 => some (r8, M7))))))
set_option maxRecDepth 100000 in
theorem ok_X10_newRate {l : Launch} {g : Cx} {v1 : Int32} {v2 : Int32} {M : Mem} {r : Int32} {Mr : Mem} (h : f_X10_newRate v1 v2 M = some (r, Mr)) : CT l g yX10_newRate cX10_newRate 3 (some .int) 5 113 [.ref (g.1 0), .int v1, .int v2] M (PI r Mr) := by
  refine CT_of (lv := [some (.ref (g.1 0)), some (.int v1), some (.int v2)]) (by decide) rfl (Nat.le_of_ble_eq_true rfl) ?_
  unfold f_X10_newRate at h
  refine A_aload_n dX10_newRate_0 rfl ?_
  refine A_getf dX10_newRate_1 fw_X10_41 ob0 rfl ?_
  refine A_iload_n dX10_newRate_4 rfl ?_
  obtain ⟨r2, M1, h1, h⟩ := bE_go h
  refine A_cVi1 dX10_newRate_5 ml_X10_311 mb_X4_canMake mi_X4_canMake ob4 rfl rfl ⟨Nat.le_of_ble_eq_true rfl, Nat.le_of_ble_eq_true rfl⟩ (Nat.le_of_ble_eq_true rfl) (ok_X4_canMake h1) ?_
  refine A_if_ne dX10_newRate_8 (fun hc => ?_) (fun hc => ?_)
  · have h := gF_go hc h
    refine A_aload_n dX10_newRate_17 rfl ?_
    refine A_getf dX10_newRate_18 fw_X10_41 ob0 rfl ?_
    obtain ⟨r4, M3, h1, h⟩ := bE_go h
    refine A_cVi0 dX10_newRate_21 ml_X10_314 mb_X4_isFull mi_X4_isFull ob4 rfl rfl ⟨Nat.le_of_ble_eq_true rfl, Nat.le_of_ble_eq_true rfl⟩ (Nat.le_of_ble_eq_true rfl) (ok_X4_isFull h1) ?_
    refine A_if_eq dX10_newRate_24 (fun hc => ?_) (fun hc => ?_)
    · have h := gT_go hc h
      refine A_aload_n dX10_newRate_33 rfl ?_
      refine A_getf dX10_newRate_34 fw_X10_41 ob0 rfl ?_
      refine A_iload_n dX10_newRate_37 rfl ?_
      refine A_iload_n dX10_newRate_38 rfl ?_
      obtain ⟨r6, M5, h1, h⟩ := bE_go h
      refine A_cVi2 dX10_newRate_39 ml_X10_315 mb_X4_make mi_X4_make ob4 rfl rfl ⟨Nat.le_of_ble_eq_true rfl, Nat.le_of_ble_eq_true rfl⟩ (Nat.le_of_ble_eq_true rfl) (ok_X4_make h1) ?_
      exact A_iret dX10_newRate_42 (pI_go h)
    · have h := gF_go hc h
      refine A_aload_n dX10_newRate_27 rfl ?_
      refine A_iconst (v := 4) dX10_newRate_28 (by decide) ?_
      obtain ⟨r8, M7, h1, h⟩ := bE_go h
      refine A_cVi1 dX10_newRate_29 ml_X10_100 mb_X10_finding mi_X10_finding ob0 rfl rfl ⟨Nat.le_of_ble_eq_true rfl, Nat.le_of_ble_eq_true rfl⟩ (Nat.le_of_ble_eq_true rfl) (ok_X10_finding h1) ?_
      exact A_iret dX10_newRate_32 (pI_go h)
  · have h := gT_go hc h
    refine A_aload_n dX10_newRate_11 rfl ?_
    refine A_iconst (v := 2) dX10_newRate_12 (by decide) ?_
    obtain ⟨r10, M9, h1, h⟩ := bE_go h
    refine A_cVi1 dX10_newRate_13 ml_X10_100 mb_X10_finding mi_X10_finding ob0 rfl rfl ⟨Nat.le_of_ble_eq_true rfl, Nat.le_of_ble_eq_true rfl⟩ (Nat.le_of_ble_eq_true rfl) (ok_X10_finding h1) ?_
    exact A_iret dX10_newRate_16 (pI_go h)
-- BenchTimes.set
theorem dX10_set_0 : di cX10_set 0 (.aload_n 0) 1 1 := ⟨by decide +kernel, rfl⟩
theorem dX10_set_1 : di cX10_set 1 (.getfield 32) 3 4 := ⟨by decide +kernel, rfl⟩
theorem dX10_set_4 : di cX10_set 4 (.iload_n 1) 1 5 := ⟨by decide +kernel, rfl⟩
theorem dX10_set_5 : di cX10_set 5 (.invokevirtual 172) 3 8 := ⟨by decide +kernel, rfl⟩
theorem dX10_set_8 : dj cX10_set 8 (.ifCond .ne) 11 17 := ⟨9, by decide +kernel, rfl, rfl⟩
theorem dX10_set_11 : di cX10_set 11 (.aload_n 0) 1 12 := ⟨by decide +kernel, rfl⟩
theorem dX10_set_12 : di cX10_set 12 (.iconst 1) 1 13 := ⟨by decide +kernel, rfl⟩
theorem dX10_set_13 : di cX10_set 13 (.invokevirtual 100) 3 16 := ⟨by decide +kernel, rfl⟩
theorem dX10_set_16 : di cX10_set 16 (.ireturn) 1 17 := ⟨by decide +kernel, rfl⟩
theorem dX10_set_17 : di cX10_set 17 (.aload_n 0) 1 18 := ⟨by decide +kernel, rfl⟩
theorem dX10_set_18 : di cX10_set 18 (.getfield 41) 3 21 := ⟨by decide +kernel, rfl⟩
theorem dX10_set_21 : di cX10_set 21 (.iload_n 1) 1 22 := ⟨by decide +kernel, rfl⟩
theorem dX10_set_22 : di cX10_set 22 (.invokevirtual 176) 3 25 := ⟨by decide +kernel, rfl⟩
theorem dX10_set_25 : di cX10_set 25 (.iconst (-1)) 1 26 := ⟨by decide +kernel, rfl⟩
theorem dX10_set_26 : dj cX10_set 26 (.if_icmp .ne) 29 40 := ⟨14, by decide +kernel, rfl, rfl⟩
theorem dX10_set_29 : di cX10_set 29 (.aload_n 0) 1 30 := ⟨by decide +kernel, rfl⟩
theorem dX10_set_30 : di cX10_set 30 (.getfield 32) 3 33 := ⟨by decide +kernel, rfl⟩
theorem dX10_set_33 : di cX10_set 33 (.iload_n 1) 1 34 := ⟨by decide +kernel, rfl⟩
theorem dX10_set_34 : di cX10_set 34 (.invokevirtual 186) 3 37 := ⟨by decide +kernel, rfl⟩
theorem dX10_set_37 : dj cX10_set 37 (.ifCond .ne) 40 46 := ⟨9, by decide +kernel, rfl, rfl⟩
theorem dX10_set_40 : di cX10_set 40 (.aload_n 0) 1 41 := ⟨by decide +kernel, rfl⟩
theorem dX10_set_41 : di cX10_set 41 (.iconst 3) 1 42 := ⟨by decide +kernel, rfl⟩
theorem dX10_set_42 : di cX10_set 42 (.invokevirtual 100) 3 45 := ⟨by decide +kernel, rfl⟩
theorem dX10_set_45 : di cX10_set 45 (.ireturn) 1 46 := ⟨by decide +kernel, rfl⟩
theorem dX10_set_46 : di cX10_set 46 (.aload_n 0) 1 47 := ⟨by decide +kernel, rfl⟩
theorem dX10_set_47 : di cX10_set 47 (.iload_n 1) 1 48 := ⟨by decide +kernel, rfl⟩
theorem dX10_set_48 : di cX10_set 48 (.aload_n 0) 1 49 := ⟨by decide +kernel, rfl⟩
theorem dX10_set_49 : di cX10_set 49 (.getfield 189) 3 52 := ⟨by decide +kernel, rfl⟩
theorem dX10_set_52 : di cX10_set 52 (.invokevirtual 193) 3 55 := ⟨by decide +kernel, rfl⟩
theorem dX10_set_55 : di cX10_set 55 (.ireturn) 1 56 := ⟨by decide +kernel, rfl⟩
def f_X10_set (v1 : Int32) (M : Mem) : Option Ret := bE (f_X2_has v1 M) (fun r2 M1 => if r2 = 0 then (bE (f_X10_finding (1 : Int32) M1) (fun r14 M13 => some (r14, M13))) else (bE (f_X4_latestOf v1 M1) (fun r4 M3 => if r4 = (-1 : Int32) then (bE (f_X2_partMany v1 M3) (fun r8 M7 => if r8 = 0 then (bE (f_X10_finding (3 : Int32) M7) (fun r12 M11 => some (r12, M11))) else (bE (f_X10_newRate v1 (M7.1 0 13) M7) (fun r10 M9 => some (r10, M9))))) else (bE (f_X10_finding (3 : Int32) M3) (fun r6 M5 => some (r6, M5))))))
set_option maxRecDepth 100000 in
theorem ok_X10_set {l : Launch} {g : Cx} {v1 : Int32} {M : Mem} {r : Int32} {Mr : Mem} (h : f_X10_set v1 M = some (r, Mr)) : CT l g yX10_set cX10_set 2 (some .int) 6 135 [.ref (g.1 0), .int v1] M (PI r Mr) := by
  refine CT_of (lv := [some (.ref (g.1 0)), some (.int v1)]) (by decide) rfl (Nat.le_of_ble_eq_true rfl) ?_
  unfold f_X10_set at h
  refine A_aload_n dX10_set_0 rfl ?_
  refine A_getf dX10_set_1 fw_X10_32 ob0 rfl ?_
  refine A_iload_n dX10_set_4 rfl ?_
  obtain ⟨r2, M1, h1, h⟩ := bE_go h
  refine A_cVi1 dX10_set_5 ml_X10_172 mb_X2_has mi_X2_has ob3 rfl rfl ⟨Nat.le_of_ble_eq_true rfl, Nat.le_of_ble_eq_true rfl⟩ (Nat.le_of_ble_eq_true rfl) (ok_X2_has h1) ?_
  refine A_if_ne dX10_set_8 (fun hc => ?_) (fun hc => ?_)
  · have h := gF_go hc h
    refine A_aload_n dX10_set_17 rfl ?_
    refine A_getf dX10_set_18 fw_X10_41 ob0 rfl ?_
    refine A_iload_n dX10_set_21 rfl ?_
    obtain ⟨r4, M3, h1, h⟩ := bE_go h
    refine A_cVi1 dX10_set_22 ml_X10_176 mb_X4_latestOf mi_X4_latestOf ob4 rfl rfl ⟨Nat.le_of_ble_eq_true rfl, Nat.le_of_ble_eq_true rfl⟩ (Nat.le_of_ble_eq_true rfl) (ok_X4_latestOf h1) ?_
    refine A_iconst (v := -1) dX10_set_25 (by decide) ?_
    refine A_icmp_ne dX10_set_26 (fun hc => ?_) (fun hc => ?_)
    · have h := gF_go hc h
      refine A_aload_n dX10_set_40 rfl ?_
      refine A_iconst (v := 3) dX10_set_41 (by decide) ?_
      obtain ⟨r6, M5, h1, h⟩ := bE_go h
      refine A_cVi1 dX10_set_42 ml_X10_100 mb_X10_finding mi_X10_finding ob0 rfl rfl ⟨Nat.le_of_ble_eq_true rfl, Nat.le_of_ble_eq_true rfl⟩ (Nat.le_of_ble_eq_true rfl) (ok_X10_finding h1) ?_
      exact A_iret dX10_set_45 (pI_go h)
    · have h := gT_go hc h
      refine A_aload_n dX10_set_29 rfl ?_
      refine A_getf dX10_set_30 fw_X10_32 ob0 rfl ?_
      refine A_iload_n dX10_set_33 rfl ?_
      obtain ⟨r8, M7, h1, h⟩ := bE_go h
      refine A_cVi1 dX10_set_34 ml_X10_186 mb_X2_partMany mi_X2_partMany ob3 rfl rfl ⟨Nat.le_of_ble_eq_true rfl, Nat.le_of_ble_eq_true rfl⟩ (Nat.le_of_ble_eq_true rfl) (ok_X2_partMany h1) ?_
      refine A_if_ne dX10_set_37 (fun hc => ?_) (fun hc => ?_)
      · have h := gF_go hc h
        refine A_aload_n dX10_set_46 rfl ?_
        refine A_iload_n dX10_set_47 rfl ?_
        refine A_aload_n dX10_set_48 rfl ?_
        refine A_getf dX10_set_49 fw_X10_189 ob0 rfl ?_
        obtain ⟨r10, M9, h1, h⟩ := bE_go h
        refine A_cVi2 dX10_set_52 ml_X10_193 mb_X10_newRate mi_X10_newRate ob0 rfl rfl ⟨Nat.le_of_ble_eq_true rfl, Nat.le_of_ble_eq_true rfl⟩ (Nat.le_of_ble_eq_true rfl) (ok_X10_newRate h1) ?_
        exact A_iret dX10_set_55 (pI_go h)
      · have h := gT_go hc h
        refine A_aload_n dX10_set_40 rfl ?_
        refine A_iconst (v := 3) dX10_set_41 (by decide) ?_
        obtain ⟨r12, M11, h1, h⟩ := bE_go h
        refine A_cVi1 dX10_set_42 ml_X10_100 mb_X10_finding mi_X10_finding ob0 rfl rfl ⟨Nat.le_of_ble_eq_true rfl, Nat.le_of_ble_eq_true rfl⟩ (Nat.le_of_ble_eq_true rfl) (ok_X10_finding h1) ?_
        exact A_iret dX10_set_45 (pI_go h)
  · have h := gT_go hc h
    refine A_aload_n dX10_set_11 rfl ?_
    refine A_iconst (v := 1) dX10_set_12 (by decide) ?_
    obtain ⟨r14, M13, h1, h⟩ := bE_go h
    refine A_cVi1 dX10_set_13 ml_X10_100 mb_X10_finding mi_X10_finding ob0 rfl rfl ⟨Nat.le_of_ble_eq_true rfl, Nat.le_of_ble_eq_true rfl⟩ (Nat.le_of_ble_eq_true rfl) (ok_X10_finding h1) ?_
    exact A_iret dX10_set_16 (pI_go h)
-- BenchTimes.change
theorem dX10_change_0 : di cX10_change 0 (.aload_n 0) 1 1 := ⟨by decide +kernel, rfl⟩
theorem dX10_change_1 : di cX10_change 1 (.getfield 16) 3 4 := ⟨by decide +kernel, rfl⟩
theorem dX10_change_4 : di cX10_change 4 (.iload_n 1) 1 5 := ⟨by decide +kernel, rfl⟩
theorem dX10_change_5 : di cX10_change 5 (.invokevirtual 111) 3 8 := ⟨by decide +kernel, rfl⟩
theorem dX10_change_8 : dj cX10_change 8 (.ifCond .ne) 11 17 := ⟨9, by decide +kernel, rfl, rfl⟩
theorem dX10_change_11 : di cX10_change 11 (.aload_n 0) 1 12 := ⟨by decide +kernel, rfl⟩
theorem dX10_change_12 : di cX10_change 12 (.iconst 1) 1 13 := ⟨by decide +kernel, rfl⟩
theorem dX10_change_13 : di cX10_change 13 (.invokevirtual 100) 3 16 := ⟨by decide +kernel, rfl⟩
theorem dX10_change_16 : di cX10_change 16 (.ireturn) 1 17 := ⟨by decide +kernel, rfl⟩
theorem dX10_change_17 : di cX10_change 17 (.iconst 0) 1 18 := ⟨by decide +kernel, rfl⟩
theorem dX10_change_18 : di cX10_change 18 (.istore_n 2) 1 19 := ⟨by decide +kernel, rfl⟩
theorem dX10_change_19 : di cX10_change 19 (.iconst 0) 1 20 := ⟨by decide +kernel, rfl⟩
theorem dX10_change_20 : di cX10_change 20 (.istore_n 3) 1 21 := ⟨by decide +kernel, rfl⟩
theorem dX10_change_21 : di cX10_change 21 (.iload_n 3) 1 22 := ⟨by decide +kernel, rfl⟩
theorem dX10_change_22 : di cX10_change 22 (.aload_n 0) 1 23 := ⟨by decide +kernel, rfl⟩
theorem dX10_change_23 : di cX10_change 23 (.getfield 32) 3 26 := ⟨by decide +kernel, rfl⟩
theorem dX10_change_26 : di cX10_change 26 (.invokevirtual 196) 3 29 := ⟨by decide +kernel, rfl⟩
theorem dX10_change_29 : dj cX10_change 29 (.if_icmp .ge) 32 80 := ⟨51, by decide +kernel, rfl, rfl⟩
theorem dX10_change_32 : di cX10_change 32 (.aload_n 0) 1 33 := ⟨by decide +kernel, rfl⟩
theorem dX10_change_33 : di cX10_change 33 (.getfield 32) 3 36 := ⟨by decide +kernel, rfl⟩
theorem dX10_change_36 : di cX10_change 36 (.iload_n 3) 1 37 := ⟨by decide +kernel, rfl⟩
theorem dX10_change_37 : di cX10_change 37 (.iload_n 1) 1 38 := ⟨by decide +kernel, rfl⟩
theorem dX10_change_38 : di cX10_change 38 (.invokevirtual 173) 3 41 := ⟨by decide +kernel, rfl⟩
theorem dX10_change_41 : di cX10_change 41 (.istore 4) 2 43 := ⟨by decide +kernel, rfl⟩
theorem dX10_change_43 : di cX10_change 43 (.iload 4) 2 45 := ⟨by decide +kernel, rfl⟩
theorem dX10_change_45 : di cX10_change 45 (.iconst (-1)) 1 46 := ⟨by decide +kernel, rfl⟩
theorem dX10_change_46 : dj cX10_change 46 (.if_icmp .eq) 49 74 := ⟨28, by decide +kernel, rfl, rfl⟩
theorem dX10_change_49 : di cX10_change 49 (.aload_n 0) 1 50 := ⟨by decide +kernel, rfl⟩
theorem dX10_change_50 : di cX10_change 50 (.getfield 41) 3 53 := ⟨by decide +kernel, rfl⟩
theorem dX10_change_53 : di cX10_change 53 (.iload_n 3) 1 54 := ⟨by decide +kernel, rfl⟩
theorem dX10_change_54 : di cX10_change 54 (.invokevirtual 176) 3 57 := ⟨by decide +kernel, rfl⟩
theorem dX10_change_57 : di cX10_change 57 (.iconst (-1)) 1 58 := ⟨by decide +kernel, rfl⟩
theorem dX10_change_58 : dj cX10_change 58 (.if_icmp .eq) 61 74 := ⟨16, by decide +kernel, rfl, rfl⟩
theorem dX10_change_61 : di cX10_change 61 (.aload_n 0) 1 62 := ⟨by decide +kernel, rfl⟩
theorem dX10_change_62 : di cX10_change 62 (.getfield 32) 3 65 := ⟨by decide +kernel, rfl⟩
theorem dX10_change_65 : di cX10_change 65 (.iload_n 3) 1 66 := ⟨by decide +kernel, rfl⟩
theorem dX10_change_66 : di cX10_change 66 (.iload 4) 2 68 := ⟨by decide +kernel, rfl⟩
theorem dX10_change_68 : di cX10_change 68 (.invokevirtual 199) 3 71 := ⟨by decide +kernel, rfl⟩
theorem dX10_change_71 : di cX10_change 71 (.iinc 2 1) 3 74 := ⟨by decide +kernel, rfl⟩
theorem dX10_change_74 : di cX10_change 74 (.iinc 3 1) 3 77 := ⟨by decide +kernel, rfl⟩
theorem dX10_change_77 : dj cX10_change 77 .goto 80 21 := ⟨-56, by decide +kernel, rfl, rfl⟩
theorem dX10_change_80 : di cX10_change 80 (.iload_n 2) 1 81 := ⟨by decide +kernel, rfl⟩
theorem dX10_change_81 : di cX10_change 81 (.ireturn) 1 82 := ⟨by decide +kernel, rfl⟩
def f_X10_change_L21 (v1 : Int32) : Nat → Int32 → Int32 → Mem → (Int32 → Int32 → Mem → Option Ret) → Option Ret
  | 0, _, _, _, _ => none
  | k21 + 1, v2, v3, M, K21 => bE (f_X2_many M) (fun r4 M3 => if r4 ≤ v3 then (K21 v2 v3 M3) else (bE (f_X2_placeOf v3 v1 M3) (fun r6 M5 => jn (α := Int32 → Mem → Option Ret) (fun (y8 : Int32) (M9 : Mem) => f_X10_change_L21 v1 k21 y8 (v3 + (1 : Int32)) M9 K21) (fun J7 => if r6 = (-1 : Int32) then (J7 v2 M5) else (bE (f_X4_latestOf v3 M5) (fun r11 M10 => if r11 = (-1 : Int32) then (J7 v2 M10) else (bE (f_X2_mark v3 r6 M10) (fun r13 M12 => J7 (v2 + (1 : Int32)) M12))))))))
set_option maxRecDepth 100000 in
theorem f_X10_change_L21_ok {l : Launch} {g : Cx} (v1 : Int32)  {r : Int32} {Mr : Mem} : ∀ (k : Nat) (v2 : Int32) (v3 : Int32) (M : Mem) (K21 : Int32 → Int32 → Mem → Option Ret), f_X10_change_L21 v1 k v2 v3 M K21 = some (r, Mr) → (∀ (v2 : Int32) (v3 : Int32) (M : Mem), K21 v2 v3 M = some (r, Mr) → AT l g RX10 cX10_change 5 (some .int) (rmM 2 43) (PI r Mr) 80 [some (.ref (g.1 0)), some (.int v1), some (.int v2), some (.int v3), none] [] M) → AT l g RX10 cX10_change 5 (some .int) (rmM 2 43) (PI r Mr) 21 [some (.ref (g.1 0)), some (.int v1), some (.int v2), some (.int v3), none] [] M
  | 0, v2, v3, M, K21, h, hK21 => by cases h
  | k21 + 1, v2, v3, M, K21, h, hK21 => by
    have ih21 := f_X10_change_L21_ok (l := l) (g := g) v1 (r := r) (Mr := Mr) k21
    rw [f_X10_change_L21] at h
    refine A_iload_n dX10_change_21 rfl ?_
    refine A_aload_n dX10_change_22 rfl ?_
    refine A_getf dX10_change_23 fw_X10_32 ob0 rfl ?_
    obtain ⟨r4, M3, h1, h⟩ := bE_go h
    refine A_cVi0 dX10_change_26 ml_X10_196 mb_X2_many mi_X2_many ob3 rfl rfl ⟨Nat.le_of_ble_eq_true rfl, Nat.le_of_ble_eq_true rfl⟩ (Nat.le_of_ble_eq_true rfl) (ok_X2_many h1) ?_
    refine A_icmp_ge dX10_change_29 (fun hc => ?_) (fun hc => ?_)
    · have h := gT_go hc h
      exact A_le (lvLe_s (lvLe_s (lvLe_s (lvLe_s (lvLe_n lvLe_0))))) (hK21 _ _ _ h)
    · have h := gF_go hc h
      refine A_aload_n dX10_change_32 rfl ?_
      refine A_getf dX10_change_33 fw_X10_32 ob0 rfl ?_
      refine A_iload_n dX10_change_36 rfl ?_
      refine A_iload_n dX10_change_37 rfl ?_
      obtain ⟨r6, M5, h1, h⟩ := bE_go h
      refine A_cVi2 dX10_change_38 ml_X10_173 mb_X2_placeOf mi_X2_placeOf ob3 rfl rfl ⟨Nat.le_of_ble_eq_true rfl, Nat.le_of_ble_eq_true rfl⟩ (Nat.le_of_ble_eq_true rfl) (ok_X2_placeOf h1) ?_
      refine A_istore4 dX10_change_41 (by decide) rfl ?_
      refine A_iload dX10_change_43 rfl ?_
      refine A_iconst (v := -1) dX10_change_45 (by decide) ?_
      obtain ⟨J7, hJ7, h⟩ := jn_go h
      have JJ7 : ∀ (y8 : Int32) (M9 : Mem), J7 y8 M9 = some (r, Mr) → AT l g RX10 cX10_change 5 (some .int) (rmM 2 43) (PI r Mr) 74 [some (.ref (g.1 0)), some (.int v1), some (.int y8), some (.int v3), some (.int r6)] [] M9 := by
        intro y8 M9 h
        rw [hJ7] at h
        refine A_iinc3 (d := 1) dX10_change_74 (by decide) (by decide) rfl ?_
        refine A_goto dX10_change_77 ?_
        exact A_le (lvLe_s (lvLe_s (lvLe_s (lvLe_s (lvLe_n lvLe_0))))) (ih21 _ _ _ K21 h hK21)
      refine A_icmp_eq dX10_change_46 (fun hc => ?_) (fun hc => ?_)
      · have h := gT_go hc h
        exact A_le (lvLe_s (lvLe_s (lvLe_s (lvLe_s (lvLe_s lvLe_0))))) (JJ7 _ _ h)
      · have h := gF_go hc h
        refine A_aload_n dX10_change_49 rfl ?_
        refine A_getf dX10_change_50 fw_X10_41 ob0 rfl ?_
        refine A_iload_n dX10_change_53 rfl ?_
        obtain ⟨r11, M10, h1, h⟩ := bE_go h
        refine A_cVi1 dX10_change_54 ml_X10_176 mb_X4_latestOf mi_X4_latestOf ob4 rfl rfl ⟨Nat.le_of_ble_eq_true rfl, Nat.le_of_ble_eq_true rfl⟩ (Nat.le_of_ble_eq_true rfl) (ok_X4_latestOf h1) ?_
        refine A_iconst (v := -1) dX10_change_57 (by decide) ?_
        refine A_icmp_eq dX10_change_58 (fun hc => ?_) (fun hc => ?_)
        · have h := gT_go hc h
          exact A_le (lvLe_s (lvLe_s (lvLe_s (lvLe_s (lvLe_s lvLe_0))))) (JJ7 _ _ h)
        · have h := gF_go hc h
          refine A_aload_n dX10_change_61 rfl ?_
          refine A_getf dX10_change_62 fw_X10_32 ob0 rfl ?_
          refine A_iload_n dX10_change_65 rfl ?_
          refine A_iload dX10_change_66 rfl ?_
          obtain ⟨r13, M12, h1, h⟩ := bE_go h
          refine A_cVv2 dX10_change_68 ml_X10_199 mb_X2_mark mi_X2_mark ob3 rfl rfl ⟨Nat.le_of_ble_eq_true rfl, Nat.le_of_ble_eq_true rfl⟩ (Nat.le_of_ble_eq_true rfl) (ok_X2_mark h1) ?_
          refine A_iinc2 (d := 1) dX10_change_71 (by decide) (by decide) rfl ?_
          exact A_le (lvLe_s (lvLe_s (lvLe_s (lvLe_s (lvLe_s lvLe_0))))) (JJ7 _ _ h)
def f_X10_change (v1 : Int32) (M : Mem) : Option Ret := bE (f_X1_has v1 M) (fun r2 M1 => if r2 = 0 then (bE (f_X10_finding (1 : Int32) M1) (fun r18 M17 => some (r18, M17))) else (f_X10_change_L21 v1 FU (0 : Int32) (0 : Int32) M1 (fun w14 w15 M16 => some (w14, M16))))
set_option maxRecDepth 100000 in
theorem ok_X10_change {l : Launch} {g : Cx} {v1 : Int32} {M : Mem} {r : Int32} {Mr : Mem} (h : f_X10_change v1 M = some (r, Mr)) : CT l g yX10_change cX10_change 5 (some .int) 2 43 [.ref (g.1 0), .int v1] M (PI r Mr) := by
  refine CT_of (lv := [some (.ref (g.1 0)), some (.int v1), none, none, none]) (by decide) rfl (Nat.le_of_ble_eq_true rfl) ?_
  unfold f_X10_change at h
  refine A_aload_n dX10_change_0 rfl ?_
  refine A_getf dX10_change_1 fw_X10_16 ob0 rfl ?_
  refine A_iload_n dX10_change_4 rfl ?_
  obtain ⟨r2, M1, h1, h⟩ := bE_go h
  refine A_cVi1 dX10_change_5 ml_X10_111 mb_X1_has mi_X1_has ob1 rfl rfl ⟨Nat.le_of_ble_eq_true rfl, Nat.le_of_ble_eq_true rfl⟩ (Nat.le_of_ble_eq_true rfl) (ok_X1_has h1) ?_
  refine A_if_ne dX10_change_8 (fun hc => ?_) (fun hc => ?_)
  · have h := gF_go hc h
    refine A_iconst (v := 0) dX10_change_17 (by decide) ?_
    refine A_istoren2 dX10_change_18 (by decide) rfl ?_
    refine A_iconst (v := 0) dX10_change_19 (by decide) ?_
    refine A_istoren3 dX10_change_20 (by decide) rfl ?_
    refine f_X10_change_L21_ok _ FU _ _ _ _ h (fun w14 w15 M16 h => ?_)
    refine A_iload_n dX10_change_80 rfl ?_
    exact A_iret dX10_change_81 (pI_go h)
  · have h := gT_go hc h
    refine A_aload_n dX10_change_11 rfl ?_
    refine A_iconst (v := 1) dX10_change_12 (by decide) ?_
    obtain ⟨r18, M17, h1, h⟩ := bE_go h
    refine A_cVi1 dX10_change_13 ml_X10_100 mb_X10_finding mi_X10_finding ob0 rfl rfl ⟨Nat.le_of_ble_eq_true rfl, Nat.le_of_ble_eq_true rfl⟩ (Nat.le_of_ble_eq_true rfl) (ok_X10_finding h1) ?_
    exact A_iret dX10_change_16 (pI_go h)
-- BenchTimes.move
theorem dX10_move_0 : di cX10_move 0 (.aload_n 0) 1 1 := ⟨by decide +kernel, rfl⟩
theorem dX10_move_1 : di cX10_move 1 (.getfield 32) 3 4 := ⟨by decide +kernel, rfl⟩
theorem dX10_move_4 : di cX10_move 4 (.iload_n 1) 1 5 := ⟨by decide +kernel, rfl⟩
theorem dX10_move_5 : di cX10_move 5 (.invokevirtual 172) 3 8 := ⟨by decide +kernel, rfl⟩
theorem dX10_move_8 : dj cX10_move 8 (.ifCond .ne) 11 17 := ⟨9, by decide +kernel, rfl, rfl⟩
theorem dX10_move_11 : di cX10_move 11 (.aload_n 0) 1 12 := ⟨by decide +kernel, rfl⟩
theorem dX10_move_12 : di cX10_move 12 (.iconst 1) 1 13 := ⟨by decide +kernel, rfl⟩
theorem dX10_move_13 : di cX10_move 13 (.invokevirtual 100) 3 16 := ⟨by decide +kernel, rfl⟩
theorem dX10_move_16 : di cX10_move 16 (.ireturn) 1 17 := ⟨by decide +kernel, rfl⟩
theorem dX10_move_17 : di cX10_move 17 (.aload_n 0) 1 18 := ⟨by decide +kernel, rfl⟩
theorem dX10_move_18 : di cX10_move 18 (.getfield 41) 3 21 := ⟨by decide +kernel, rfl⟩
theorem dX10_move_21 : di cX10_move 21 (.iload_n 1) 1 22 := ⟨by decide +kernel, rfl⟩
theorem dX10_move_22 : di cX10_move 22 (.invokevirtual 176) 3 25 := ⟨by decide +kernel, rfl⟩
theorem dX10_move_25 : di cX10_move 25 (.istore_n 2) 1 26 := ⟨by decide +kernel, rfl⟩
theorem dX10_move_26 : di cX10_move 26 (.iload_n 2) 1 27 := ⟨by decide +kernel, rfl⟩
theorem dX10_move_27 : di cX10_move 27 (.iconst (-1)) 1 28 := ⟨by decide +kernel, rfl⟩
theorem dX10_move_28 : dj cX10_move 28 (.if_icmp .eq) 31 50 := ⟨22, by decide +kernel, rfl, rfl⟩
theorem dX10_move_31 : di cX10_move 31 (.aload_n 0) 1 32 := ⟨by decide +kernel, rfl⟩
theorem dX10_move_32 : di cX10_move 32 (.getfield 41) 3 35 := ⟨by decide +kernel, rfl⟩
theorem dX10_move_35 : di cX10_move 35 (.iload_n 2) 1 36 := ⟨by decide +kernel, rfl⟩
theorem dX10_move_36 : di cX10_move 36 (.aload_n 0) 1 37 := ⟨by decide +kernel, rfl⟩
theorem dX10_move_37 : di cX10_move 37 (.getfield 48) 3 40 := ⟨by decide +kernel, rfl⟩
theorem dX10_move_40 : di cX10_move 40 (.iconst 0) 1 41 := ⟨by decide +kernel, rfl⟩
theorem dX10_move_41 : di cX10_move 41 (.invokevirtual 202) 3 44 := ⟨by decide +kernel, rfl⟩
theorem dX10_move_44 : di cX10_move 44 (.invokevirtual 205) 3 47 := ⟨by decide +kernel, rfl⟩
theorem dX10_move_47 : dj cX10_move 47 (.ifCond .ne) 50 56 := ⟨9, by decide +kernel, rfl, rfl⟩
theorem dX10_move_50 : di cX10_move 50 (.aload_n 0) 1 51 := ⟨by decide +kernel, rfl⟩
theorem dX10_move_51 : di cX10_move 51 (.iconst 3) 1 52 := ⟨by decide +kernel, rfl⟩
theorem dX10_move_52 : di cX10_move 52 (.invokevirtual 100) 3 55 := ⟨by decide +kernel, rfl⟩
theorem dX10_move_55 : di cX10_move 55 (.ireturn) 1 56 := ⟨by decide +kernel, rfl⟩
theorem dX10_move_56 : di cX10_move 56 (.aload_n 0) 1 57 := ⟨by decide +kernel, rfl⟩
theorem dX10_move_57 : di cX10_move 57 (.getfield 189) 3 60 := ⟨by decide +kernel, rfl⟩
theorem dX10_move_60 : di cX10_move 60 (.aload_n 0) 1 61 := ⟨by decide +kernel, rfl⟩
theorem dX10_move_61 : di cX10_move 61 (.getfield 48) 3 64 := ⟨by decide +kernel, rfl⟩
theorem dX10_move_64 : di cX10_move 64 (.iconst 1) 1 65 := ⟨by decide +kernel, rfl⟩
theorem dX10_move_65 : di cX10_move 65 (.invokevirtual 202) 3 68 := ⟨by decide +kernel, rfl⟩
theorem dX10_move_68 : di cX10_move 68 (.iadd) 1 69 := ⟨by decide +kernel, rfl⟩
theorem dX10_move_69 : di cX10_move 69 (.aload_n 0) 1 70 := ⟨by decide +kernel, rfl⟩
theorem dX10_move_70 : di cX10_move 70 (.getfield 41) 3 73 := ⟨by decide +kernel, rfl⟩
theorem dX10_move_73 : di cX10_move 73 (.iload_n 2) 1 74 := ⟨by decide +kernel, rfl⟩
theorem dX10_move_74 : di cX10_move 74 (.invokevirtual 208) 3 77 := ⟨by decide +kernel, rfl⟩
theorem dX10_move_77 : di cX10_move 77 (.invokestatic 211) 3 80 := ⟨by decide +kernel, rfl⟩
theorem dX10_move_80 : di cX10_move 80 (.istore_n 3) 1 81 := ⟨by decide +kernel, rfl⟩
theorem dX10_move_81 : di cX10_move 81 (.aload_n 0) 1 82 := ⟨by decide +kernel, rfl⟩
theorem dX10_move_82 : di cX10_move 82 (.iload_n 1) 1 83 := ⟨by decide +kernel, rfl⟩
theorem dX10_move_83 : di cX10_move 83 (.iload_n 3) 1 84 := ⟨by decide +kernel, rfl⟩
theorem dX10_move_84 : di cX10_move 84 (.invokevirtual 193) 3 87 := ⟨by decide +kernel, rfl⟩
theorem dX10_move_87 : di cX10_move 87 (.ireturn) 1 88 := ⟨by decide +kernel, rfl⟩
def f_X10_move (v1 : Int32) (M : Mem) : Option Ret := bE (f_X2_has v1 M) (fun r2 M1 => if r2 = 0 then (bE (f_X10_finding (1 : Int32) M1) (fun r21 M20 => some (r21, M20))) else (bE (f_X4_latestOf v1 M1) (fun r4 M3 => if r4 = (-1 : Int32) then (bE (f_X10_finding (3 : Int32) M3) (fun r6 M5 => some (r6, M5))) else (bE (f_X5_valueOf (0 : Int32) M3) (fun r8 M7 => bE (f_X4_mayMove r4 r8 M7) (fun r10 M9 => if r10 = 0 then (bE (f_X10_finding (3 : Int32) M9) (fun r19 M18 => some (r19, M18))) else (bE (f_X5_valueOf (1 : Int32) M9) (fun r12 M11 => bE (f_X4_beginOf r4 M11) (fun r14 M13 => bI (if ((M9.1 0 13) + r12) < r14 then r14 else ((M9.1 0 13) + r12)) (fun x15 => bE (f_X10_newRate v1 x15 M13) (fun r17 M16 => some (r17, M16))))))))))))
set_option maxRecDepth 100000 in
theorem ok_X10_move {l : Launch} {g : Cx} {v1 : Int32} {M : Mem} {r : Int32} {Mr : Mem} (h : f_X10_move v1 M = some (r, Mr)) : CT l g yX10_move cX10_move 4 (some .int) 6 135 [.ref (g.1 0), .int v1] M (PI r Mr) := by
  refine CT_of (lv := [some (.ref (g.1 0)), some (.int v1), none, none]) (by decide) rfl (Nat.le_of_ble_eq_true rfl) ?_
  unfold f_X10_move at h
  refine A_aload_n dX10_move_0 rfl ?_
  refine A_getf dX10_move_1 fw_X10_32 ob0 rfl ?_
  refine A_iload_n dX10_move_4 rfl ?_
  obtain ⟨r2, M1, h1, h⟩ := bE_go h
  refine A_cVi1 dX10_move_5 ml_X10_172 mb_X2_has mi_X2_has ob3 rfl rfl ⟨Nat.le_of_ble_eq_true rfl, Nat.le_of_ble_eq_true rfl⟩ (Nat.le_of_ble_eq_true rfl) (ok_X2_has h1) ?_
  refine A_if_ne dX10_move_8 (fun hc => ?_) (fun hc => ?_)
  · have h := gF_go hc h
    refine A_aload_n dX10_move_17 rfl ?_
    refine A_getf dX10_move_18 fw_X10_41 ob0 rfl ?_
    refine A_iload_n dX10_move_21 rfl ?_
    obtain ⟨r4, M3, h1, h⟩ := bE_go h
    refine A_cVi1 dX10_move_22 ml_X10_176 mb_X4_latestOf mi_X4_latestOf ob4 rfl rfl ⟨Nat.le_of_ble_eq_true rfl, Nat.le_of_ble_eq_true rfl⟩ (Nat.le_of_ble_eq_true rfl) (ok_X4_latestOf h1) ?_
    refine A_istoren2 dX10_move_25 (by decide) rfl ?_
    refine A_iload_n dX10_move_26 rfl ?_
    refine A_iconst (v := -1) dX10_move_27 (by decide) ?_
    refine A_icmp_eq dX10_move_28 (fun hc => ?_) (fun hc => ?_)
    · have h := gT_go hc h
      refine A_aload_n dX10_move_50 rfl ?_
      refine A_iconst (v := 3) dX10_move_51 (by decide) ?_
      obtain ⟨r6, M5, h1, h⟩ := bE_go h
      refine A_cVi1 dX10_move_52 ml_X10_100 mb_X10_finding mi_X10_finding ob0 rfl rfl ⟨Nat.le_of_ble_eq_true rfl, Nat.le_of_ble_eq_true rfl⟩ (Nat.le_of_ble_eq_true rfl) (ok_X10_finding h1) ?_
      exact A_iret dX10_move_55 (pI_go h)
    · have h := gF_go hc h
      refine A_aload_n dX10_move_31 rfl ?_
      refine A_getf dX10_move_32 fw_X10_41 ob0 rfl ?_
      refine A_iload_n dX10_move_35 rfl ?_
      refine A_aload_n dX10_move_36 rfl ?_
      refine A_getf dX10_move_37 fw_X10_48 ob0 rfl ?_
      refine A_iconst (v := 0) dX10_move_40 (by decide) ?_
      obtain ⟨r8, M7, h1, h⟩ := bE_go h
      refine A_cVi1 dX10_move_41 ml_X10_202 mb_X5_valueOf mi_X5_valueOf ob5 rfl rfl ⟨Nat.le_of_ble_eq_true rfl, Nat.le_of_ble_eq_true rfl⟩ (Nat.le_of_ble_eq_true rfl) (ok_X5_valueOf h1) ?_
      obtain ⟨r10, M9, h1, h⟩ := bE_go h
      refine A_cVi2 dX10_move_44 ml_X10_205 mb_X4_mayMove mi_X4_mayMove ob4 rfl rfl ⟨Nat.le_of_ble_eq_true rfl, Nat.le_of_ble_eq_true rfl⟩ (Nat.le_of_ble_eq_true rfl) (ok_X4_mayMove h1) ?_
      refine A_if_ne dX10_move_47 (fun hc => ?_) (fun hc => ?_)
      · have h := gF_go hc h
        refine A_aload_n dX10_move_56 rfl ?_
        refine A_getf dX10_move_57 fw_X10_189 ob0 rfl ?_
        refine A_aload_n dX10_move_60 rfl ?_
        refine A_getf dX10_move_61 fw_X10_48 ob0 rfl ?_
        refine A_iconst (v := 1) dX10_move_64 (by decide) ?_
        obtain ⟨r12, M11, h1, h⟩ := bE_go h
        refine A_cVi1 dX10_move_65 ml_X10_202 mb_X5_valueOf mi_X5_valueOf ob5 rfl rfl ⟨Nat.le_of_ble_eq_true rfl, Nat.le_of_ble_eq_true rfl⟩ (Nat.le_of_ble_eq_true rfl) (ok_X5_valueOf h1) ?_
        refine A_iadd dX10_move_68 ?_
        refine A_aload_n dX10_move_69 rfl ?_
        refine A_getf dX10_move_70 fw_X10_41 ob0 rfl ?_
        refine A_iload_n dX10_move_73 rfl ?_
        obtain ⟨r14, M13, h1, h⟩ := bE_go h
        refine A_cVi1 dX10_move_74 ml_X10_208 mb_X4_beginOf mi_X4_beginOf ob4 rfl rfl ⟨Nat.le_of_ble_eq_true rfl, Nat.le_of_ble_eq_true rfl⟩ (Nat.le_of_ble_eq_true rfl) (ok_X4_beginOf h1) ?_
        refine A_mmax dX10_move_77 ml_X10_211 (Nat.le_of_ble_eq_true rfl) (Nat.le_of_ble_eq_true rfl) ?_
        refine A_istoren3 dX10_move_80 (by decide) rfl (bI_go h (G := fun z => AT l g RX10 cX10_move 4 (some .int) (rmM 6 135) (PI r Mr) 81 [some (.ref (g.1 0)), some (.int v1), some (.int r4), some (.int z)] [] M13) (fun x15 h => ?_))
        refine A_aload_n dX10_move_81 rfl ?_
        refine A_iload_n dX10_move_82 rfl ?_
        refine A_iload_n dX10_move_83 rfl ?_
        obtain ⟨r17, M16, h1, h⟩ := bE_go h
        refine A_cVi2 dX10_move_84 ml_X10_193 mb_X10_newRate mi_X10_newRate ob0 rfl rfl ⟨Nat.le_of_ble_eq_true rfl, Nat.le_of_ble_eq_true rfl⟩ (Nat.le_of_ble_eq_true rfl) (ok_X10_newRate h1) ?_
        exact A_iret dX10_move_87 (pI_go h)
      · have h := gT_go hc h
        refine A_aload_n dX10_move_50 rfl ?_
        refine A_iconst (v := 3) dX10_move_51 (by decide) ?_
        obtain ⟨r19, M18, h1, h⟩ := bE_go h
        refine A_cVi1 dX10_move_52 ml_X10_100 mb_X10_finding mi_X10_finding ob0 rfl rfl ⟨Nat.le_of_ble_eq_true rfl, Nat.le_of_ble_eq_true rfl⟩ (Nat.le_of_ble_eq_true rfl) (ok_X10_finding h1) ?_
        exact A_iret dX10_move_55 (pI_go h)
  · have h := gT_go hc h
    refine A_aload_n dX10_move_11 rfl ?_
    refine A_iconst (v := 1) dX10_move_12 (by decide) ?_
    obtain ⟨r21, M20, h1, h⟩ := bE_go h
    refine A_cVi1 dX10_move_13 ml_X10_100 mb_X10_finding mi_X10_finding ob0 rfl rfl ⟨Nat.le_of_ble_eq_true rfl, Nat.le_of_ble_eq_true rfl⟩ (Nat.le_of_ble_eq_true rfl) (ok_X10_finding h1) ?_
    exact A_iret dX10_move_16 (pI_go h)
-- BenchTimes.isWeek
theorem dX10_isWeek_0 : di cX10_isWeek 0 (.iload_n 0) 1 1 := ⟨by decide +kernel, rfl⟩
theorem dX10_isWeek_1 : di cX10_isWeek 1 (.iconst 0) 1 2 := ⟨by decide +kernel, rfl⟩
theorem dX10_isWeek_2 : di cX10_isWeek 2 (.sipush 500) 3 5 := ⟨by decide +kernel, rfl⟩
theorem dX10_isWeek_5 : di cX10_isWeek 5 (.invokestatic 121) 3 8 := ⟨by decide +kernel, rfl⟩
theorem dX10_isWeek_8 : di cX10_isWeek 8 (.ireturn) 1 9 := ⟨by decide +kernel, rfl⟩
def f_X10_isWeek (v0 : Int32) (M : Mem) : Option Ret := bE (f_X10_isWithin v0 (0 : Int32) (500 : Int32) M) (fun r2 M1 => gZ r2 (some (r2, M1)))
set_option maxRecDepth 100000 in
theorem ok_X10_isWeek {l : Launch} {g : Cx} {v0 : Int32} {M : Mem} {r : Int32} {Mr : Mem} (h : f_X10_isWeek v0 M = some (r, Mr)) : CT l g yX10_isWeek cX10_isWeek 1 (some .boolean) 1 22 [.int v0] M (PI r Mr) := by
  refine CT_of (lv := [some (.int v0)]) (by decide) rfl (Nat.le_of_ble_eq_true rfl) ?_
  unfold f_X10_isWeek at h
  refine A_iload_n dX10_isWeek_0 rfl ?_
  refine A_iconst (v := 0) dX10_isWeek_1 (by decide) ?_
  refine A_sipush (v := 500) dX10_isWeek_2 (by decide) ?_
  obtain ⟨r2, M1, h1, h⟩ := bE_go h
  refine A_cSi3 dX10_isWeek_5 ml_X10_121 mb_X10_isWithin ms_X10_isWithin ⟨Nat.le_of_ble_eq_true rfl, Nat.le_of_ble_eq_true rfl⟩ (Nat.le_of_ble_eq_true rfl) (ok_X10_isWithin h1) ?_
  obtain ⟨hg, h⟩ := gZ_go h
  exact A_zret dX10_isWeek_8 hg (pI_go h)
-- BenchTimes.rate
theorem dX10_rate_0 : di cX10_rate 0 (.aload_n 0) 1 1 := ⟨by decide +kernel, rfl⟩
theorem dX10_rate_1 : di cX10_rate 1 (.getfield 32) 3 4 := ⟨by decide +kernel, rfl⟩
theorem dX10_rate_4 : di cX10_rate 4 (.iload_n 1) 1 5 := ⟨by decide +kernel, rfl⟩
theorem dX10_rate_5 : di cX10_rate 5 (.invokevirtual 172) 3 8 := ⟨by decide +kernel, rfl⟩
theorem dX10_rate_8 : dj cX10_rate 8 (.ifCond .eq) 11 18 := ⟨10, by decide +kernel, rfl, rfl⟩
theorem dX10_rate_11 : di cX10_rate 11 (.iload_n 2) 1 12 := ⟨by decide +kernel, rfl⟩
theorem dX10_rate_12 : di cX10_rate 12 (.invokestatic 216) 3 15 := ⟨by decide +kernel, rfl⟩
theorem dX10_rate_15 : dj cX10_rate 15 (.ifCond .ne) 18 24 := ⟨9, by decide +kernel, rfl, rfl⟩
theorem dX10_rate_18 : di cX10_rate 18 (.aload_n 0) 1 19 := ⟨by decide +kernel, rfl⟩
theorem dX10_rate_19 : di cX10_rate 19 (.iconst 1) 1 20 := ⟨by decide +kernel, rfl⟩
theorem dX10_rate_20 : di cX10_rate 20 (.invokevirtual 100) 3 23 := ⟨by decide +kernel, rfl⟩
theorem dX10_rate_23 : di cX10_rate 23 (.ireturn) 1 24 := ⟨by decide +kernel, rfl⟩
theorem dX10_rate_24 : di cX10_rate 24 (.aload_n 0) 1 25 := ⟨by decide +kernel, rfl⟩
theorem dX10_rate_25 : di cX10_rate 25 (.getfield 41) 3 28 := ⟨by decide +kernel, rfl⟩
theorem dX10_rate_28 : di cX10_rate 28 (.iload_n 1) 1 29 := ⟨by decide +kernel, rfl⟩
theorem dX10_rate_29 : di cX10_rate 29 (.iload_n 2) 1 30 := ⟨by decide +kernel, rfl⟩
theorem dX10_rate_30 : di cX10_rate 30 (.invokevirtual 219) 3 33 := ⟨by decide +kernel, rfl⟩
theorem dX10_rate_33 : di cX10_rate 33 (.istore_n 3) 1 34 := ⟨by decide +kernel, rfl⟩
theorem dX10_rate_34 : di cX10_rate 34 (.iload_n 3) 1 35 := ⟨by decide +kernel, rfl⟩
theorem dX10_rate_35 : di cX10_rate 35 (.iconst (-1)) 1 36 := ⟨by decide +kernel, rfl⟩
theorem dX10_rate_36 : dj cX10_rate 36 (.if_icmp .ne) 39 45 := ⟨9, by decide +kernel, rfl, rfl⟩
theorem dX10_rate_39 : di cX10_rate 39 (.aload_n 0) 1 40 := ⟨by decide +kernel, rfl⟩
theorem dX10_rate_40 : di cX10_rate 40 (.iconst 2) 1 41 := ⟨by decide +kernel, rfl⟩
theorem dX10_rate_41 : di cX10_rate 41 (.invokevirtual 100) 3 44 := ⟨by decide +kernel, rfl⟩
theorem dX10_rate_44 : di cX10_rate 44 (.ireturn) 1 45 := ⟨by decide +kernel, rfl⟩
theorem dX10_rate_45 : di cX10_rate 45 (.aload_n 0) 1 46 := ⟨by decide +kernel, rfl⟩
theorem dX10_rate_46 : di cX10_rate 46 (.getfield 41) 3 49 := ⟨by decide +kernel, rfl⟩
theorem dX10_rate_49 : di cX10_rate 49 (.iload_n 3) 1 50 := ⟨by decide +kernel, rfl⟩
theorem dX10_rate_50 : di cX10_rate 50 (.invokevirtual 222) 3 53 := ⟨by decide +kernel, rfl⟩
theorem dX10_rate_53 : di cX10_rate 53 (.ireturn) 1 54 := ⟨by decide +kernel, rfl⟩
def f_X10_rate (v1 : Int32) (v2 : Int32) (M : Mem) : Option Ret := bE (f_X2_has v1 M) (fun r2 M1 => if r2 = 0 then (bE (f_X10_finding (1 : Int32) M1) (fun r4 M3 => some (r4, M3))) else (bE (f_X10_isWeek v2 M1) (fun r6 M5 => if r6 = 0 then (bE (f_X10_finding (1 : Int32) M5) (fun r14 M13 => some (r14, M13))) else (bE (f_X4_inForce v1 v2 M5) (fun r8 M7 => if r8 = (-1 : Int32) then (bE (f_X10_finding (2 : Int32) M7) (fun r12 M11 => some (r12, M11))) else (bE (f_X4_sumOf r8 M7) (fun r10 M9 => some (r10, M9))))))))
set_option maxRecDepth 100000 in
theorem ok_X10_rate {l : Launch} {g : Cx} {v1 : Int32} {v2 : Int32} {M : Mem} {r : Int32} {Mr : Mem} (h : f_X10_rate v1 v2 M = some (r, Mr)) : CT l g yX10_rate cX10_rate 4 (some .int) 2 43 [.ref (g.1 0), .int v1, .int v2] M (PI r Mr) := by
  refine CT_of (lv := [some (.ref (g.1 0)), some (.int v1), some (.int v2), none]) (by decide) rfl (Nat.le_of_ble_eq_true rfl) ?_
  unfold f_X10_rate at h
  refine A_aload_n dX10_rate_0 rfl ?_
  refine A_getf dX10_rate_1 fw_X10_32 ob0 rfl ?_
  refine A_iload_n dX10_rate_4 rfl ?_
  obtain ⟨r2, M1, h1, h⟩ := bE_go h
  refine A_cVi1 dX10_rate_5 ml_X10_172 mb_X2_has mi_X2_has ob3 rfl rfl ⟨Nat.le_of_ble_eq_true rfl, Nat.le_of_ble_eq_true rfl⟩ (Nat.le_of_ble_eq_true rfl) (ok_X2_has h1) ?_
  refine A_if_eq dX10_rate_8 (fun hc => ?_) (fun hc => ?_)
  · have h := gT_go hc h
    refine A_aload_n dX10_rate_18 rfl ?_
    refine A_iconst (v := 1) dX10_rate_19 (by decide) ?_
    obtain ⟨r4, M3, h1, h⟩ := bE_go h
    refine A_cVi1 dX10_rate_20 ml_X10_100 mb_X10_finding mi_X10_finding ob0 rfl rfl ⟨Nat.le_of_ble_eq_true rfl, Nat.le_of_ble_eq_true rfl⟩ (Nat.le_of_ble_eq_true rfl) (ok_X10_finding h1) ?_
    exact A_iret dX10_rate_23 (pI_go h)
  · have h := gF_go hc h
    refine A_iload_n dX10_rate_11 rfl ?_
    obtain ⟨r6, M5, h1, h⟩ := bE_go h
    refine A_cSi1 dX10_rate_12 ml_X10_216 mb_X10_isWeek ms_X10_isWeek ⟨Nat.le_of_ble_eq_true rfl, Nat.le_of_ble_eq_true rfl⟩ (Nat.le_of_ble_eq_true rfl) (ok_X10_isWeek h1) ?_
    refine A_if_ne dX10_rate_15 (fun hc => ?_) (fun hc => ?_)
    · have h := gF_go hc h
      refine A_aload_n dX10_rate_24 rfl ?_
      refine A_getf dX10_rate_25 fw_X10_41 ob0 rfl ?_
      refine A_iload_n dX10_rate_28 rfl ?_
      refine A_iload_n dX10_rate_29 rfl ?_
      obtain ⟨r8, M7, h1, h⟩ := bE_go h
      refine A_cVi2 dX10_rate_30 ml_X10_219 mb_X4_inForce mi_X4_inForce ob4 rfl rfl ⟨Nat.le_of_ble_eq_true rfl, Nat.le_of_ble_eq_true rfl⟩ (Nat.le_of_ble_eq_true rfl) (ok_X4_inForce h1) ?_
      refine A_istoren3 dX10_rate_33 (by decide) rfl ?_
      refine A_iload_n dX10_rate_34 rfl ?_
      refine A_iconst (v := -1) dX10_rate_35 (by decide) ?_
      refine A_icmp_ne dX10_rate_36 (fun hc => ?_) (fun hc => ?_)
      · have h := gF_go hc h
        refine A_aload_n dX10_rate_45 rfl ?_
        refine A_getf dX10_rate_46 fw_X10_41 ob0 rfl ?_
        refine A_iload_n dX10_rate_49 rfl ?_
        obtain ⟨r10, M9, h1, h⟩ := bE_go h
        refine A_cVi1 dX10_rate_50 ml_X10_222 mb_X4_sumOf mi_X4_sumOf ob4 rfl rfl ⟨Nat.le_of_ble_eq_true rfl, Nat.le_of_ble_eq_true rfl⟩ (Nat.le_of_ble_eq_true rfl) (ok_X4_sumOf h1) ?_
        exact A_iret dX10_rate_53 (pI_go h)
      · have h := gT_go hc h
        refine A_aload_n dX10_rate_39 rfl ?_
        refine A_iconst (v := 2) dX10_rate_40 (by decide) ?_
        obtain ⟨r12, M11, h1, h⟩ := bE_go h
        refine A_cVi1 dX10_rate_41 ml_X10_100 mb_X10_finding mi_X10_finding ob0 rfl rfl ⟨Nat.le_of_ble_eq_true rfl, Nat.le_of_ble_eq_true rfl⟩ (Nat.le_of_ble_eq_true rfl) (ok_X10_finding h1) ?_
        exact A_iret dX10_rate_44 (pI_go h)
    · have h := gT_go hc h
      refine A_aload_n dX10_rate_18 rfl ?_
      refine A_iconst (v := 1) dX10_rate_19 (by decide) ?_
      obtain ⟨r14, M13, h1, h⟩ := bE_go h
      refine A_cVi1 dX10_rate_20 ml_X10_100 mb_X10_finding mi_X10_finding ob0 rfl rfl ⟨Nat.le_of_ble_eq_true rfl, Nat.le_of_ble_eq_true rfl⟩ (Nat.le_of_ble_eq_true rfl) (ok_X10_finding h1) ?_
      exact A_iret dX10_rate_23 (pI_go h)
-- BenchTimes.worth
theorem dX10_worth_0 : di cX10_worth 0 (.aload_n 0) 1 1 := ⟨by decide +kernel, rfl⟩
theorem dX10_worth_1 : di cX10_worth 1 (.getfield 32) 3 4 := ⟨by decide +kernel, rfl⟩
theorem dX10_worth_4 : di cX10_worth 4 (.iload_n 1) 1 5 := ⟨by decide +kernel, rfl⟩
theorem dX10_worth_5 : di cX10_worth 5 (.invokevirtual 172) 3 8 := ⟨by decide +kernel, rfl⟩
theorem dX10_worth_8 : dj cX10_worth 8 (.ifCond .eq) 11 36 := ⟨28, by decide +kernel, rfl, rfl⟩
theorem dX10_worth_11 : di cX10_worth 11 (.iload_n 2) 1 12 := ⟨by decide +kernel, rfl⟩
theorem dX10_worth_12 : di cX10_worth 12 (.invokestatic 216) 3 15 := ⟨by decide +kernel, rfl⟩
theorem dX10_worth_15 : dj cX10_worth 15 (.ifCond .eq) 18 36 := ⟨21, by decide +kernel, rfl, rfl⟩
theorem dX10_worth_18 : di cX10_worth 18 (.iload_n 3) 1 19 := ⟨by decide +kernel, rfl⟩
theorem dX10_worth_19 : di cX10_worth 19 (.iconst 0) 1 20 := ⟨by decide +kernel, rfl⟩
theorem dX10_worth_20 : di cX10_worth 20 (.aload_n 0) 1 21 := ⟨by decide +kernel, rfl⟩
theorem dX10_worth_21 : di cX10_worth 21 (.getfield 32) 3 24 := ⟨by decide +kernel, rfl⟩
theorem dX10_worth_24 : di cX10_worth 24 (.iload_n 1) 1 25 := ⟨by decide +kernel, rfl⟩
theorem dX10_worth_25 : di cX10_worth 25 (.invokevirtual 186) 3 28 := ⟨by decide +kernel, rfl⟩
theorem dX10_worth_28 : di cX10_worth 28 (.iconst 1) 1 29 := ⟨by decide +kernel, rfl⟩
theorem dX10_worth_29 : di cX10_worth 29 (.isub) 1 30 := ⟨by decide +kernel, rfl⟩
theorem dX10_worth_30 : di cX10_worth 30 (.invokestatic 121) 3 33 := ⟨by decide +kernel, rfl⟩
theorem dX10_worth_33 : dj cX10_worth 33 (.ifCond .ne) 36 42 := ⟨9, by decide +kernel, rfl, rfl⟩
theorem dX10_worth_36 : di cX10_worth 36 (.aload_n 0) 1 37 := ⟨by decide +kernel, rfl⟩
theorem dX10_worth_37 : di cX10_worth 37 (.iconst 1) 1 38 := ⟨by decide +kernel, rfl⟩
theorem dX10_worth_38 : di cX10_worth 38 (.invokevirtual 100) 3 41 := ⟨by decide +kernel, rfl⟩
theorem dX10_worth_41 : di cX10_worth 41 (.ireturn) 1 42 := ⟨by decide +kernel, rfl⟩
theorem dX10_worth_42 : di cX10_worth 42 (.aload_n 0) 1 43 := ⟨by decide +kernel, rfl⟩
theorem dX10_worth_43 : di cX10_worth 43 (.getfield 41) 3 46 := ⟨by decide +kernel, rfl⟩
theorem dX10_worth_46 : di cX10_worth 46 (.iload_n 1) 1 47 := ⟨by decide +kernel, rfl⟩
theorem dX10_worth_47 : di cX10_worth 47 (.iload_n 2) 1 48 := ⟨by decide +kernel, rfl⟩
theorem dX10_worth_48 : di cX10_worth 48 (.invokevirtual 219) 3 51 := ⟨by decide +kernel, rfl⟩
theorem dX10_worth_51 : di cX10_worth 51 (.istore 4) 2 53 := ⟨by decide +kernel, rfl⟩
theorem dX10_worth_53 : di cX10_worth 53 (.iload 4) 2 55 := ⟨by decide +kernel, rfl⟩
theorem dX10_worth_55 : di cX10_worth 55 (.iconst (-1)) 1 56 := ⟨by decide +kernel, rfl⟩
theorem dX10_worth_56 : dj cX10_worth 56 (.if_icmp .ne) 59 65 := ⟨9, by decide +kernel, rfl, rfl⟩
theorem dX10_worth_59 : di cX10_worth 59 (.aload_n 0) 1 60 := ⟨by decide +kernel, rfl⟩
theorem dX10_worth_60 : di cX10_worth 60 (.iconst 2) 1 61 := ⟨by decide +kernel, rfl⟩
theorem dX10_worth_61 : di cX10_worth 61 (.invokevirtual 100) 3 64 := ⟨by decide +kernel, rfl⟩
theorem dX10_worth_64 : di cX10_worth 64 (.ireturn) 1 65 := ⟨by decide +kernel, rfl⟩
theorem dX10_worth_65 : di cX10_worth 65 (.aload_n 0) 1 66 := ⟨by decide +kernel, rfl⟩
theorem dX10_worth_66 : di cX10_worth 66 (.getfield 41) 3 69 := ⟨by decide +kernel, rfl⟩
theorem dX10_worth_69 : di cX10_worth 69 (.iload 4) 2 71 := ⟨by decide +kernel, rfl⟩
theorem dX10_worth_71 : di cX10_worth 71 (.iload_n 3) 1 72 := ⟨by decide +kernel, rfl⟩
theorem dX10_worth_72 : di cX10_worth 72 (.invokevirtual 225) 3 75 := ⟨by decide +kernel, rfl⟩
theorem dX10_worth_75 : di cX10_worth 75 (.ireturn) 1 76 := ⟨by decide +kernel, rfl⟩
def f_X10_worth (v1 : Int32) (v2 : Int32) (v3 : Int32) (M : Mem) : Option Ret := bE (f_X2_has v1 M) (fun r2 M1 => if r2 = 0 then (bE (f_X10_finding (1 : Int32) M1) (fun r4 M3 => some (r4, M3))) else (bE (f_X10_isWeek v2 M1) (fun r6 M5 => if r6 = 0 then (bE (f_X10_finding (1 : Int32) M5) (fun r8 M7 => some (r8, M7))) else (bE (f_X2_partMany v1 M5) (fun r10 M9 => bE (f_X10_isWithin v3 (0 : Int32) (r10 - (1 : Int32)) M9) (fun r12 M11 => if r12 = 0 then (bE (f_X10_finding (1 : Int32) M11) (fun r20 M19 => some (r20, M19))) else (bE (f_X4_inForce v1 v2 M11) (fun r14 M13 => if r14 = (-1 : Int32) then (bE (f_X10_finding (2 : Int32) M13) (fun r18 M17 => some (r18, M17))) else (bE (f_X4_worthOf r14 v3 M13) (fun r16 M15 => some (r16, M15)))))))))))
set_option maxRecDepth 100000 in
theorem ok_X10_worth {l : Launch} {g : Cx} {v1 : Int32} {v2 : Int32} {v3 : Int32} {M : Mem} {r : Int32} {Mr : Mem} (h : f_X10_worth v1 v2 v3 M = some (r, Mr)) : CT l g yX10_worth cX10_worth 5 (some .int) 2 43 [.ref (g.1 0), .int v1, .int v2, .int v3] M (PI r Mr) := by
  refine CT_of (lv := [some (.ref (g.1 0)), some (.int v1), some (.int v2), some (.int v3), none]) (by decide) rfl (Nat.le_of_ble_eq_true rfl) ?_
  unfold f_X10_worth at h
  refine A_aload_n dX10_worth_0 rfl ?_
  refine A_getf dX10_worth_1 fw_X10_32 ob0 rfl ?_
  refine A_iload_n dX10_worth_4 rfl ?_
  obtain ⟨r2, M1, h1, h⟩ := bE_go h
  refine A_cVi1 dX10_worth_5 ml_X10_172 mb_X2_has mi_X2_has ob3 rfl rfl ⟨Nat.le_of_ble_eq_true rfl, Nat.le_of_ble_eq_true rfl⟩ (Nat.le_of_ble_eq_true rfl) (ok_X2_has h1) ?_
  refine A_if_eq dX10_worth_8 (fun hc => ?_) (fun hc => ?_)
  · have h := gT_go hc h
    refine A_aload_n dX10_worth_36 rfl ?_
    refine A_iconst (v := 1) dX10_worth_37 (by decide) ?_
    obtain ⟨r4, M3, h1, h⟩ := bE_go h
    refine A_cVi1 dX10_worth_38 ml_X10_100 mb_X10_finding mi_X10_finding ob0 rfl rfl ⟨Nat.le_of_ble_eq_true rfl, Nat.le_of_ble_eq_true rfl⟩ (Nat.le_of_ble_eq_true rfl) (ok_X10_finding h1) ?_
    exact A_iret dX10_worth_41 (pI_go h)
  · have h := gF_go hc h
    refine A_iload_n dX10_worth_11 rfl ?_
    obtain ⟨r6, M5, h1, h⟩ := bE_go h
    refine A_cSi1 dX10_worth_12 ml_X10_216 mb_X10_isWeek ms_X10_isWeek ⟨Nat.le_of_ble_eq_true rfl, Nat.le_of_ble_eq_true rfl⟩ (Nat.le_of_ble_eq_true rfl) (ok_X10_isWeek h1) ?_
    refine A_if_eq dX10_worth_15 (fun hc => ?_) (fun hc => ?_)
    · have h := gT_go hc h
      refine A_aload_n dX10_worth_36 rfl ?_
      refine A_iconst (v := 1) dX10_worth_37 (by decide) ?_
      obtain ⟨r8, M7, h1, h⟩ := bE_go h
      refine A_cVi1 dX10_worth_38 ml_X10_100 mb_X10_finding mi_X10_finding ob0 rfl rfl ⟨Nat.le_of_ble_eq_true rfl, Nat.le_of_ble_eq_true rfl⟩ (Nat.le_of_ble_eq_true rfl) (ok_X10_finding h1) ?_
      exact A_iret dX10_worth_41 (pI_go h)
    · have h := gF_go hc h
      refine A_iload_n dX10_worth_18 rfl ?_
      refine A_iconst (v := 0) dX10_worth_19 (by decide) ?_
      refine A_aload_n dX10_worth_20 rfl ?_
      refine A_getf dX10_worth_21 fw_X10_32 ob0 rfl ?_
      refine A_iload_n dX10_worth_24 rfl ?_
      obtain ⟨r10, M9, h1, h⟩ := bE_go h
      refine A_cVi1 dX10_worth_25 ml_X10_186 mb_X2_partMany mi_X2_partMany ob3 rfl rfl ⟨Nat.le_of_ble_eq_true rfl, Nat.le_of_ble_eq_true rfl⟩ (Nat.le_of_ble_eq_true rfl) (ok_X2_partMany h1) ?_
      refine A_iconst (v := 1) dX10_worth_28 (by decide) ?_
      refine A_isub dX10_worth_29 ?_
      obtain ⟨r12, M11, h1, h⟩ := bE_go h
      refine A_cSi3 dX10_worth_30 ml_X10_121 mb_X10_isWithin ms_X10_isWithin ⟨Nat.le_of_ble_eq_true rfl, Nat.le_of_ble_eq_true rfl⟩ (Nat.le_of_ble_eq_true rfl) (ok_X10_isWithin h1) ?_
      refine A_if_ne dX10_worth_33 (fun hc => ?_) (fun hc => ?_)
      · have h := gF_go hc h
        refine A_aload_n dX10_worth_42 rfl ?_
        refine A_getf dX10_worth_43 fw_X10_41 ob0 rfl ?_
        refine A_iload_n dX10_worth_46 rfl ?_
        refine A_iload_n dX10_worth_47 rfl ?_
        obtain ⟨r14, M13, h1, h⟩ := bE_go h
        refine A_cVi2 dX10_worth_48 ml_X10_219 mb_X4_inForce mi_X4_inForce ob4 rfl rfl ⟨Nat.le_of_ble_eq_true rfl, Nat.le_of_ble_eq_true rfl⟩ (Nat.le_of_ble_eq_true rfl) (ok_X4_inForce h1) ?_
        refine A_istore4 dX10_worth_51 (by decide) rfl ?_
        refine A_iload dX10_worth_53 rfl ?_
        refine A_iconst (v := -1) dX10_worth_55 (by decide) ?_
        refine A_icmp_ne dX10_worth_56 (fun hc => ?_) (fun hc => ?_)
        · have h := gF_go hc h
          refine A_aload_n dX10_worth_65 rfl ?_
          refine A_getf dX10_worth_66 fw_X10_41 ob0 rfl ?_
          refine A_iload dX10_worth_69 rfl ?_
          refine A_iload_n dX10_worth_71 rfl ?_
          obtain ⟨r16, M15, h1, h⟩ := bE_go h
          refine A_cVi2 dX10_worth_72 ml_X10_225 mb_X4_worthOf mi_X4_worthOf ob4 rfl rfl ⟨Nat.le_of_ble_eq_true rfl, Nat.le_of_ble_eq_true rfl⟩ (Nat.le_of_ble_eq_true rfl) (ok_X4_worthOf h1) ?_
          exact A_iret dX10_worth_75 (pI_go h)
        · have h := gT_go hc h
          refine A_aload_n dX10_worth_59 rfl ?_
          refine A_iconst (v := 2) dX10_worth_60 (by decide) ?_
          obtain ⟨r18, M17, h1, h⟩ := bE_go h
          refine A_cVi1 dX10_worth_61 ml_X10_100 mb_X10_finding mi_X10_finding ob0 rfl rfl ⟨Nat.le_of_ble_eq_true rfl, Nat.le_of_ble_eq_true rfl⟩ (Nat.le_of_ble_eq_true rfl) (ok_X10_finding h1) ?_
          exact A_iret dX10_worth_64 (pI_go h)
      · have h := gT_go hc h
        refine A_aload_n dX10_worth_36 rfl ?_
        refine A_iconst (v := 1) dX10_worth_37 (by decide) ?_
        obtain ⟨r20, M19, h1, h⟩ := bE_go h
        refine A_cVi1 dX10_worth_38 ml_X10_100 mb_X10_finding mi_X10_finding ob0 rfl rfl ⟨Nat.le_of_ble_eq_true rfl, Nat.le_of_ble_eq_true rfl⟩ (Nat.le_of_ble_eq_true rfl) (ok_X10_finding h1) ?_
        exact A_iret dX10_worth_41 (pI_go h)
-- BenchTimes.week
theorem dX10_week_0 : di cX10_week 0 (.iload_n 1) 1 1 := ⟨by decide +kernel, rfl⟩
theorem dX10_week_1 : di cX10_week 1 (.aload_n 0) 1 2 := ⟨by decide +kernel, rfl⟩
theorem dX10_week_2 : di cX10_week 2 (.getfield 189) 3 5 := ⟨by decide +kernel, rfl⟩
theorem dX10_week_5 : di cX10_week 5 (.sipush 500) 3 8 := ⟨by decide +kernel, rfl⟩
theorem dX10_week_8 : di cX10_week 8 (.invokestatic 121) 3 11 := ⟨by decide +kernel, rfl⟩
theorem dX10_week_11 : dj cX10_week 11 (.ifCond .ne) 14 20 := ⟨9, by decide +kernel, rfl, rfl⟩
theorem dX10_week_14 : di cX10_week 14 (.aload_n 0) 1 15 := ⟨by decide +kernel, rfl⟩
theorem dX10_week_15 : di cX10_week 15 (.iconst 1) 1 16 := ⟨by decide +kernel, rfl⟩
theorem dX10_week_16 : di cX10_week 16 (.invokevirtual 100) 3 19 := ⟨by decide +kernel, rfl⟩
theorem dX10_week_19 : di cX10_week 19 (.ireturn) 1 20 := ⟨by decide +kernel, rfl⟩
theorem dX10_week_20 : di cX10_week 20 (.iload_n 1) 1 21 := ⟨by decide +kernel, rfl⟩
theorem dX10_week_21 : di cX10_week 21 (.aload_n 0) 1 22 := ⟨by decide +kernel, rfl⟩
theorem dX10_week_22 : di cX10_week 22 (.getfield 189) 3 25 := ⟨by decide +kernel, rfl⟩
theorem dX10_week_25 : di cX10_week 25 (.isub) 1 26 := ⟨by decide +kernel, rfl⟩
theorem dX10_week_26 : di cX10_week 26 (.istore_n 2) 1 27 := ⟨by decide +kernel, rfl⟩
theorem dX10_week_27 : di cX10_week 27 (.aload_n 0) 1 28 := ⟨by decide +kernel, rfl⟩
theorem dX10_week_28 : di cX10_week 28 (.iload_n 1) 1 29 := ⟨by decide +kernel, rfl⟩
theorem dX10_week_29 : di cX10_week 29 (.putfield 189) 3 32 := ⟨by decide +kernel, rfl⟩
theorem dX10_week_32 : di cX10_week 32 (.iload_n 2) 1 33 := ⟨by decide +kernel, rfl⟩
theorem dX10_week_33 : di cX10_week 33 (.ireturn) 1 34 := ⟨by decide +kernel, rfl⟩
def f_X10_week (v1 : Int32) (M : Mem) : Option Ret := bE (f_X10_isWithin v1 (M.1 0 13) (500 : Int32) M) (fun r2 M1 => if r2 = 0 then (bE (f_X10_finding (1 : Int32) M1) (fun r6 M5 => some (r6, M5))) else (bI (v1 - (M1.1 0 13)) (fun x3 => bM (up2 M1 0 13 v1) (fun M4 => some (x3, M4)))))
set_option maxRecDepth 100000 in
theorem ok_X10_week {l : Launch} {g : Cx} {v1 : Int32} {M : Mem} {r : Int32} {Mr : Mem} (h : f_X10_week v1 M = some (r, Mr)) : CT l g yX10_week cX10_week 3 (some .int) 1 22 [.ref (g.1 0), .int v1] M (PI r Mr) := by
  refine CT_of (lv := [some (.ref (g.1 0)), some (.int v1), none]) (by decide) rfl (Nat.le_of_ble_eq_true rfl) ?_
  unfold f_X10_week at h
  refine A_iload_n dX10_week_0 rfl ?_
  refine A_aload_n dX10_week_1 rfl ?_
  refine A_getf dX10_week_2 fw_X10_189 ob0 rfl ?_
  refine A_sipush (v := 500) dX10_week_5 (by decide) ?_
  obtain ⟨r2, M1, h1, h⟩ := bE_go h
  refine A_cSi3 dX10_week_8 ml_X10_121 mb_X10_isWithin ms_X10_isWithin ⟨Nat.le_of_ble_eq_true rfl, Nat.le_of_ble_eq_true rfl⟩ (Nat.le_of_ble_eq_true rfl) (ok_X10_isWithin h1) ?_
  refine A_if_ne dX10_week_11 (fun hc => ?_) (fun hc => ?_)
  · have h := gF_go hc h
    refine A_iload_n dX10_week_20 rfl ?_
    refine A_aload_n dX10_week_21 rfl ?_
    refine A_getf dX10_week_22 fw_X10_189 ob0 rfl ?_
    refine A_isub dX10_week_25 ?_
    refine A_istoren2 dX10_week_26 (by decide) rfl (bI_go h (G := fun z => AT l g RX10 cX10_week 3 (some .int) (rmM 1 22) (PI r Mr) 27 [some (.ref (g.1 0)), some (.int v1), some (.int z)] [] M1) (fun x3 h => ?_))
    refine A_aload_n dX10_week_27 rfl ?_
    refine A_iload_n dX10_week_28 rfl ?_
    refine A_putf dX10_week_29 pw_X10_189 ob0 pf0_13 (Nat.le_of_ble_eq_true rfl) (bM_go h (fun M4 h => ?_))
    refine A_iload_n dX10_week_32 rfl ?_
    exact A_iret dX10_week_33 (pI_go h)
  · have h := gT_go hc h
    refine A_aload_n dX10_week_14 rfl ?_
    refine A_iconst (v := 1) dX10_week_15 (by decide) ?_
    obtain ⟨r6, M5, h1, h⟩ := bE_go h
    refine A_cVi1 dX10_week_16 ml_X10_100 mb_X10_finding mi_X10_finding ob0 rfl rfl ⟨Nat.le_of_ble_eq_true rfl, Nat.le_of_ble_eq_true rfl⟩ (Nat.le_of_ble_eq_true rfl) (ok_X10_finding h1) ?_
    exact A_iret dX10_week_19 (pI_go h)
-- BenchTimes.feed
theorem dX10_feed_0 : di cX10_feed 0 (.iload_n 1) 1 1 := ⟨by decide +kernel, rfl⟩
theorem dX10_feed_1 : di cX10_feed 1 (.iconst 0) 1 2 := ⟨by decide +kernel, rfl⟩
theorem dX10_feed_2 : di cX10_feed 2 (.sipush 255) 3 5 := ⟨by decide +kernel, rfl⟩
theorem dX10_feed_5 : di cX10_feed 5 (.invokestatic 121) 3 8 := ⟨by decide +kernel, rfl⟩
theorem dX10_feed_8 : dj cX10_feed 8 (.ifCond .ne) 11 17 := ⟨9, by decide +kernel, rfl, rfl⟩
theorem dX10_feed_11 : di cX10_feed 11 (.aload_n 0) 1 12 := ⟨by decide +kernel, rfl⟩
theorem dX10_feed_12 : di cX10_feed 12 (.iconst 1) 1 13 := ⟨by decide +kernel, rfl⟩
theorem dX10_feed_13 : di cX10_feed 13 (.invokevirtual 100) 3 16 := ⟨by decide +kernel, rfl⟩
theorem dX10_feed_16 : di cX10_feed 16 (.ireturn) 1 17 := ⟨by decide +kernel, rfl⟩
theorem dX10_feed_17 : di cX10_feed 17 (.aload_n 0) 1 18 := ⟨by decide +kernel, rfl⟩
theorem dX10_feed_18 : di cX10_feed 18 (.getfield 48) 3 21 := ⟨by decide +kernel, rfl⟩
theorem dX10_feed_21 : di cX10_feed 21 (.invokevirtual 228) 3 24 := ⟨by decide +kernel, rfl⟩
theorem dX10_feed_24 : dj cX10_feed 24 (.ifCond .eq) 27 33 := ⟨9, by decide +kernel, rfl, rfl⟩
theorem dX10_feed_27 : di cX10_feed 27 (.aload_n 0) 1 28 := ⟨by decide +kernel, rfl⟩
theorem dX10_feed_28 : di cX10_feed 28 (.iconst 4) 1 29 := ⟨by decide +kernel, rfl⟩
theorem dX10_feed_29 : di cX10_feed 29 (.invokevirtual 100) 3 32 := ⟨by decide +kernel, rfl⟩
theorem dX10_feed_32 : di cX10_feed 32 (.ireturn) 1 33 := ⟨by decide +kernel, rfl⟩
theorem dX10_feed_33 : di cX10_feed 33 (.aload_n 0) 1 34 := ⟨by decide +kernel, rfl⟩
theorem dX10_feed_34 : di cX10_feed 34 (.getfield 48) 3 37 := ⟨by decide +kernel, rfl⟩
theorem dX10_feed_37 : di cX10_feed 37 (.iload_n 1) 1 38 := ⟨by decide +kernel, rfl⟩
theorem dX10_feed_38 : di cX10_feed 38 (.invokevirtual 231) 3 41 := ⟨by decide +kernel, rfl⟩
theorem dX10_feed_41 : di cX10_feed 41 (.ireturn) 1 42 := ⟨by decide +kernel, rfl⟩
def f_X10_feed (v1 : Int32) (M : Mem) : Option Ret := bE (f_X10_isWithin v1 (0 : Int32) (255 : Int32) M) (fun r2 M1 => if r2 = 0 then (bE (f_X10_finding (1 : Int32) M1) (fun r10 M9 => some (r10, M9))) else (bE (f_X5_isFullOfBytes M1) (fun r4 M3 => if r4 = 0 then (bE (f_X5_addByte v1 M3) (fun r6 M5 => some (r6, M5))) else (bE (f_X10_finding (4 : Int32) M3) (fun r8 M7 => some (r8, M7))))))
set_option maxRecDepth 100000 in
theorem ok_X10_feed {l : Launch} {g : Cx} {v1 : Int32} {M : Mem} {r : Int32} {Mr : Mem} (h : f_X10_feed v1 M = some (r, Mr)) : CT l g yX10_feed cX10_feed 2 (some .int) 1 22 [.ref (g.1 0), .int v1] M (PI r Mr) := by
  refine CT_of (lv := [some (.ref (g.1 0)), some (.int v1)]) (by decide) rfl (Nat.le_of_ble_eq_true rfl) ?_
  unfold f_X10_feed at h
  refine A_iload_n dX10_feed_0 rfl ?_
  refine A_iconst (v := 0) dX10_feed_1 (by decide) ?_
  refine A_sipush (v := 255) dX10_feed_2 (by decide) ?_
  obtain ⟨r2, M1, h1, h⟩ := bE_go h
  refine A_cSi3 dX10_feed_5 ml_X10_121 mb_X10_isWithin ms_X10_isWithin ⟨Nat.le_of_ble_eq_true rfl, Nat.le_of_ble_eq_true rfl⟩ (Nat.le_of_ble_eq_true rfl) (ok_X10_isWithin h1) ?_
  refine A_if_ne dX10_feed_8 (fun hc => ?_) (fun hc => ?_)
  · have h := gF_go hc h
    refine A_aload_n dX10_feed_17 rfl ?_
    refine A_getf dX10_feed_18 fw_X10_48 ob0 rfl ?_
    obtain ⟨r4, M3, h1, h⟩ := bE_go h
    refine A_cVi0 dX10_feed_21 ml_X10_228 mb_X5_isFullOfBytes mi_X5_isFullOfBytes ob5 rfl rfl ⟨Nat.le_of_ble_eq_true rfl, Nat.le_of_ble_eq_true rfl⟩ (Nat.le_of_ble_eq_true rfl) (ok_X5_isFullOfBytes h1) ?_
    refine A_if_eq dX10_feed_24 (fun hc => ?_) (fun hc => ?_)
    · have h := gT_go hc h
      refine A_aload_n dX10_feed_33 rfl ?_
      refine A_getf dX10_feed_34 fw_X10_48 ob0 rfl ?_
      refine A_iload_n dX10_feed_37 rfl ?_
      obtain ⟨r6, M5, h1, h⟩ := bE_go h
      refine A_cVi1 dX10_feed_38 ml_X10_231 mb_X5_addByte mi_X5_addByte ob5 rfl rfl ⟨Nat.le_of_ble_eq_true rfl, Nat.le_of_ble_eq_true rfl⟩ (Nat.le_of_ble_eq_true rfl) (ok_X5_addByte h1) ?_
      exact A_iret dX10_feed_41 (pI_go h)
    · have h := gF_go hc h
      refine A_aload_n dX10_feed_27 rfl ?_
      refine A_iconst (v := 4) dX10_feed_28 (by decide) ?_
      obtain ⟨r8, M7, h1, h⟩ := bE_go h
      refine A_cVi1 dX10_feed_29 ml_X10_100 mb_X10_finding mi_X10_finding ob0 rfl rfl ⟨Nat.le_of_ble_eq_true rfl, Nat.le_of_ble_eq_true rfl⟩ (Nat.le_of_ble_eq_true rfl) (ok_X10_finding h1) ?_
      exact A_iret dX10_feed_32 (pI_go h)
  · have h := gT_go hc h
    refine A_aload_n dX10_feed_11 rfl ?_
    refine A_iconst (v := 1) dX10_feed_12 (by decide) ?_
    obtain ⟨r10, M9, h1, h⟩ := bE_go h
    refine A_cVi1 dX10_feed_13 ml_X10_100 mb_X10_finding mi_X10_finding ob0 rfl rfl ⟨Nat.le_of_ble_eq_true rfl, Nat.le_of_ble_eq_true rfl⟩ (Nat.le_of_ble_eq_true rfl) (ok_X10_finding h1) ?_
    exact A_iret dX10_feed_16 (pI_go h)
