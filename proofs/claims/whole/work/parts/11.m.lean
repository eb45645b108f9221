-- BenchTimes$Elements.setAllowances
theorem dX1_setAllowances_0 : di cX1_setAllowances 0 (.aload_n 0) 1 1 := ⟨by decide +kernel, rfl⟩
theorem dX1_setAllowances_1 : di cX1_setAllowances 1 (.iload_n 1) 1 2 := ⟨by decide +kernel, rfl⟩
theorem dX1_setAllowances_2 : di cX1_setAllowances 2 (.putfield 15) 3 5 := ⟨by decide +kernel, rfl⟩
theorem dX1_setAllowances_5 : di cX1_setAllowances 5 (.aload_n 0) 1 6 := ⟨by decide +kernel, rfl⟩
theorem dX1_setAllowances_6 : di cX1_setAllowances 6 (.iload_n 2) 1 7 := ⟨by decide +kernel, rfl⟩
theorem dX1_setAllowances_7 : di cX1_setAllowances 7 (.putfield 19) 3 10 := ⟨by decide +kernel, rfl⟩
theorem dX1_setAllowances_10 : di cX1_setAllowances 10 (.return_) 1 11 := ⟨by decide +kernel, rfl⟩
def f_X1_setAllowances (v1 : Int32) (v2 : Int32) (M : Mem) : Option Ret := bM (up2 M 1 2 v1) (fun M1 => bM (up2 M1 1 3 v2) (fun M2 => some (0, M2)))
set_option maxRecDepth 100000 in
theorem ok_X1_setAllowances {l : Launch} {g : Cx} {v1 : Int32} {v2 : Int32} {M : Mem} {r : Int32} {Mr : Mem} (h : f_X1_setAllowances v1 v2 M = some (r, Mr)) : CT l g yX1_setAllowances cX1_setAllowances 3 none 0 0 [.ref (g.1 1), .int v1, .int v2] M (PV r Mr) := by
  refine CT_of (lv := [some (.ref (g.1 1)), some (.int v1), some (.int v2)]) (by decide) rfl (Nat.le_of_ble_eq_true rfl) ?_
  unfold f_X1_setAllowances at h
  refine A_aload_n dX1_setAllowances_0 rfl ?_
  refine A_iload_n dX1_setAllowances_1 rfl ?_
  refine A_putf dX1_setAllowances_2 pw_X1_15 ob1 pf1_2 (Nat.le_of_ble_eq_true rfl) (bM_go h (fun M1 h => ?_))
  refine A_aload_n dX1_setAllowances_5 rfl ?_
  refine A_iload_n dX1_setAllowances_6 rfl ?_
  refine A_putf dX1_setAllowances_7 pw_X1_19 ob1 pf1_3 (Nat.le_of_ble_eq_true rfl) (bM_go h (fun M2 h => ?_))
  exact A_vret dX1_setAllowances_10 (pV_go h)
-- BenchTimes$Elements.allowanceOf
theorem dX1_allowanceOf_0 : di cX1_allowanceOf 0 (.aload_n 0) 1 1 := ⟨by decide +kernel, rfl⟩
theorem dX1_allowanceOf_1 : di cX1_allowanceOf 1 (.getfield 11) 3 4 := ⟨by decide +kernel, rfl⟩
theorem dX1_allowanceOf_4 : di cX1_allowanceOf 4 (.iload_n 1) 1 5 := ⟨by decide +kernel, rfl⟩
theorem dX1_allowanceOf_5 : di cX1_allowanceOf 5 (.iaload) 1 6 := ⟨by decide +kernel, rfl⟩
theorem dX1_allowanceOf_6 : dts cX1_allowanceOf 6 (1) (3) 61 [32, 42, 54] := ⟨55, #[26, 36, 48], 26, by decide +kernel, rfl, by decide +kernel⟩
theorem dX1_allowanceOf_32 : di cX1_allowanceOf 32 (.aload_n 0) 1 33 := ⟨by decide +kernel, rfl⟩
theorem dX1_allowanceOf_33 : di cX1_allowanceOf 33 (.getfield 15) 3 36 := ⟨by decide +kernel, rfl⟩
theorem dX1_allowanceOf_36 : di cX1_allowanceOf 36 (.aload_n 0) 1 37 := ⟨by decide +kernel, rfl⟩
theorem dX1_allowanceOf_37 : di cX1_allowanceOf 37 (.getfield 19) 3 40 := ⟨by decide +kernel, rfl⟩
theorem dX1_allowanceOf_40 : di cX1_allowanceOf 40 (.iadd) 1 41 := ⟨by decide +kernel, rfl⟩
theorem dX1_allowanceOf_41 : di cX1_allowanceOf 41 (.ireturn) 1 42 := ⟨by decide +kernel, rfl⟩
theorem dX1_allowanceOf_42 : di cX1_allowanceOf 42 (.aload_n 0) 1 43 := ⟨by decide +kernel, rfl⟩
theorem dX1_allowanceOf_43 : di cX1_allowanceOf 43 (.getfield 15) 3 46 := ⟨by decide +kernel, rfl⟩
theorem dX1_allowanceOf_46 : di cX1_allowanceOf 46 (.iconst 3) 1 47 := ⟨by decide +kernel, rfl⟩
theorem dX1_allowanceOf_47 : di cX1_allowanceOf 47 (.aload_n 0) 1 48 := ⟨by decide +kernel, rfl⟩
theorem dX1_allowanceOf_48 : di cX1_allowanceOf 48 (.getfield 19) 3 51 := ⟨by decide +kernel, rfl⟩
theorem dX1_allowanceOf_51 : di cX1_allowanceOf 51 (.imul) 1 52 := ⟨by decide +kernel, rfl⟩
theorem dX1_allowanceOf_52 : di cX1_allowanceOf 52 (.iadd) 1 53 := ⟨by decide +kernel, rfl⟩
theorem dX1_allowanceOf_53 : di cX1_allowanceOf 53 (.ireturn) 1 54 := ⟨by decide +kernel, rfl⟩
theorem dX1_allowanceOf_54 : di cX1_allowanceOf 54 (.aload_n 0) 1 55 := ⟨by decide +kernel, rfl⟩
theorem dX1_allowanceOf_55 : di cX1_allowanceOf 55 (.getfield 15) 3 58 := ⟨by decide +kernel, rfl⟩
theorem dX1_allowanceOf_58 : di cX1_allowanceOf 58 (.iconst 2) 1 59 := ⟨by decide +kernel, rfl⟩
theorem dX1_allowanceOf_59 : di cX1_allowanceOf 59 (.idiv) 1 60 := ⟨by decide +kernel, rfl⟩
theorem dX1_allowanceOf_60 : di cX1_allowanceOf 60 (.ireturn) 1 61 := ⟨by decide +kernel, rfl⟩
theorem dX1_allowanceOf_61 : di cX1_allowanceOf 61 (.aload_n 0) 1 62 := ⟨by decide +kernel, rfl⟩
theorem dX1_allowanceOf_62 : di cX1_allowanceOf 62 (.getfield 15) 3 65 := ⟨by decide +kernel, rfl⟩
theorem dX1_allowanceOf_65 : di cX1_allowanceOf 65 (.ireturn) 1 66 := ⟨by decide +kernel, rfl⟩
def f_X1_allowanceOf (v1 : Int32) (M : Mem) : Option Ret := gV v1 12 (if (M.1 14 v1.toNatClampNeg) = (1 : Int32) then (some ((M.1 1 2) + (M.1 1 3), M)) else (if (M.1 14 v1.toNatClampNeg) = (2 : Int32) then (some ((M.1 1 2) + ((3 : Int32) * (M.1 1 3)), M)) else (if (M.1 14 v1.toNatClampNeg) = (3 : Int32) then (some ((M.1 1 2) / (2 : Int32), M)) else (some (M.1 1 2, M)))))
set_option maxRecDepth 100000 in
theorem ok_X1_allowanceOf {l : Launch} {g : Cx} {v1 : Int32} {M : Mem} {r : Int32} {Mr : Mem} (h : f_X1_allowanceOf v1 M = some (r, Mr)) : CT l g yX1_allowanceOf cX1_allowanceOf 2 (some .int) 0 0 [.ref (g.1 1), .int v1] M (PI r Mr) := by
  refine CT_of (lv := [some (.ref (g.1 1)), some (.int v1)]) (by decide) rfl (Nat.le_of_ble_eq_true rfl) ?_
  unfold f_X1_allowanceOf at h
  refine A_aload_n dX1_allowanceOf_0 rfl ?_
  refine A_getf dX1_allowanceOf_1 fw_X1_11 ob1 rfl ?_
  refine A_iload_n dX1_allowanceOf_4 rfl ?_
  obtain ⟨hg, h⟩ := gV_go h
  refine A_iald dX1_allowanceOf_5 ia14 hg ?_
  by_cases hc0 : (M.1 14 v1.toNatClampNeg) = (1 : Int32)
  · have h := gT_go hc0 h
    refine A_tsIn (k0 := 0) dX1_allowanceOf_6 (by rw [hc0]; decide) rfl ?_
    refine A_aload_n dX1_allowanceOf_32 rfl ?_
    refine A_getf dX1_allowanceOf_33 fw_X1_15 ob1 rfl ?_
    refine A_aload_n dX1_allowanceOf_36 rfl ?_
    refine A_getf dX1_allowanceOf_37 fw_X1_19 ob1 rfl ?_
    refine A_iadd dX1_allowanceOf_40 ?_
    exact A_iret dX1_allowanceOf_41 (pI_go h)
  have h := gF_go hc0 h
  by_cases hc1 : (M.1 14 v1.toNatClampNeg) = (2 : Int32)
  · have h := gT_go hc1 h
    refine A_tsIn (k0 := 1) dX1_allowanceOf_6 (by rw [hc1]; decide) rfl ?_
    refine A_aload_n dX1_allowanceOf_42 rfl ?_
    refine A_getf dX1_allowanceOf_43 fw_X1_15 ob1 rfl ?_
    refine A_iconst (v := 3) dX1_allowanceOf_46 (by decide) ?_
    refine A_aload_n dX1_allowanceOf_47 rfl ?_
    refine A_getf dX1_allowanceOf_48 fw_X1_19 ob1 rfl ?_
    refine A_imul dX1_allowanceOf_51 ?_
    refine A_iadd dX1_allowanceOf_52 ?_
    exact A_iret dX1_allowanceOf_53 (pI_go h)
  have h := gF_go hc1 h
  by_cases hc2 : (M.1 14 v1.toNatClampNeg) = (3 : Int32)
  · have h := gT_go hc2 h
    refine A_tsIn (k0 := 2) dX1_allowanceOf_6 (by rw [hc2]; decide) rfl ?_
    refine A_aload_n dX1_allowanceOf_54 rfl ?_
    refine A_getf dX1_allowanceOf_55 fw_X1_15 ob1 rfl ?_
    refine A_iconst (v := 2) dX1_allowanceOf_58 (by decide) ?_
    refine A_idiv dX1_allowanceOf_59 (by decide) ?_
    exact A_iret dX1_allowanceOf_60 (pI_go h)
  have h := gF_go hc2 h
  refine A_tsOut dX1_allowanceOf_6 (tsw_out (fun k h1 h2 => ?_)) ?_
  · rcases (show k = 1 ∨ k = 2 ∨ k = 3 by omega) with rfl | rfl | rfl
    · exact hc0
    · exact hc1
    · exact hc2
  · refine A_aload_n dX1_allowanceOf_61 rfl ?_
    refine A_getf dX1_allowanceOf_62 fw_X1_15 ob1 rfl ?_
    exact A_iret dX1_allowanceOf_65 (pI_go h)
-- BenchTimes$Jobs.many
theorem dX2_many_0 : di cX2_many 0 (.aload_n 0) 1 1 := ⟨by decide +kernel, rfl⟩
theorem dX2_many_1 : di cX2_many 1 (.getfield 25) 3 4 := ⟨by decide +kernel, rfl⟩
theorem dX2_many_4 : di cX2_many 4 (.ireturn) 1 5 := ⟨by decide +kernel, rfl⟩
def f_X2_many  (M : Mem) : Option Ret := some (M.1 3 4, M)
set_option maxRecDepth 100000 in
theorem ok_X2_many {l : Launch} {g : Cx}  {M : Mem} {r : Int32} {Mr : Mem} (h : f_X2_many  M = some (r, Mr)) : CT l g yX2_many cX2_many 1 (some .int) 0 0 [.ref (g.1 3)] M (PI r Mr) := by
  refine CT_of (lv := [some (.ref (g.1 3))]) (by decide) rfl (Nat.le_of_ble_eq_true rfl) ?_
  unfold f_X2_many at h
  refine A_aload_n dX2_many_0 rfl ?_
  refine A_getf dX2_many_1 fw_X2_25 ob3 rfl ?_
  exact A_iret dX2_many_4 (pI_go h)
-- BenchTimes$Jobs.has
theorem dX2_has_0 : di cX2_has 0 (.iload_n 1) 1 1 := ⟨by decide +kernel, rfl⟩
theorem dX2_has_1 : di cX2_has 1 (.iconst 0) 1 2 := ⟨by decide +kernel, rfl⟩
theorem dX2_has_2 : di cX2_has 2 (.aload_n 0) 1 3 := ⟨by decide +kernel, rfl⟩
theorem dX2_has_3 : di cX2_has 3 (.getfield 25) 3 6 := ⟨by decide +kernel, rfl⟩
theorem dX2_has_6 : di cX2_has 6 (.iconst 1) 1 7 := ⟨by decide +kernel, rfl⟩
theorem dX2_has_7 : di cX2_has 7 (.isub) 1 8 := ⟨by decide +kernel, rfl⟩
theorem dX2_has_8 : di cX2_has 8 (.invokestatic 29) 3 11 := ⟨by decide +kernel, rfl⟩
theorem dX2_has_11 : di cX2_has 11 (.ireturn) 1 12 := ⟨by decide +kernel, rfl⟩
def f_X2_has (v1 : Int32) (M : Mem) : Option Ret := bE (f_X10_isWithin v1 (0 : Int32) ((M.1 3 4) - (1 : Int32)) M) (fun r2 M1 => gZ r2 (some (r2, M1)))
set_option maxRecDepth 100000 in
theorem ok_X2_has {l : Launch} {g : Cx} {v1 : Int32} {M : Mem} {r : Int32} {Mr : Mem} (h : f_X2_has v1 M = some (r, Mr)) : CT l g yX2_has cX2_has 2 (some .boolean) 1 22 [.ref (g.1 3), .int v1] M (PI r Mr) := by
  refine CT_of (lv := [some (.ref (g.1 3)), some (.int v1)]) (by decide) rfl (Nat.le_of_ble_eq_true rfl) ?_
  unfold f_X2_has at h
  refine A_iload_n dX2_has_0 rfl ?_
  refine A_iconst (v := 0) dX2_has_1 (by decide) ?_
  refine A_aload_n dX2_has_2 rfl ?_
  refine A_getf dX2_has_3 fw_X2_25 ob3 rfl ?_
  refine A_iconst (v := 1) dX2_has_6 (by decide) ?_
  refine A_isub dX2_has_7 ?_
  obtain ⟨r2, M1, h1, h⟩ := bE_go h
  refine A_cNi3 dX2_has_8 nl_X2_29 mb_X10_isWithin ms_X10_isWithin ⟨Nat.le_of_ble_eq_true rfl, Nat.le_of_ble_eq_true rfl⟩ (Nat.le_of_ble_eq_true rfl) (ok_X10_isWithin h1) ?_
  obtain ⟨hg, h⟩ := gZ_go h
  exact A_zret dX2_has_11 hg (pI_go h)
-- BenchTimes$Jobs.isFull
theorem dX2_isFull_0 : di cX2_isFull 0 (.aload_n 0) 1 1 := ⟨by decide +kernel, rfl⟩
theorem dX2_isFull_1 : di cX2_isFull 1 (.getfield 25) 3 4 := ⟨by decide +kernel, rfl⟩
theorem dX2_isFull_4 : di cX2_isFull 4 (.bipush 8) 2 6 := ⟨by decide +kernel, rfl⟩
theorem dX2_isFull_6 : dj cX2_isFull 6 (.if_icmp .lt) 9 13 := ⟨7, by decide +kernel, rfl, rfl⟩
theorem dX2_isFull_9 : di cX2_isFull 9 (.iconst 1) 1 10 := ⟨by decide +kernel, rfl⟩
theorem dX2_isFull_10 : dj cX2_isFull 10 .goto 13 14 := ⟨4, by decide +kernel, rfl, rfl⟩
theorem dX2_isFull_13 : di cX2_isFull 13 (.iconst 0) 1 14 := ⟨by decide +kernel, rfl⟩
theorem dX2_isFull_14 : di cX2_isFull 14 (.ireturn) 1 15 := ⟨by decide +kernel, rfl⟩
def f_X2_isFull  (M : Mem) : Option Ret := jn (α := Int32 → Option Ret) (fun (z2 : Int32) => gZ z2 (some (z2, M))) (fun J1 => if (M.1 3 4) < (8 : Int32) then (J1 (0 : Int32)) else (J1 (1 : Int32)))
set_option maxRecDepth 100000 in
theorem ok_X2_isFull {l : Launch} {g : Cx}  {M : Mem} {r : Int32} {Mr : Mem} (h : f_X2_isFull  M = some (r, Mr)) : CT l g yX2_isFull cX2_isFull 1 (some .boolean) 0 0 [.ref (g.1 3)] M (PI r Mr) := by
  refine CT_of (lv := [some (.ref (g.1 3))]) (by decide) rfl (Nat.le_of_ble_eq_true rfl) ?_
  unfold f_X2_isFull at h
  refine A_aload_n dX2_isFull_0 rfl ?_
  refine A_getf dX2_isFull_1 fw_X2_25 ob3 rfl ?_
  refine A_bipush (v := 8) dX2_isFull_4 (by decide) ?_
  obtain ⟨J1, hJ1, h⟩ := jn_go h
  have JJ1 : ∀ (z2 : Int32), J1 z2 = some (r, Mr) → AT l g RX2 cX2_isFull 1 (some .boolean) (rmM 0 0) (PI r Mr) 14 [some (.ref (g.1 3))] [.int z2] M := by
    intro z2 h
    rw [hJ1] at h
    obtain ⟨hg, h⟩ := gZ_go h
    exact A_zret dX2_isFull_14 hg (pI_go h)
  refine A_icmp_lt dX2_isFull_6 (fun hc => ?_) (fun hc => ?_)
  · have h := gT_go hc h
    refine A_iconst (v := 0) dX2_isFull_13 (by decide) ?_
    exact A_le (lvLe_s lvLe_0) (JJ1 _ h)
  · have h := gF_go hc h
    refine A_iconst (v := 1) dX2_isFull_9 (by decide) ?_
    refine A_goto dX2_isFull_10 ?_
    exact A_le (lvLe_s lvLe_0) (JJ1 _ h)
-- BenchTimes$Jobs.add
theorem dX2_add_0 : di cX2_add 0 (.aload_n 0) 1 1 := ⟨by decide +kernel, rfl⟩
theorem dX2_add_1 : di cX2_add 1 (.dup) 1 2 := ⟨by decide +kernel, rfl⟩
theorem dX2_add_2 : di cX2_add 2 (.getfield 25) 3 5 := ⟨by decide +kernel, rfl⟩
theorem dX2_add_5 : di cX2_add 5 (.iconst 1) 1 6 := ⟨by decide +kernel, rfl⟩
theorem dX2_add_6 : di cX2_add 6 (.iadd) 1 7 := ⟨by decide +kernel, rfl⟩
theorem dX2_add_7 : di cX2_add 7 (.putfield 25) 3 10 := ⟨by decide +kernel, rfl⟩
theorem dX2_add_10 : di cX2_add 10 (.aload_n 0) 1 11 := ⟨by decide +kernel, rfl⟩
theorem dX2_add_11 : di cX2_add 11 (.getfield 25) 3 14 := ⟨by decide +kernel, rfl⟩
theorem dX2_add_14 : di cX2_add 14 (.iconst 1) 1 15 := ⟨by decide +kernel, rfl⟩
theorem dX2_add_15 : di cX2_add 15 (.isub) 1 16 := ⟨by decide +kernel, rfl⟩
theorem dX2_add_16 : di cX2_add 16 (.ireturn) 1 17 := ⟨by decide +kernel, rfl⟩
def f_X2_add  (M : Mem) : Option Ret := bM (up2 M 3 4 ((M.1 3 4) + (1 : Int32))) (fun M1 => some ((M1.1 3 4) - (1 : Int32), M1))
set_option maxRecDepth 100000 in
theorem ok_X2_add {l : Launch} {g : Cx}  {M : Mem} {r : Int32} {Mr : Mem} (h : f_X2_add  M = some (r, Mr)) : CT l g yX2_add cX2_add 1 (some .int) 0 0 [.ref (g.1 3)] M (PI r Mr) := by
  refine CT_of (lv := [some (.ref (g.1 3))]) (by decide) rfl (Nat.le_of_ble_eq_true rfl) ?_
  unfold f_X2_add at h
  refine A_aload_n dX2_add_0 rfl ?_
  refine A_dup dX2_add_1 rfl ?_
  refine A_getf dX2_add_2 fw_X2_25 ob3 rfl ?_
  refine A_iconst (v := 1) dX2_add_5 (by decide) ?_
  refine A_iadd dX2_add_6 ?_
  refine A_putf dX2_add_7 pw_X2_25 ob3 pf3_4 (Nat.le_of_ble_eq_true rfl) (bM_go h (fun M1 h => ?_))
  refine A_aload_n dX2_add_10 rfl ?_
  refine A_getf dX2_add_11 fw_X2_25 ob3 rfl ?_
  refine A_iconst (v := 1) dX2_add_14 (by decide) ?_
  refine A_isub dX2_add_15 ?_
  exact A_iret dX2_add_16 (pI_go h)
-- BenchTimes$Jobs.partMany
theorem dX2_partMany_0 : di cX2_partMany 0 (.aload_n 0) 1 1 := ⟨by decide +kernel, rfl⟩
theorem dX2_partMany_1 : di cX2_partMany 1 (.getfield 9) 3 4 := ⟨by decide +kernel, rfl⟩
theorem dX2_partMany_4 : di cX2_partMany 4 (.iload_n 1) 1 5 := ⟨by decide +kernel, rfl⟩
theorem dX2_partMany_5 : di cX2_partMany 5 (.iaload) 1 6 := ⟨by decide +kernel, rfl⟩
theorem dX2_partMany_6 : di cX2_partMany 6 (.ireturn) 1 7 := ⟨by decide +kernel, rfl⟩
def f_X2_partMany (v1 : Int32) (M : Mem) : Option Ret := gV v1 8 (some (M.1 22 v1.toNatClampNeg, M))
set_option maxRecDepth 100000 in
theorem ok_X2_partMany {l : Launch} {g : Cx} {v1 : Int32} {M : Mem} {r : Int32} {Mr : Mem} (h : f_X2_partMany v1 M = some (r, Mr)) : CT l g yX2_partMany cX2_partMany 2 (some .int) 0 0 [.ref (g.1 3), .int v1] M (PI r Mr) := by
  refine CT_of (lv := [some (.ref (g.1 3)), some (.int v1)]) (by decide) rfl (Nat.le_of_ble_eq_true rfl) ?_
  unfold f_X2_partMany at h
  refine A_aload_n dX2_partMany_0 rfl ?_
  refine A_getf dX2_partMany_1 fw_X2_9 ob3 rfl ?_
  refine A_iload_n dX2_partMany_4 rfl ?_
  obtain ⟨hg, h⟩ := gV_go h
  refine A_iald dX2_partMany_5 ia22 hg ?_
  exact A_iret dX2_partMany_6 (pI_go h)
-- BenchTimes$Jobs.isFullOfParts
theorem dX2_isFullOfParts_0 : di cX2_isFullOfParts 0 (.aload_n 0) 1 1 := ⟨by decide +kernel, rfl⟩
theorem dX2_isFullOfParts_1 : di cX2_isFullOfParts 1 (.getfield 9) 3 4 := ⟨by decide +kernel, rfl⟩
theorem dX2_isFullOfParts_4 : di cX2_isFullOfParts 4 (.iload_n 1) 1 5 := ⟨by decide +kernel, rfl⟩
theorem dX2_isFullOfParts_5 : di cX2_isFullOfParts 5 (.iaload) 1 6 := ⟨by decide +kernel, rfl⟩
theorem dX2_isFullOfParts_6 : di cX2_isFullOfParts 6 (.bipush 6) 2 8 := ⟨by decide +kernel, rfl⟩
theorem dX2_isFullOfParts_8 : dj cX2_isFullOfParts 8 (.if_icmp .lt) 11 15 := ⟨7, by decide +kernel, rfl, rfl⟩
theorem dX2_isFullOfParts_11 : di cX2_isFullOfParts 11 (.iconst 1) 1 12 := ⟨by decide +kernel, rfl⟩
theorem dX2_isFullOfParts_12 : dj cX2_isFullOfParts 12 .goto 15 16 := ⟨4, by decide +kernel, rfl, rfl⟩
theorem dX2_isFullOfParts_15 : di cX2_isFullOfParts 15 (.iconst 0) 1 16 := ⟨by decide +kernel, rfl⟩
theorem dX2_isFullOfParts_16 : di cX2_isFullOfParts 16 (.ireturn) 1 17 := ⟨by decide +kernel, rfl⟩
def f_X2_isFullOfParts (v1 : Int32) (M : Mem) : Option Ret := gV v1 8 (jn (α := Int32 → Option Ret) (fun (z2 : Int32) => gZ z2 (some (z2, M))) (fun J1 => if (M.1 22 v1.toNatClampNeg) < (6 : Int32) then (J1 (0 : Int32)) else (J1 (1 : Int32))))
set_option maxRecDepth 100000 in
theorem ok_X2_isFullOfParts {l : Launch} {g : Cx} {v1 : Int32} {M : Mem} {r : Int32} {Mr : Mem} (h : f_X2_isFullOfParts v1 M = some (r, Mr)) : CT l g yX2_isFullOfParts cX2_isFullOfParts 2 (some .boolean) 0 0 [.ref (g.1 3), .int v1] M (PI r Mr) := by
  refine CT_of (lv := [some (.ref (g.1 3)), some (.int v1)]) (by decide) rfl (Nat.le_of_ble_eq_true rfl) ?_
  unfold f_X2_isFullOfParts at h
  refine A_aload_n dX2_isFullOfParts_0 rfl ?_
  refine A_getf dX2_isFullOfParts_1 fw_X2_9 ob3 rfl ?_
  refine A_iload_n dX2_isFullOfParts_4 rfl ?_
  obtain ⟨hg, h⟩ := gV_go h
  refine A_iald dX2_isFullOfParts_5 ia22 hg ?_
  refine A_bipush (v := 6) dX2_isFullOfParts_6 (by decide) ?_
  obtain ⟨J1, hJ1, h⟩ := jn_go h
  have JJ1 : ∀ (z2 : Int32), J1 z2 = some (r, Mr) → AT l g RX2 cX2_isFullOfParts 2 (some .boolean) (rmM 0 0) (PI r Mr) 16 [some (.ref (g.1 3)), some (.int v1)] [.int z2] M := by
    intro z2 h
    rw [hJ1] at h
    obtain ⟨hg, h⟩ := gZ_go h
    exact A_zret dX2_isFullOfParts_16 hg (pI_go h)
  refine A_icmp_lt dX2_isFullOfParts_8 (fun hc => ?_) (fun hc => ?_)
  · have h := gT_go hc h
    refine A_iconst (v := 0) dX2_isFullOfParts_15 (by decide) ?_
    exact A_le (lvLe_s (lvLe_s lvLe_0)) (JJ1 _ h)
  · have h := gF_go hc h
    refine A_iconst (v := 1) dX2_isFullOfParts_11 (by decide) ?_
    refine A_goto dX2_isFullOfParts_12 ?_
    exact A_le (lvLe_s (lvLe_s lvLe_0)) (JJ1 _ h)
-- BenchTimes$Jobs.addPart
theorem dX2_addPart_0 : di cX2_addPart 0 (.iload_n 1) 1 1 := ⟨by decide +kernel, rfl⟩
theorem dX2_addPart_1 : di cX2_addPart 1 (.bipush 6) 2 3 := ⟨by decide +kernel, rfl⟩
theorem dX2_addPart_3 : di cX2_addPart 3 (.imul) 1 4 := ⟨by decide +kernel, rfl⟩
theorem dX2_addPart_4 : di cX2_addPart 4 (.aload_n 0) 1 5 := ⟨by decide +kernel, rfl⟩
theorem dX2_addPart_5 : di cX2_addPart 5 (.getfield 9) 3 8 := ⟨by decide +kernel, rfl⟩
theorem dX2_addPart_8 : di cX2_addPart 8 (.iload_n 1) 1 9 := ⟨by decide +kernel, rfl⟩
theorem dX2_addPart_9 : di cX2_addPart 9 (.iaload) 1 10 := ⟨by decide +kernel, rfl⟩
theorem dX2_addPart_10 : di cX2_addPart 10 (.iadd) 1 11 := ⟨by decide +kernel, rfl⟩
theorem dX2_addPart_11 : di cX2_addPart 11 (.istore 4) 2 13 := ⟨by decide +kernel, rfl⟩
theorem dX2_addPart_13 : di cX2_addPart 13 (.aload_n 0) 1 14 := ⟨by decide +kernel, rfl⟩
theorem dX2_addPart_14 : di cX2_addPart 14 (.getfield 15) 3 17 := ⟨by decide +kernel, rfl⟩
theorem dX2_addPart_17 : di cX2_addPart 17 (.iload 4) 2 19 := ⟨by decide +kernel, rfl⟩
theorem dX2_addPart_19 : di cX2_addPart 19 (.iload_n 2) 1 20 := ⟨by decide +kernel, rfl⟩
theorem dX2_addPart_20 : di cX2_addPart 20 (.iastore) 1 21 := ⟨by decide +kernel, rfl⟩
theorem dX2_addPart_21 : di cX2_addPart 21 (.aload_n 0) 1 22 := ⟨by decide +kernel, rfl⟩
theorem dX2_addPart_22 : di cX2_addPart 22 (.getfield 18) 3 25 := ⟨by decide +kernel, rfl⟩
theorem dX2_addPart_25 : di cX2_addPart 25 (.iload 4) 2 27 := ⟨by decide +kernel, rfl⟩
theorem dX2_addPart_27 : di cX2_addPart 27 (.iload_n 3) 1 28 := ⟨by decide +kernel, rfl⟩
theorem dX2_addPart_28 : di cX2_addPart 28 (.iastore) 1 29 := ⟨by decide +kernel, rfl⟩
theorem dX2_addPart_29 : di cX2_addPart 29 (.aload_n 0) 1 30 := ⟨by decide +kernel, rfl⟩
theorem dX2_addPart_30 : di cX2_addPart 30 (.getfield 21) 3 33 := ⟨by decide +kernel, rfl⟩
theorem dX2_addPart_33 : di cX2_addPart 33 (.iload 4) 2 35 := ⟨by decide +kernel, rfl⟩
theorem dX2_addPart_35 : di cX2_addPart 35 (.iconst 1) 1 36 := ⟨by decide +kernel, rfl⟩
theorem dX2_addPart_36 : di cX2_addPart 36 (.bastore) 1 37 := ⟨by decide +kernel, rfl⟩
theorem dX2_addPart_37 : di cX2_addPart 37 (.aload_n 0) 1 38 := ⟨by decide +kernel, rfl⟩
theorem dX2_addPart_38 : di cX2_addPart 38 (.getfield 9) 3 41 := ⟨by decide +kernel, rfl⟩
theorem dX2_addPart_41 : di cX2_addPart 41 (.iload_n 1) 1 42 := ⟨by decide +kernel, rfl⟩
theorem dX2_addPart_42 : di cX2_addPart 42 (.dup2) 1 43 := ⟨by decide +kernel, rfl⟩
theorem dX2_addPart_43 : di cX2_addPart 43 (.iaload) 1 44 := ⟨by decide +kernel, rfl⟩
theorem dX2_addPart_44 : di cX2_addPart 44 (.iconst 1) 1 45 := ⟨by decide +kernel, rfl⟩
theorem dX2_addPart_45 : di cX2_addPart 45 (.iadd) 1 46 := ⟨by decide +kernel, rfl⟩
theorem dX2_addPart_46 : di cX2_addPart 46 (.iastore) 1 47 := ⟨by decide +kernel, rfl⟩
theorem dX2_addPart_47 : di cX2_addPart 47 (.aload_n 0) 1 48 := ⟨by decide +kernel, rfl⟩
theorem dX2_addPart_48 : di cX2_addPart 48 (.getfield 9) 3 51 := ⟨by decide +kernel, rfl⟩
theorem dX2_addPart_51 : di cX2_addPart 51 (.iload_n 1) 1 52 := ⟨by decide +kernel, rfl⟩
theorem dX2_addPart_52 : di cX2_addPart 52 (.iaload) 1 53 := ⟨by decide +kernel, rfl⟩
theorem dX2_addPart_53 : di cX2_addPart 53 (.ireturn) 1 54 := ⟨by decide +kernel, rfl⟩
def f_X2_addPart (v1 : Int32) (v2 : Int32) (v3 : Int32) (M : Mem) : Option Ret := gV v1 8 (bI ((v1 * (6 : Int32)) + (M.1 22 v1.toNatClampNeg)) (fun x1 => gV x1 48 (bM (up2 M 23 x1.toNatClampNeg v2) (fun M2 => gV x1 48 (bM (up2 M2 24 x1.toNatClampNeg v3) (fun M3 => gV x1 48 (bM (up2 M3 25 x1.toNatClampNeg ((1 : Int32) &&& 1)) (fun M4 => gV v1 8 (gV v1 8 (bM (up2 M4 22 v1.toNatClampNeg ((M4.1 22 v1.toNatClampNeg) + (1 : Int32))) (fun M5 => gV v1 8 (some (M5.1 22 v1.toNatClampNeg, M5)))))))))))))
set_option maxRecDepth 100000 in
theorem ok_X2_addPart {l : Launch} {g : Cx} {v1 : Int32} {v2 : Int32} {v3 : Int32} {M : Mem} {r : Int32} {Mr : Mem} (h : f_X2_addPart v1 v2 v3 M = some (r, Mr)) : CT l g yX2_addPart cX2_addPart 5 (some .int) 0 0 [.ref (g.1 3), .int v1, .int v2, .int v3] M (PI r Mr) := by
  refine CT_of (lv := [some (.ref (g.1 3)), some (.int v1), some (.int v2), some (.int v3), none]) (by decide) rfl (Nat.le_of_ble_eq_true rfl) ?_
  unfold f_X2_addPart at h
  refine A_iload_n dX2_addPart_0 rfl ?_
  refine A_bipush (v := 6) dX2_addPart_1 (by decide) ?_
  refine A_imul dX2_addPart_3 ?_
  refine A_aload_n dX2_addPart_4 rfl ?_
  refine A_getf dX2_addPart_5 fw_X2_9 ob3 rfl ?_
  refine A_iload_n dX2_addPart_8 rfl ?_
  obtain ⟨hg, h⟩ := gV_go h
  refine A_iald dX2_addPart_9 ia22 hg ?_
  refine A_iadd dX2_addPart_10 ?_
  refine A_istore4 dX2_addPart_11 (by decide) rfl (bI_go h (G := fun z => AT l g RX2 cX2_addPart 5 (some .int) (rmM 0 0) (PI r Mr) 13 [some (.ref (g.1 3)), some (.int v1), some (.int v2), some (.int v3), some (.int z)] [] M) (fun x1 h => ?_))
  refine A_aload_n dX2_addPart_13 rfl ?_
  refine A_getf dX2_addPart_14 fw_X2_15 ob3 rfl ?_
  refine A_iload dX2_addPart_17 rfl ?_
  refine A_iload_n dX2_addPart_19 rfl ?_
  obtain ⟨hg, h⟩ := gV_go h
  refine A_iast dX2_addPart_20 ia23 hg (bM_go h (fun M2 h => ?_))
  refine A_aload_n dX2_addPart_21 rfl ?_
  refine A_getf dX2_addPart_22 fw_X2_18 ob3 rfl ?_
  refine A_iload dX2_addPart_25 rfl ?_
  refine A_iload_n dX2_addPart_27 rfl ?_
  obtain ⟨hg, h⟩ := gV_go h
  refine A_iast dX2_addPart_28 ia24 hg (bM_go h (fun M3 h => ?_))
  refine A_aload_n dX2_addPart_29 rfl ?_
  refine A_getf dX2_addPart_30 fw_X2_21 ob3 rfl ?_
  refine A_iload dX2_addPart_33 rfl ?_
  refine A_iconst (v := 1) dX2_addPart_35 (by decide) ?_
  obtain ⟨hg, h⟩ := gV_go h
  refine A_zast dX2_addPart_36 za25 hg (bM_go h (fun M4 h => ?_))
  refine A_aload_n dX2_addPart_37 rfl ?_
  refine A_getf dX2_addPart_38 fw_X2_9 ob3 rfl ?_
  refine A_iload_n dX2_addPart_41 rfl ?_
  refine A_dup2 dX2_addPart_42 rfl rfl ?_
  obtain ⟨hg, h⟩ := gV_go h
  refine A_iald dX2_addPart_43 ia22 hg ?_
  refine A_iconst (v := 1) dX2_addPart_44 (by decide) ?_
  refine A_iadd dX2_addPart_45 ?_
  obtain ⟨hg, h⟩ := gV_go h
  refine A_iast dX2_addPart_46 ia22 hg (bM_go h (fun M5 h => ?_))
  refine A_aload_n dX2_addPart_47 rfl ?_
  refine A_getf dX2_addPart_48 fw_X2_9 ob3 rfl ?_
  refine A_iload_n dX2_addPart_51 rfl ?_
  obtain ⟨hg, h⟩ := gV_go h
  refine A_iald dX2_addPart_52 ia22 hg ?_
  exact A_iret dX2_addPart_53 (pI_go h)
-- BenchTimes$Jobs.placeOf
theorem dX2_placeOf_0 : di cX2_placeOf 0 (.iconst 0) 1 1 := ⟨by decide +kernel, rfl⟩
theorem dX2_placeOf_1 : di cX2_placeOf 1 (.istore_n 3) 1 2 := ⟨by decide +kernel, rfl⟩
theorem dX2_placeOf_2 : di cX2_placeOf 2 (.iload_n 3) 1 3 := ⟨by decide +kernel, rfl⟩
theorem dX2_placeOf_3 : di cX2_placeOf 3 (.aload_n 0) 1 4 := ⟨by decide +kernel, rfl⟩
theorem dX2_placeOf_4 : di cX2_placeOf 4 (.getfield 9) 3 7 := ⟨by decide +kernel, rfl⟩
theorem dX2_placeOf_7 : di cX2_placeOf 7 (.iload_n 1) 1 8 := ⟨by decide +kernel, rfl⟩
theorem dX2_placeOf_8 : di cX2_placeOf 8 (.iaload) 1 9 := ⟨by decide +kernel, rfl⟩
theorem dX2_placeOf_9 : dj cX2_placeOf 9 (.if_icmp .ge) 12 35 := ⟨26, by decide +kernel, rfl, rfl⟩
theorem dX2_placeOf_12 : di cX2_placeOf 12 (.aload_n 0) 1 13 := ⟨by decide +kernel, rfl⟩
theorem dX2_placeOf_13 : di cX2_placeOf 13 (.getfield 15) 3 16 := ⟨by decide +kernel, rfl⟩
theorem dX2_placeOf_16 : di cX2_placeOf 16 (.iload_n 1) 1 17 := ⟨by decide +kernel, rfl⟩
theorem dX2_placeOf_17 : di cX2_placeOf 17 (.bipush 6) 2 19 := ⟨by decide +kernel, rfl⟩
theorem dX2_placeOf_19 : di cX2_placeOf 19 (.imul) 1 20 := ⟨by decide +kernel, rfl⟩
theorem dX2_placeOf_20 : di cX2_placeOf 20 (.iload_n 3) 1 21 := ⟨by decide +kernel, rfl⟩
theorem dX2_placeOf_21 : di cX2_placeOf 21 (.iadd) 1 22 := ⟨by decide +kernel, rfl⟩
theorem dX2_placeOf_22 : di cX2_placeOf 22 (.iaload) 1 23 := ⟨by decide +kernel, rfl⟩
theorem dX2_placeOf_23 : di cX2_placeOf 23 (.iload_n 2) 1 24 := ⟨by decide +kernel, rfl⟩
theorem dX2_placeOf_24 : dj cX2_placeOf 24 (.if_icmp .ne) 27 29 := ⟨5, by decide +kernel, rfl, rfl⟩
theorem dX2_placeOf_27 : di cX2_placeOf 27 (.iload_n 3) 1 28 := ⟨by decide +kernel, rfl⟩
theorem dX2_placeOf_28 : di cX2_placeOf 28 (.ireturn) 1 29 := ⟨by decide +kernel, rfl⟩
theorem dX2_placeOf_29 : di cX2_placeOf 29 (.iinc 3 1) 3 32 := ⟨by decide +kernel, rfl⟩
theorem dX2_placeOf_32 : dj cX2_placeOf 32 .goto 35 2 := ⟨-30, by decide +kernel, rfl, rfl⟩
theorem dX2_placeOf_35 : di cX2_placeOf 35 (.iconst (-1)) 1 36 := ⟨by decide +kernel, rfl⟩
theorem dX2_placeOf_36 : di cX2_placeOf 36 (.ireturn) 1 37 := ⟨by decide +kernel, rfl⟩
def f_X2_placeOf_L2 (v1 : Int32) (v2 : Int32) : Nat → Int32 → Mem → (Int32 → Mem → Option Ret) → Option Ret
  | 0, _, _, _ => none
  | k2 + 1, v3, M, K2 => gV v1 8 (if (M.1 22 v1.toNatClampNeg) ≤ v3 then (K2 v3 M) else (gV ((v1 * (6 : Int32)) + v3) 48 (if (M.1 23 ((v1 * (6 : Int32)) + v3).toNatClampNeg) = v2 then (some (v3, M)) else (f_X2_placeOf_L2 v1 v2 k2 (v3 + (1 : Int32)) M K2))))
set_option maxRecDepth 100000 in
theorem f_X2_placeOf_L2_ok {l : Launch} {g : Cx} (v1 : Int32) (v2 : Int32)  {r : Int32} {Mr : Mem} : ∀ (k : Nat) (v3 : Int32) (M : Mem) (K2 : Int32 → Mem → Option Ret), f_X2_placeOf_L2 v1 v2 k v3 M K2 = some (r, Mr) → (∀ (v3 : Int32) (M : Mem), K2 v3 M = some (r, Mr) → AT l g RX2 cX2_placeOf 4 (some .int) (rmM 0 0) (PI r Mr) 35 [some (.ref (g.1 3)), some (.int v1), some (.int v2), some (.int v3)] [] M) → AT l g RX2 cX2_placeOf 4 (some .int) (rmM 0 0) (PI r Mr) 2 [some (.ref (g.1 3)), some (.int v1), some (.int v2), some (.int v3)] [] M
  | 0, v3, M, K2, h, hK2 => by cases h
  | k2 + 1, v3, M, K2, h, hK2 => by
    have ih2 := f_X2_placeOf_L2_ok (l := l) (g := g) v1 v2 (r := r) (Mr := Mr) k2
    rw [f_X2_placeOf_L2] at h
    refine A_iload_n dX2_placeOf_2 rfl ?_
    refine A_aload_n dX2_placeOf_3 rfl ?_
    refine A_getf dX2_placeOf_4 fw_X2_9 ob3 rfl ?_
    refine A_iload_n dX2_placeOf_7 rfl ?_
    obtain ⟨hg, h⟩ := gV_go h
    refine A_iald dX2_placeOf_8 ia22 hg ?_
    refine A_icmp_ge dX2_placeOf_9 (fun hc => ?_) (fun hc => ?_)
    · have h := gT_go hc h
      exact A_le (lvLe_s (lvLe_s (lvLe_s (lvLe_s lvLe_0)))) (hK2 _ _ h)
    · have h := gF_go hc h
      refine A_aload_n dX2_placeOf_12 rfl ?_
      refine A_getf dX2_placeOf_13 fw_X2_15 ob3 rfl ?_
      refine A_iload_n dX2_placeOf_16 rfl ?_
      refine A_bipush (v := 6) dX2_placeOf_17 (by decide) ?_
      refine A_imul dX2_placeOf_19 ?_
      refine A_iload_n dX2_placeOf_20 rfl ?_
      refine A_iadd dX2_placeOf_21 ?_
      obtain ⟨hg, h⟩ := gV_go h
      refine A_iald dX2_placeOf_22 ia23 hg ?_
      refine A_iload_n dX2_placeOf_23 rfl ?_
      refine A_icmp_ne dX2_placeOf_24 (fun hc => ?_) (fun hc => ?_)
      · have h := gF_go hc h
        refine A_iinc3 (d := 1) dX2_placeOf_29 (by decide) (by decide) rfl ?_
        refine A_goto dX2_placeOf_32 ?_
        exact A_le (lvLe_s (lvLe_s (lvLe_s (lvLe_s lvLe_0)))) (ih2 _ _ K2 h hK2)
      · have h := gT_go hc h
        refine A_iload_n dX2_placeOf_27 rfl ?_
        exact A_iret dX2_placeOf_28 (pI_go h)
def f_X2_placeOf (v1 : Int32) (v2 : Int32) (M : Mem) : Option Ret := f_X2_placeOf_L2 v1 v2 FU (0 : Int32) M (fun w1 M2 => some ((-1 : Int32), M2))
set_option maxRecDepth 100000 in
theorem ok_X2_placeOf {l : Launch} {g : Cx} {v1 : Int32} {v2 : Int32} {M : Mem} {r : Int32} {Mr : Mem} (h : f_X2_placeOf v1 v2 M = some (r, Mr)) : CT l g yX2_placeOf cX2_placeOf 4 (some .int) 0 0 [.ref (g.1 3), .int v1, .int v2] M (PI r Mr) := by
  refine CT_of (lv := [some (.ref (g.1 3)), some (.int v1), some (.int v2), none]) (by decide) rfl (Nat.le_of_ble_eq_true rfl) ?_
  unfold f_X2_placeOf at h
  refine A_iconst (v := 0) dX2_placeOf_0 (by decide) ?_
  refine A_istoren3 dX2_placeOf_1 (by decide) rfl ?_
  refine f_X2_placeOf_L2_ok _ _ FU _ _ _ h (fun w1 M2 h => ?_)
  refine A_iconst (v := -1) dX2_placeOf_35 (by decide) ?_
  exact A_iret dX2_placeOf_36 (pI_go h)
-- BenchTimes$Jobs.elementAt
theorem dX2_elementAt_0 : di cX2_elementAt 0 (.aload_n 0) 1 1 := ⟨by decide +kernel, rfl⟩
theorem dX2_elementAt_1 : di cX2_elementAt 1 (.getfield 15) 3 4 := ⟨by decide +kernel, rfl⟩
theorem dX2_elementAt_4 : di cX2_elementAt 4 (.iload_n 1) 1 5 := ⟨by decide +kernel, rfl⟩
theorem dX2_elementAt_5 : di cX2_elementAt 5 (.bipush 6) 2 7 := ⟨by decide +kernel, rfl⟩
theorem dX2_elementAt_7 : di cX2_elementAt 7 (.imul) 1 8 := ⟨by decide +kernel, rfl⟩
theorem dX2_elementAt_8 : di cX2_elementAt 8 (.iload_n 2) 1 9 := ⟨by decide +kernel, rfl⟩
theorem dX2_elementAt_9 : di cX2_elementAt 9 (.iadd) 1 10 := ⟨by decide +kernel, rfl⟩
theorem dX2_elementAt_10 : di cX2_elementAt 10 (.iaload) 1 11 := ⟨by decide +kernel, rfl⟩
theorem dX2_elementAt_11 : di cX2_elementAt 11 (.ireturn) 1 12 := ⟨by decide +kernel, rfl⟩
def f_X2_elementAt (v1 : Int32) (v2 : Int32) (M : Mem) : Option Ret := gV ((v1 * (6 : Int32)) + v2) 48 (some (M.1 23 ((v1 * (6 : Int32)) + v2).toNatClampNeg, M))
set_option maxRecDepth 100000 in
theorem ok_X2_elementAt {l : Launch} {g : Cx} {v1 : Int32} {v2 : Int32} {M : Mem} {r : Int32} {Mr : Mem} (h : f_X2_elementAt v1 v2 M = some (r, Mr)) : CT l g yX2_elementAt cX2_elementAt 3 (some .int) 0 0 [.ref (g.1 3), .int v1, .int v2] M (PI r Mr) := by
  refine CT_of (lv := [some (.ref (g.1 3)), some (.int v1), some (.int v2)]) (by decide) rfl (Nat.le_of_ble_eq_true rfl) ?_
  unfold f_X2_elementAt at h
  refine A_aload_n dX2_elementAt_0 rfl ?_
  refine A_getf dX2_elementAt_1 fw_X2_15 ob3 rfl ?_
  refine A_iload_n dX2_elementAt_4 rfl ?_
  refine A_bipush (v := 6) dX2_elementAt_5 (by decide) ?_
  refine A_imul dX2_elementAt_7 ?_
  refine A_iload_n dX2_elementAt_8 rfl ?_
  refine A_iadd dX2_elementAt_9 ?_
  obtain ⟨hg, h⟩ := gV_go h
  refine A_iald dX2_elementAt_10 ia23 hg ?_
  exact A_iret dX2_elementAt_11 (pI_go h)
-- BenchTimes$Jobs.oftenAt
theorem dX2_oftenAt_0 : di cX2_oftenAt 0 (.aload_n 0) 1 1 := ⟨by decide +kernel, rfl⟩
theorem dX2_oftenAt_1 : di cX2_oftenAt 1 (.getfield 18) 3 4 := ⟨by decide +kernel, rfl⟩
theorem dX2_oftenAt_4 : di cX2_oftenAt 4 (.iload_n 1) 1 5 := ⟨by decide +kernel, rfl⟩
theorem dX2_oftenAt_5 : di cX2_oftenAt 5 (.bipush 6) 2 7 := ⟨by decide +kernel, rfl⟩
theorem dX2_oftenAt_7 : di cX2_oftenAt 7 (.imul) 1 8 := ⟨by decide +kernel, rfl⟩
theorem dX2_oftenAt_8 : di cX2_oftenAt 8 (.iload_n 2) 1 9 := ⟨by decide +kernel, rfl⟩
theorem dX2_oftenAt_9 : di cX2_oftenAt 9 (.iadd) 1 10 := ⟨by decide +kernel, rfl⟩
theorem dX2_oftenAt_10 : di cX2_oftenAt 10 (.iaload) 1 11 := ⟨by decide +kernel, rfl⟩
theorem dX2_oftenAt_11 : di cX2_oftenAt 11 (.ireturn) 1 12 := ⟨by decide +kernel, rfl⟩
def f_X2_oftenAt (v1 : Int32) (v2 : Int32) (M : Mem) : Option Ret := gV ((v1 * (6 : Int32)) + v2) 48 (some (M.1 24 ((v1 * (6 : Int32)) + v2).toNatClampNeg, M))
set_option maxRecDepth 100000 in
theorem ok_X2_oftenAt {l : Launch} {g : Cx} {v1 : Int32} {v2 : Int32} {M : Mem} {r : Int32} {Mr : Mem} (h : f_X2_oftenAt v1 v2 M = some (r, Mr)) : CT l g yX2_oftenAt cX2_oftenAt 3 (some .int) 0 0 [.ref (g.1 3), .int v1, .int v2] M (PI r Mr) := by
  refine CT_of (lv := [some (.ref (g.1 3)), some (.int v1), some (.int v2)]) (by decide) rfl (Nat.le_of_ble_eq_true rfl) ?_
  unfold f_X2_oftenAt at h
  refine A_aload_n dX2_oftenAt_0 rfl ?_
  refine A_getf dX2_oftenAt_1 fw_X2_18 ob3 rfl ?_
  refine A_iload_n dX2_oftenAt_4 rfl ?_
  refine A_bipush (v := 6) dX2_oftenAt_5 (by decide) ?_
  refine A_imul dX2_oftenAt_7 ?_
  refine A_iload_n dX2_oftenAt_8 rfl ?_
  refine A_iadd dX2_oftenAt_9 ?_
  obtain ⟨hg, h⟩ := gV_go h
  refine A_iald dX2_oftenAt_10 ia24 hg ?_
  exact A_iret dX2_oftenAt_11 (pI_go h)
-- BenchTimes$Jobs.isMarked
theorem dX2_isMarked_0 : di cX2_isMarked 0 (.aload_n 0) 1 1 := ⟨by decide +kernel, rfl⟩
theorem dX2_isMarked_1 : di cX2_isMarked 1 (.getfield 21) 3 4 := ⟨by decide +kernel, rfl⟩
theorem dX2_isMarked_4 : di cX2_isMarked 4 (.iload_n 1) 1 5 := ⟨by decide +kernel, rfl⟩
theorem dX2_isMarked_5 : di cX2_isMarked 5 (.bipush 6) 2 7 := ⟨by decide +kernel, rfl⟩
theorem dX2_isMarked_7 : di cX2_isMarked 7 (.imul) 1 8 := ⟨by decide +kernel, rfl⟩
theorem dX2_isMarked_8 : di cX2_isMarked 8 (.iload_n 2) 1 9 := ⟨by decide +kernel, rfl⟩
theorem dX2_isMarked_9 : di cX2_isMarked 9 (.iadd) 1 10 := ⟨by decide +kernel, rfl⟩
theorem dX2_isMarked_10 : di cX2_isMarked 10 (.baload) 1 11 := ⟨by decide +kernel, rfl⟩
theorem dX2_isMarked_11 : di cX2_isMarked 11 (.ireturn) 1 12 := ⟨by decide +kernel, rfl⟩
def f_X2_isMarked (v1 : Int32) (v2 : Int32) (M : Mem) : Option Ret := gV ((v1 * (6 : Int32)) + v2) 48 (gZ (M.1 25 ((v1 * (6 : Int32)) + v2).toNatClampNeg) (some (M.1 25 ((v1 * (6 : Int32)) + v2).toNatClampNeg, M)))
set_option maxRecDepth 100000 in
theorem ok_X2_isMarked {l : Launch} {g : Cx} {v1 : Int32} {v2 : Int32} {M : Mem} {r : Int32} {Mr : Mem} (h : f_X2_isMarked v1 v2 M = some (r, Mr)) : CT l g yX2_isMarked cX2_isMarked 3 (some .boolean) 0 0 [.ref (g.1 3), .int v1, .int v2] M (PI r Mr) := by
  refine CT_of (lv := [some (.ref (g.1 3)), some (.int v1), some (.int v2)]) (by decide) rfl (Nat.le_of_ble_eq_true rfl) ?_
  unfold f_X2_isMarked at h
  refine A_aload_n dX2_isMarked_0 rfl ?_
  refine A_getf dX2_isMarked_1 fw_X2_21 ob3 rfl ?_
  refine A_iload_n dX2_isMarked_4 rfl ?_
  refine A_bipush (v := 6) dX2_isMarked_5 (by decide) ?_
  refine A_imul dX2_isMarked_7 ?_
  refine A_iload_n dX2_isMarked_8 rfl ?_
  refine A_iadd dX2_isMarked_9 ?_
  obtain ⟨hg, h⟩ := gV_go h
  refine A_zald dX2_isMarked_10 za25 hg ?_
  obtain ⟨hg, h⟩ := gZ_go h
  exact A_zret dX2_isMarked_11 hg (pI_go h)
-- BenchTimes$Jobs.mark
theorem dX2_mark_0 : di cX2_mark 0 (.aload_n 0) 1 1 := ⟨by decide +kernel, rfl⟩
theorem dX2_mark_1 : di cX2_mark 1 (.getfield 21) 3 4 := ⟨by decide +kernel, rfl⟩
theorem dX2_mark_4 : di cX2_mark 4 (.iload_n 1) 1 5 := ⟨by decide +kernel, rfl⟩
theorem dX2_mark_5 : di cX2_mark 5 (.bipush 6) 2 7 := ⟨by decide +kernel, rfl⟩
theorem dX2_mark_7 : di cX2_mark 7 (.imul) 1 8 := ⟨by decide +kernel, rfl⟩
theorem dX2_mark_8 : di cX2_mark 8 (.iload_n 2) 1 9 := ⟨by decide +kernel, rfl⟩
theorem dX2_mark_9 : di cX2_mark 9 (.iadd) 1 10 := ⟨by decide +kernel, rfl⟩
theorem dX2_mark_10 : di cX2_mark 10 (.iconst 1) 1 11 := ⟨by decide +kernel, rfl⟩
theorem dX2_mark_11 : di cX2_mark 11 (.bastore) 1 12 := ⟨by decide +kernel, rfl⟩
theorem dX2_mark_12 : di cX2_mark 12 (.return_) 1 13 := ⟨by decide +kernel, rfl⟩
def f_X2_mark (v1 : Int32) (v2 : Int32) (M : Mem) : Option Ret := gV ((v1 * (6 : Int32)) + v2) 48 (bM (up2 M 25 ((v1 * (6 : Int32)) + v2).toNatClampNeg ((1 : Int32) &&& 1)) (fun M1 => some (0, M1)))
set_option maxRecDepth 100000 in
theorem ok_X2_mark {l : Launch} {g : Cx} {v1 : Int32} {v2 : Int32} {M : Mem} {r : Int32} {Mr : Mem} (h : f_X2_mark v1 v2 M = some (r, Mr)) : CT l g yX2_mark cX2_mark 3 none 0 0 [.ref (g.1 3), .int v1, .int v2] M (PV r Mr) := by
  refine CT_of (lv := [some (.ref (g.1 3)), some (.int v1), some (.int v2)]) (by decide) rfl (Nat.le_of_ble_eq_true rfl) ?_
  unfold f_X2_mark at h
  refine A_aload_n dX2_mark_0 rfl ?_
  refine A_getf dX2_mark_1 fw_X2_21 ob3 rfl ?_
  refine A_iload_n dX2_mark_4 rfl ?_
  refine A_bipush (v := 6) dX2_mark_5 (by decide) ?_
  refine A_imul dX2_mark_7 ?_
  refine A_iload_n dX2_mark_8 rfl ?_
  refine A_iadd dX2_mark_9 ?_
  refine A_iconst (v := 1) dX2_mark_10 (by decide) ?_
  obtain ⟨hg, h⟩ := gV_go h
  refine A_zast dX2_mark_11 za25 hg (bM_go h (fun M1 h => ?_))
  exact A_vret dX2_mark_12 (pV_go h)
-- BenchTimes$Jobs.clearMarks
theorem dX2_clearMarks_0 : di cX2_clearMarks 0 (.iconst 0) 1 1 := ⟨by decide +kernel, rfl⟩
theorem dX2_clearMarks_1 : di cX2_clearMarks 1 (.istore_n 2) 1 2 := ⟨by decide +kernel, rfl⟩
theorem dX2_clearMarks_2 : di cX2_clearMarks 2 (.iload_n 2) 1 3 := ⟨by decide +kernel, rfl⟩
theorem dX2_clearMarks_3 : di cX2_clearMarks 3 (.aload_n 0) 1 4 := ⟨by decide +kernel, rfl⟩
theorem dX2_clearMarks_4 : di cX2_clearMarks 4 (.getfield 9) 3 7 := ⟨by decide +kernel, rfl⟩
theorem dX2_clearMarks_7 : di cX2_clearMarks 7 (.iload_n 1) 1 8 := ⟨by decide +kernel, rfl⟩
theorem dX2_clearMarks_8 : di cX2_clearMarks 8 (.iaload) 1 9 := ⟨by decide +kernel, rfl⟩
theorem dX2_clearMarks_9 : dj cX2_clearMarks 9 (.if_icmp .ge) 12 30 := ⟨21, by decide +kernel, rfl, rfl⟩
theorem dX2_clearMarks_12 : di cX2_clearMarks 12 (.aload_n 0) 1 13 := ⟨by decide +kernel, rfl⟩
theorem dX2_clearMarks_13 : di cX2_clearMarks 13 (.getfield 21) 3 16 := ⟨by decide +kernel, rfl⟩
theorem dX2_clearMarks_16 : di cX2_clearMarks 16 (.iload_n 1) 1 17 := ⟨by decide +kernel, rfl⟩
theorem dX2_clearMarks_17 : di cX2_clearMarks 17 (.bipush 6) 2 19 := ⟨by decide +kernel, rfl⟩
theorem dX2_clearMarks_19 : di cX2_clearMarks 19 (.imul) 1 20 := ⟨by decide +kernel, rfl⟩
theorem dX2_clearMarks_20 : di cX2_clearMarks 20 (.iload_n 2) 1 21 := ⟨by decide +kernel, rfl⟩
theorem dX2_clearMarks_21 : di cX2_clearMarks 21 (.iadd) 1 22 := ⟨by decide +kernel, rfl⟩
theorem dX2_clearMarks_22 : di cX2_clearMarks 22 (.iconst 0) 1 23 := ⟨by decide +kernel, rfl⟩
theorem dX2_clearMarks_23 : di cX2_clearMarks 23 (.bastore) 1 24 := ⟨by decide +kernel, rfl⟩
theorem dX2_clearMarks_24 : di cX2_clearMarks 24 (.iinc 2 1) 3 27 := ⟨by decide +kernel, rfl⟩
theorem dX2_clearMarks_27 : dj cX2_clearMarks 27 .goto 30 2 := ⟨-25, by decide +kernel, rfl, rfl⟩
theorem dX2_clearMarks_30 : di cX2_clearMarks 30 (.return_) 1 31 := ⟨by decide +kernel, rfl⟩
def f_X2_clearMarks_L2 (v1 : Int32) : Nat → Int32 → Mem → (Int32 → Mem → Option Ret) → Option Ret
  | 0, _, _, _ => none
  | k2 + 1, v2, M, K2 => gV v1 8 (if (M.1 22 v1.toNatClampNeg) ≤ v2 then (K2 v2 M) else (gV ((v1 * (6 : Int32)) + v2) 48 (bM (up2 M 25 ((v1 * (6 : Int32)) + v2).toNatClampNeg ((0 : Int32) &&& 1)) (fun M1 => f_X2_clearMarks_L2 v1 k2 (v2 + (1 : Int32)) M1 K2))))
set_option maxRecDepth 100000 in
theorem f_X2_clearMarks_L2_ok {l : Launch} {g : Cx} (v1 : Int32)  {r : Int32} {Mr : Mem} : ∀ (k : Nat) (v2 : Int32) (M : Mem) (K2 : Int32 → Mem → Option Ret), f_X2_clearMarks_L2 v1 k v2 M K2 = some (r, Mr) → (∀ (v2 : Int32) (M : Mem), K2 v2 M = some (r, Mr) → AT l g RX2 cX2_clearMarks 3 none (rmM 0 0) (PV r Mr) 30 [some (.ref (g.1 3)), some (.int v1), some (.int v2)] [] M) → AT l g RX2 cX2_clearMarks 3 none (rmM 0 0) (PV r Mr) 2 [some (.ref (g.1 3)), some (.int v1), some (.int v2)] [] M
  | 0, v2, M, K2, h, hK2 => by cases h
  | k2 + 1, v2, M, K2, h, hK2 => by
    have ih2 := f_X2_clearMarks_L2_ok (l := l) (g := g) v1 (r := r) (Mr := Mr) k2
    rw [f_X2_clearMarks_L2] at h
    refine A_iload_n dX2_clearMarks_2 rfl ?_
    refine A_aload_n dX2_clearMarks_3 rfl ?_
    refine A_getf dX2_clearMarks_4 fw_X2_9 ob3 rfl ?_
    refine A_iload_n dX2_clearMarks_7 rfl ?_
    obtain ⟨hg, h⟩ := gV_go h
    refine A_iald dX2_clearMarks_8 ia22 hg ?_
    refine A_icmp_ge dX2_clearMarks_9 (fun hc => ?_) (fun hc => ?_)
    · have h := gT_go hc h
      exact A_le (lvLe_s (lvLe_s (lvLe_s lvLe_0))) (hK2 _ _ h)
    · have h := gF_go hc h
      refine A_aload_n dX2_clearMarks_12 rfl ?_
      refine A_getf dX2_clearMarks_13 fw_X2_21 ob3 rfl ?_
      refine A_iload_n dX2_clearMarks_16 rfl ?_
      refine A_bipush (v := 6) dX2_clearMarks_17 (by decide) ?_
      refine A_imul dX2_clearMarks_19 ?_
      refine A_iload_n dX2_clearMarks_20 rfl ?_
      refine A_iadd dX2_clearMarks_21 ?_
      refine A_iconst (v := 0) dX2_clearMarks_22 (by decide) ?_
      obtain ⟨hg, h⟩ := gV_go h
      refine A_zast dX2_clearMarks_23 za25 hg (bM_go h (fun M1 h => ?_))
      refine A_iinc2 (d := 1) dX2_clearMarks_24 (by decide) (by decide) rfl ?_
      refine A_goto dX2_clearMarks_27 ?_
      exact A_le (lvLe_s (lvLe_s (lvLe_s lvLe_0))) (ih2 _ _ K2 h hK2)
def f_X2_clearMarks (v1 : Int32) (M : Mem) : Option Ret := f_X2_clearMarks_L2 v1 FU (0 : Int32) M (fun w2 M3 => some (0, M3))
set_option maxRecDepth 100000 in
theorem ok_X2_clearMarks {l : Launch} {g : Cx} {v1 : Int32} {M : Mem} {r : Int32} {Mr : Mem} (h : f_X2_clearMarks v1 M = some (r, Mr)) : CT l g yX2_clearMarks cX2_clearMarks 3 none 0 0 [.ref (g.1 3), .int v1] M (PV r Mr) := by
  refine CT_of (lv := [some (.ref (g.1 3)), some (.int v1), none]) (by decide) rfl (Nat.le_of_ble_eq_true rfl) ?_
  unfold f_X2_clearMarks at h
  refine A_iconst (v := 0) dX2_clearMarks_0 (by decide) ?_
  refine A_istoren2 dX2_clearMarks_1 (by decide) rfl ?_
  refine f_X2_clearMarks_L2_ok _ FU _ _ _ h (fun w2 M3 h => ?_)
  exact A_vret dX2_clearMarks_30 (pV_go h)
-- BenchTimes$WorkRows.earnedIn
theorem dX9_earnedIn_0 : di cX9_earnedIn 0 (.iconst 0) 1 1 := ⟨by decide +kernel, rfl⟩
theorem dX9_earnedIn_1 : di cX9_earnedIn 1 (.istore_n 3) 1 2 := ⟨by decide +kernel, rfl⟩
theorem dX9_earnedIn_2 : di cX9_earnedIn 2 (.iconst 0) 1 3 := ⟨by decide +kernel, rfl⟩
theorem dX9_earnedIn_3 : di cX9_earnedIn 3 (.istore 4) 2 5 := ⟨by decide +kernel, rfl⟩
theorem dX9_earnedIn_5 : di cX9_earnedIn 5 (.iload 4) 2 7 := ⟨by decide +kernel, rfl⟩
theorem dX9_earnedIn_7 : di cX9_earnedIn 7 (.aload_n 0) 1 8 := ⟨by decide +kernel, rfl⟩
theorem dX9_earnedIn_8 : di cX9_earnedIn 8 (.getfield 51) 3 11 := ⟨by decide +kernel, rfl⟩
theorem dX9_earnedIn_11 : dj cX9_earnedIn 11 (.if_icmp .ge) 14 51 := ⟨40, by decide +kernel, rfl, rfl⟩
theorem dX9_earnedIn_14 : di cX9_earnedIn 14 (.aload_n 0) 1 15 := ⟨by decide +kernel, rfl⟩
theorem dX9_earnedIn_15 : di cX9_earnedIn 15 (.getfield 11) 3 18 := ⟨by decide +kernel, rfl⟩
theorem dX9_earnedIn_18 : di cX9_earnedIn 18 (.iload 4) 2 20 := ⟨by decide +kernel, rfl⟩
theorem dX9_earnedIn_20 : di cX9_earnedIn 20 (.iaload) 1 21 := ⟨by decide +kernel, rfl⟩
theorem dX9_earnedIn_21 : di cX9_earnedIn 21 (.iload_n 1) 1 22 := ⟨by decide +kernel, rfl⟩
theorem dX9_earnedIn_22 : dj cX9_earnedIn 22 (.if_icmp .ne) 25 45 := ⟨23, by decide +kernel, rfl, rfl⟩
theorem dX9_earnedIn_25 : di cX9_earnedIn 25 (.aload_n 0) 1 26 := ⟨by decide +kernel, rfl⟩
theorem dX9_earnedIn_26 : di cX9_earnedIn 26 (.getfield 15) 3 29 := ⟨by decide +kernel, rfl⟩
theorem dX9_earnedIn_29 : di cX9_earnedIn 29 (.iload 4) 2 31 := ⟨by decide +kernel, rfl⟩
theorem dX9_earnedIn_31 : di cX9_earnedIn 31 (.iaload) 1 32 := ⟨by decide +kernel, rfl⟩
theorem dX9_earnedIn_32 : di cX9_earnedIn 32 (.iload_n 2) 1 33 := ⟨by decide +kernel, rfl⟩
theorem dX9_earnedIn_33 : dj cX9_earnedIn 33 (.if_icmp .ne) 36 45 := ⟨12, by decide +kernel, rfl, rfl⟩
theorem dX9_earnedIn_36 : di cX9_earnedIn 36 (.iload_n 3) 1 37 := ⟨by decide +kernel, rfl⟩
theorem dX9_earnedIn_37 : di cX9_earnedIn 37 (.aload_n 0) 1 38 := ⟨by decide +kernel, rfl⟩
theorem dX9_earnedIn_38 : di cX9_earnedIn 38 (.iload 4) 2 40 := ⟨by decide +kernel, rfl⟩
theorem dX9_earnedIn_40 : di cX9_earnedIn 40 (.invokevirtual 81) 3 43 := ⟨by decide +kernel, rfl⟩
theorem dX9_earnedIn_43 : di cX9_earnedIn 43 (.iadd) 1 44 := ⟨by decide +kernel, rfl⟩
theorem dX9_earnedIn_44 : di cX9_earnedIn 44 (.istore_n 3) 1 45 := ⟨by decide +kernel, rfl⟩
theorem dX9_earnedIn_45 : di cX9_earnedIn 45 (.iinc 4 1) 3 48 := ⟨by decide +kernel, rfl⟩
theorem dX9_earnedIn_48 : dj cX9_earnedIn 48 .goto 51 5 := ⟨-43, by decide +kernel, rfl, rfl⟩
theorem dX9_earnedIn_51 : di cX9_earnedIn 51 (.iload_n 3) 1 52 := ⟨by decide +kernel, rfl⟩
theorem dX9_earnedIn_52 : di cX9_earnedIn 52 (.ireturn) 1 53 := ⟨by decide +kernel, rfl⟩
def f_X9_earnedIn_L5 (v1 : Int32) (v2 : Int32) : Nat → Int32 → Int32 → Mem → (Int32 → Int32 → Mem → Option Ret) → Option Ret
  | 0, _, _, _, _ => none
  | k5 + 1, v3, v4, M, K5 => if (M.1 6 10) ≤ v4 then (K5 v3 v4 M) else (gV v4 100 (jn (α := Int32 → Mem → Option Ret) (fun (y2 : Int32) (M3 : Mem) => f_X9_earnedIn_L5 v1 v2 k5 y2 (v4 + (1 : Int32)) M3 K5) (fun J1 => if (M.1 33 v4.toNatClampNeg) = v1 then (gV v4 100 (if (M.1 34 v4.toNatClampNeg) = v2 then (bE (f_X9_earnedBy v4 M) (fun r5 M4 => bI (v3 + r5) (fun x6 => J1 x6 M4))) else (J1 v3 M))) else (J1 v3 M))))
set_option maxRecDepth 100000 in
theorem f_X9_earnedIn_L5_ok {l : Launch} {g : Cx} (v1 : Int32) (v2 : Int32)  {r : Int32} {Mr : Mem} : ∀ (k : Nat) (v3 : Int32) (v4 : Int32) (M : Mem) (K5 : Int32 → Int32 → Mem → Option Ret), f_X9_earnedIn_L5 v1 v2 k v3 v4 M K5 = some (r, Mr) → (∀ (v3 : Int32) (v4 : Int32) (M : Mem), K5 v3 v4 M = some (r, Mr) → AT l g RX9 cX9_earnedIn 5 (some .int) (rmM 3 71) (PI r Mr) 51 [some (.ref (g.1 6)), some (.int v1), some (.int v2), some (.int v3), some (.int v4)] [] M) → AT l g RX9 cX9_earnedIn 5 (some .int) (rmM 3 71) (PI r Mr) 5 [some (.ref (g.1 6)), some (.int v1), some (.int v2), some (.int v3), some (.int v4)] [] M
  | 0, v3, v4, M, K5, h, hK5 => by cases h
  | k5 + 1, v3, v4, M, K5, h, hK5 => by
    have ih5 := f_X9_earnedIn_L5_ok (l := l) (g := g) v1 v2 (r := r) (Mr := Mr) k5
    rw [f_X9_earnedIn_L5] at h
    refine A_iload dX9_earnedIn_5 rfl ?_
    refine A_aload_n dX9_earnedIn_7 rfl ?_
    refine A_getf dX9_earnedIn_8 fw_X9_51 ob6 rfl ?_
    refine A_icmp_ge dX9_earnedIn_11 (fun hc => ?_) (fun hc => ?_)
    · have h := gT_go hc h
      exact A_le (lvLe_s (lvLe_s (lvLe_s (lvLe_s (lvLe_s lvLe_0))))) (hK5 _ _ _ h)
    · have h := gF_go hc h
      refine A_aload_n dX9_earnedIn_14 rfl ?_
      refine A_getf dX9_earnedIn_15 fw_X9_11 ob6 rfl ?_
      refine A_iload dX9_earnedIn_18 rfl ?_
      obtain ⟨hg, h⟩ := gV_go h
      refine A_iald dX9_earnedIn_20 ia33 hg ?_
      refine A_iload_n dX9_earnedIn_21 rfl ?_
      obtain ⟨J1, hJ1, h⟩ := jn_go h
      have JJ1 : ∀ (y2 : Int32) (M3 : Mem), J1 y2 M3 = some (r, Mr) → AT l g RX9 cX9_earnedIn 5 (some .int) (rmM 3 71) (PI r Mr) 45 [some (.ref (g.1 6)), some (.int v1), some (.int v2), some (.int y2), some (.int v4)] [] M3 := by
        intro y2 M3 h
        rw [hJ1] at h
        refine A_iinc4 (d := 1) dX9_earnedIn_45 (by decide) (by decide) rfl ?_
        refine A_goto dX9_earnedIn_48 ?_
        exact A_le (lvLe_s (lvLe_s (lvLe_s (lvLe_s (lvLe_s lvLe_0))))) (ih5 _ _ _ K5 h hK5)
      refine A_icmp_ne dX9_earnedIn_22 (fun hc => ?_) (fun hc => ?_)
      · have h := gF_go hc h
        exact A_le (lvLe_s (lvLe_s (lvLe_s (lvLe_s (lvLe_s lvLe_0))))) (JJ1 _ _ h)
      · have h := gT_go hc h
        refine A_aload_n dX9_earnedIn_25 rfl ?_
        refine A_getf dX9_earnedIn_26 fw_X9_15 ob6 rfl ?_
        refine A_iload dX9_earnedIn_29 rfl ?_
        obtain ⟨hg, h⟩ := gV_go h
        refine A_iald dX9_earnedIn_31 ia34 hg ?_
        refine A_iload_n dX9_earnedIn_32 rfl ?_
        refine A_icmp_ne dX9_earnedIn_33 (fun hc => ?_) (fun hc => ?_)
        · have h := gF_go hc h
          exact A_le (lvLe_s (lvLe_s (lvLe_s (lvLe_s (lvLe_s lvLe_0))))) (JJ1 _ _ h)
        · have h := gT_go hc h
          refine A_iload_n dX9_earnedIn_36 rfl ?_
          refine A_aload_n dX9_earnedIn_37 rfl ?_
          refine A_iload dX9_earnedIn_38 rfl ?_
          obtain ⟨r5, M4, h1, h⟩ := bE_go h
          refine A_cVi1 dX9_earnedIn_40 ml_X9_81 mb_X9_earnedBy mi_X9_earnedBy ob6 rfl rfl ⟨Nat.le_of_ble_eq_true rfl, Nat.le_of_ble_eq_true rfl⟩ (Nat.le_of_ble_eq_true rfl) (ok_X9_earnedBy h1) ?_
          refine A_iadd dX9_earnedIn_43 ?_
          refine A_istoren3 dX9_earnedIn_44 (by decide) rfl (bI_go h (G := fun z => AT l g RX9 cX9_earnedIn 5 (some .int) (rmM 3 71) (PI r Mr) 45 [some (.ref (g.1 6)), some (.int v1), some (.int v2), some (.int z), some (.int v4)] [] M4) (fun x6 h => ?_))
          exact A_le (lvLe_s (lvLe_s (lvLe_s (lvLe_s (lvLe_s lvLe_0))))) (JJ1 _ _ h)
def f_X9_earnedIn (v1 : Int32) (v2 : Int32) (M : Mem) : Option Ret := f_X9_earnedIn_L5 v1 v2 FU (0 : Int32) (0 : Int32) M (fun w7 w8 M9 => some (w7, M9))
set_option maxRecDepth 100000 in
theorem ok_X9_earnedIn {l : Launch} {g : Cx} {v1 : Int32} {v2 : Int32} {M : Mem} {r : Int32} {Mr : Mem} (h : f_X9_earnedIn v1 v2 M = some (r, Mr)) : CT l g yX9_earnedIn cX9_earnedIn 5 (some .int) 3 71 [.ref (g.1 6), .int v1, .int v2] M (PI r Mr) := by
  refine CT_of (lv := [some (.ref (g.1 6)), some (.int v1), some (.int v2), none, none]) (by decide) rfl (Nat.le_of_ble_eq_true rfl) ?_
  unfold f_X9_earnedIn at h
  refine A_iconst (v := 0) dX9_earnedIn_0 (by decide) ?_
  refine A_istoren3 dX9_earnedIn_1 (by decide) rfl ?_
  refine A_iconst (v := 0) dX9_earnedIn_2 (by decide) ?_
  refine A_istore4 dX9_earnedIn_3 (by decide) rfl ?_
  refine f_X9_earnedIn_L5_ok _ _ FU _ _ _ _ h (fun w7 w8 M9 h => ?_)
  refine A_iload_n dX9_earnedIn_51 rfl ?_
  exact A_iret dX9_earnedIn_52 (pI_go h)
-- BenchTimes$WaitRows.minutesIn
theorem dX7_minutesIn_0 : di cX7_minutesIn 0 (.iconst 0) 1 1 := ⟨by decide +kernel, rfl⟩
theorem dX7_minutesIn_1 : di cX7_minutesIn 1 (.istore_n 3) 1 2 := ⟨by decide +kernel, rfl⟩
theorem dX7_minutesIn_2 : di cX7_minutesIn 2 (.iconst 0) 1 3 := ⟨by decide +kernel, rfl⟩
theorem dX7_minutesIn_3 : di cX7_minutesIn 3 (.istore 4) 2 5 := ⟨by decide +kernel, rfl⟩
theorem dX7_minutesIn_5 : di cX7_minutesIn 5 (.iload 4) 2 7 := ⟨by decide +kernel, rfl⟩
theorem dX7_minutesIn_7 : di cX7_minutesIn 7 (.aload_n 0) 1 8 := ⟨by decide +kernel, rfl⟩
theorem dX7_minutesIn_8 : di cX7_minutesIn 8 (.getfield 24) 3 11 := ⟨by decide +kernel, rfl⟩
theorem dX7_minutesIn_11 : dj cX7_minutesIn 11 (.if_icmp .ge) 14 52 := ⟨41, by decide +kernel, rfl, rfl⟩
theorem dX7_minutesIn_14 : di cX7_minutesIn 14 (.aload_n 0) 1 15 := ⟨by decide +kernel, rfl⟩
theorem dX7_minutesIn_15 : di cX7_minutesIn 15 (.getfield 11) 3 18 := ⟨by decide +kernel, rfl⟩
theorem dX7_minutesIn_18 : di cX7_minutesIn 18 (.iload 4) 2 20 := ⟨by decide +kernel, rfl⟩
theorem dX7_minutesIn_20 : di cX7_minutesIn 20 (.iaload) 1 21 := ⟨by decide +kernel, rfl⟩
theorem dX7_minutesIn_21 : di cX7_minutesIn 21 (.iload_n 1) 1 22 := ⟨by decide +kernel, rfl⟩
theorem dX7_minutesIn_22 : dj cX7_minutesIn 22 (.if_icmp .ne) 25 46 := ⟨24, by decide +kernel, rfl, rfl⟩
theorem dX7_minutesIn_25 : di cX7_minutesIn 25 (.aload_n 0) 1 26 := ⟨by decide +kernel, rfl⟩
theorem dX7_minutesIn_26 : di cX7_minutesIn 26 (.getfield 15) 3 29 := ⟨by decide +kernel, rfl⟩
theorem dX7_minutesIn_29 : di cX7_minutesIn 29 (.iload 4) 2 31 := ⟨by decide +kernel, rfl⟩
theorem dX7_minutesIn_31 : di cX7_minutesIn 31 (.iaload) 1 32 := ⟨by decide +kernel, rfl⟩
theorem dX7_minutesIn_32 : di cX7_minutesIn 32 (.iload_n 2) 1 33 := ⟨by decide +kernel, rfl⟩
theorem dX7_minutesIn_33 : dj cX7_minutesIn 33 (.if_icmp .ne) 36 46 := ⟨13, by decide +kernel, rfl, rfl⟩
theorem dX7_minutesIn_36 : di cX7_minutesIn 36 (.iload_n 3) 1 37 := ⟨by decide +kernel, rfl⟩
theorem dX7_minutesIn_37 : di cX7_minutesIn 37 (.aload_n 0) 1 38 := ⟨by decide +kernel, rfl⟩
theorem dX7_minutesIn_38 : di cX7_minutesIn 38 (.getfield 18) 3 41 := ⟨by decide +kernel, rfl⟩
theorem dX7_minutesIn_41 : di cX7_minutesIn 41 (.iload 4) 2 43 := ⟨by decide +kernel, rfl⟩
theorem dX7_minutesIn_43 : di cX7_minutesIn 43 (.iaload) 1 44 := ⟨by decide +kernel, rfl⟩
theorem dX7_minutesIn_44 : di cX7_minutesIn 44 (.iadd) 1 45 := ⟨by decide +kernel, rfl⟩
theorem dX7_minutesIn_45 : di cX7_minutesIn 45 (.istore_n 3) 1 46 := ⟨by decide +kernel, rfl⟩
theorem dX7_minutesIn_46 : di cX7_minutesIn 46 (.iinc 4 1) 3 49 := ⟨by decide +kernel, rfl⟩
theorem dX7_minutesIn_49 : dj cX7_minutesIn 49 .goto 52 5 := ⟨-44, by decide +kernel, rfl, rfl⟩
theorem dX7_minutesIn_52 : di cX7_minutesIn 52 (.iload_n 3) 1 53 := ⟨by decide +kernel, rfl⟩
theorem dX7_minutesIn_53 : di cX7_minutesIn 53 (.ireturn) 1 54 := ⟨by decide +kernel, rfl⟩
def f_X7_minutesIn_L5 (v1 : Int32) (v2 : Int32) : Nat → Int32 → Int32 → Mem → (Int32 → Int32 → Mem → Option Ret) → Option Ret
  | 0, _, _, _, _ => none
  | k5 + 1, v3, v4, M, K5 => if (M.1 7 4) ≤ v4 then (K5 v3 v4 M) else (gV v4 60 (jn (α := Int32 → Option Ret) (fun (y2 : Int32) => f_X7_minutesIn_L5 v1 v2 k5 y2 (v4 + (1 : Int32)) M K5) (fun J1 => if (M.1 41 v4.toNatClampNeg) = v1 then (gV v4 60 (if (M.1 42 v4.toNatClampNeg) = v2 then (gV v4 60 (bI (v3 + (M.1 43 v4.toNatClampNeg)) (fun x3 => J1 x3))) else (J1 v3))) else (J1 v3))))
set_option maxRecDepth 100000 in
theorem f_X7_minutesIn_L5_ok {l : Launch} {g : Cx} (v1 : Int32) (v2 : Int32)  {r : Int32} {Mr : Mem} : ∀ (k : Nat) (v3 : Int32) (v4 : Int32) (M : Mem) (K5 : Int32 → Int32 → Mem → Option Ret), f_X7_minutesIn_L5 v1 v2 k v3 v4 M K5 = some (r, Mr) → (∀ (v3 : Int32) (v4 : Int32) (M : Mem), K5 v3 v4 M = some (r, Mr) → AT l g RX7 cX7_minutesIn 5 (some .int) (rmM 0 0) (PI r Mr) 52 [some (.ref (g.1 7)), some (.int v1), some (.int v2), some (.int v3), some (.int v4)] [] M) → AT l g RX7 cX7_minutesIn 5 (some .int) (rmM 0 0) (PI r Mr) 5 [some (.ref (g.1 7)), some (.int v1), some (.int v2), some (.int v3), some (.int v4)] [] M
  | 0, v3, v4, M, K5, h, hK5 => by cases h
  | k5 + 1, v3, v4, M, K5, h, hK5 => by
    have ih5 := f_X7_minutesIn_L5_ok (l := l) (g := g) v1 v2 (r := r) (Mr := Mr) k5
    rw [f_X7_minutesIn_L5] at h
    refine A_iload dX7_minutesIn_5 rfl ?_
    refine A_aload_n dX7_minutesIn_7 rfl ?_
    refine A_getf dX7_minutesIn_8 fw_X7_24 ob7 rfl ?_
    refine A_icmp_ge dX7_minutesIn_11 (fun hc => ?_) (fun hc => ?_)
    · have h := gT_go hc h
      exact A_le (lvLe_s (lvLe_s (lvLe_s (lvLe_s (lvLe_s lvLe_0))))) (hK5 _ _ _ h)
    · have h := gF_go hc h
      refine A_aload_n dX7_minutesIn_14 rfl ?_
      refine A_getf dX7_minutesIn_15 fw_X7_11 ob7 rfl ?_
      refine A_iload dX7_minutesIn_18 rfl ?_
      obtain ⟨hg, h⟩ := gV_go h
      refine A_iald dX7_minutesIn_20 ia41 hg ?_
      refine A_iload_n dX7_minutesIn_21 rfl ?_
      obtain ⟨J1, hJ1, h⟩ := jn_go h
      have JJ1 : ∀ (y2 : Int32), J1 y2 = some (r, Mr) → AT l g RX7 cX7_minutesIn 5 (some .int) (rmM 0 0) (PI r Mr) 46 [some (.ref (g.1 7)), some (.int v1), some (.int v2), some (.int y2), some (.int v4)] [] M := by
        intro y2 h
        rw [hJ1] at h
        refine A_iinc4 (d := 1) dX7_minutesIn_46 (by decide) (by decide) rfl ?_
        refine A_goto dX7_minutesIn_49 ?_
        exact A_le (lvLe_s (lvLe_s (lvLe_s (lvLe_s (lvLe_s lvLe_0))))) (ih5 _ _ _ K5 h hK5)
      refine A_icmp_ne dX7_minutesIn_22 (fun hc => ?_) (fun hc => ?_)
      · have h := gF_go hc h
        exact A_le (lvLe_s (lvLe_s (lvLe_s (lvLe_s (lvLe_s lvLe_0))))) (JJ1 _ h)
      · have h := gT_go hc h
        refine A_aload_n dX7_minutesIn_25 rfl ?_
        refine A_getf dX7_minutesIn_26 fw_X7_15 ob7 rfl ?_
        refine A_iload dX7_minutesIn_29 rfl ?_
        obtain ⟨hg, h⟩ := gV_go h
        refine A_iald dX7_minutesIn_31 ia42 hg ?_
        refine A_iload_n dX7_minutesIn_32 rfl ?_
        refine A_icmp_ne dX7_minutesIn_33 (fun hc => ?_) (fun hc => ?_)
        · have h := gF_go hc h
          exact A_le (lvLe_s (lvLe_s (lvLe_s (lvLe_s (lvLe_s lvLe_0))))) (JJ1 _ h)
        · have h := gT_go hc h
          refine A_iload_n dX7_minutesIn_36 rfl ?_
          refine A_aload_n dX7_minutesIn_37 rfl ?_
          refine A_getf dX7_minutesIn_38 fw_X7_18 ob7 rfl ?_
          refine A_iload dX7_minutesIn_41 rfl ?_
          obtain ⟨hg, h⟩ := gV_go h
          refine A_iald dX7_minutesIn_43 ia43 hg ?_
          refine A_iadd dX7_minutesIn_44 ?_
          refine A_istoren3 dX7_minutesIn_45 (by decide) rfl (bI_go h (G := fun z => AT l g RX7 cX7_minutesIn 5 (some .int) (rmM 0 0) (PI r Mr) 46 [some (.ref (g.1 7)), some (.int v1), some (.int v2), some (.int z), some (.int v4)] [] M) (fun x3 h => ?_))
          exact A_le (lvLe_s (lvLe_s (lvLe_s (lvLe_s (lvLe_s lvLe_0))))) (JJ1 _ h)
def f_X7_minutesIn (v1 : Int32) (v2 : Int32) (M : Mem) : Option Ret := f_X7_minutesIn_L5 v1 v2 FU (0 : Int32) (0 : Int32) M (fun w4 w5 M6 => some (w4, M6))
set_option maxRecDepth 100000 in
theorem ok_X7_minutesIn {l : Launch} {g : Cx} {v1 : Int32} {v2 : Int32} {M : Mem} {r : Int32} {Mr : Mem} (h : f_X7_minutesIn v1 v2 M = some (r, Mr)) : CT l g yX7_minutesIn cX7_minutesIn 5 (some .int) 0 0 [.ref (g.1 7), .int v1, .int v2] M (PI r Mr) := by
  refine CT_of (lv := [some (.ref (g.1 7)), some (.int v1), some (.int v2), none, none]) (by decide) rfl (Nat.le_of_ble_eq_true rfl) ?_
  unfold f_X7_minutesIn at h
  refine A_iconst (v := 0) dX7_minutesIn_0 (by decide) ?_
  refine A_istoren3 dX7_minutesIn_1 (by decide) rfl ?_
  refine A_iconst (v := 0) dX7_minutesIn_2 (by decide) ?_
  refine A_istore4 dX7_minutesIn_3 (by decide) rfl ?_
  refine f_X7_minutesIn_L5_ok _ _ FU _ _ _ _ h (fun w4 w5 M6 h => ?_)
  refine A_iload_n dX7_minutesIn_52 rfl ?_
  exact A_iret dX7_minutesIn_53 (pI_go h)
-- BenchTimes$Pays.forWaiting
theorem dX3_forWaiting_0 : di cX3_forWaiting 0 (.aload_n 0) 1 1 := ⟨by decide +kernel, rfl⟩
theorem dX3_forWaiting_1 : di cX3_forWaiting 1 (.getfield 15) 3 4 := ⟨by decide +kernel, rfl⟩
theorem dX3_forWaiting_4 : di cX3_forWaiting 4 (.iload_n 2) 1 5 := ⟨by decide +kernel, rfl⟩
theorem dX3_forWaiting_5 : di cX3_forWaiting 5 (.iload_n 1) 1 6 := ⟨by decide +kernel, rfl⟩
theorem dX3_forWaiting_6 : di cX3_forWaiting 6 (.invokevirtual 35) 3 9 := ⟨by decide +kernel, rfl⟩
theorem dX3_forWaiting_9 : di cX3_forWaiting 9 (.aload_n 0) 1 10 := ⟨by decide +kernel, rfl⟩
theorem dX3_forWaiting_10 : di cX3_forWaiting 10 (.getfield 19) 3 13 := ⟨by decide +kernel, rfl⟩
theorem dX3_forWaiting_13 : di cX3_forWaiting 13 (.iconst 2) 1 14 := ⟨by decide +kernel, rfl⟩
theorem dX3_forWaiting_14 : di cX3_forWaiting 14 (.invokevirtual 43) 3 17 := ⟨by decide +kernel, rfl⟩
theorem dX3_forWaiting_17 : di cX3_forWaiting 17 (.imul) 1 18 := ⟨by decide +kernel, rfl⟩
theorem dX3_forWaiting_18 : di cX3_forWaiting 18 (.bipush 100) 2 20 := ⟨by decide +kernel, rfl⟩
theorem dX3_forWaiting_20 : di cX3_forWaiting 20 (.idiv) 1 21 := ⟨by decide +kernel, rfl⟩
theorem dX3_forWaiting_21 : di cX3_forWaiting 21 (.ireturn) 1 22 := ⟨by decide +kernel, rfl⟩
def f_X3_forWaiting (v1 : Int32) (v2 : Int32) (M : Mem) : Option Ret := bE (f_X7_minutesIn v2 v1 M) (fun r2 M1 => bE (f_X5_valueOf (2 : Int32) M1) (fun r4 M3 => some ((r2 * r4) / (100 : Int32), M3)))
set_option maxRecDepth 100000 in
theorem ok_X3_forWaiting {l : Launch} {g : Cx} {v1 : Int32} {v2 : Int32} {M : Mem} {r : Int32} {Mr : Mem} (h : f_X3_forWaiting v1 v2 M = some (r, Mr)) : CT l g yX3_forWaiting cX3_forWaiting 3 (some .int) 1 24 [.ref (g.1 8), .int v1, .int v2] M (PI r Mr) := by
  refine CT_of (lv := [some (.ref (g.1 8)), some (.int v1), some (.int v2)]) (by decide) rfl (Nat.le_of_ble_eq_true rfl) ?_
  unfold f_X3_forWaiting at h
  refine A_aload_n dX3_forWaiting_0 rfl ?_
  refine A_getf dX3_forWaiting_1 fw_X3_15 ob8 rfl ?_
  refine A_iload_n dX3_forWaiting_4 rfl ?_
  refine A_iload_n dX3_forWaiting_5 rfl ?_
  obtain ⟨r2, M1, h1, h⟩ := bE_go h
  refine A_cVi2 dX3_forWaiting_6 ml_X3_35 mb_X7_minutesIn mi_X7_minutesIn ob7 rfl rfl ⟨Nat.le_of_ble_eq_true rfl, Nat.le_of_ble_eq_true rfl⟩ (Nat.le_of_ble_eq_true rfl) (ok_X7_minutesIn h1) ?_
  refine A_aload_n dX3_forWaiting_9 rfl ?_
  refine A_getf dX3_forWaiting_10 fw_X3_19 ob8 rfl ?_
  refine A_iconst (v := 2) dX3_forWaiting_13 (by decide) ?_
  obtain ⟨r4, M3, h1, h⟩ := bE_go h
  refine A_cVi1 dX3_forWaiting_14 ml_X3_43 mb_X5_valueOf mi_X5_valueOf ob5 rfl rfl ⟨Nat.le_of_ble_eq_true rfl, Nat.le_of_ble_eq_true rfl⟩ (Nat.le_of_ble_eq_true rfl) (ok_X5_valueOf h1) ?_
  refine A_imul dX3_forWaiting_17 ?_
  refine A_bipush (v := 100) dX3_forWaiting_18 (by decide) ?_
  refine A_idiv dX3_forWaiting_20 (by decide) ?_
  exact A_iret dX3_forWaiting_21 (pI_go h)
-- BenchTimes$WorkRows.minutesIn
theorem dX9_minutesIn_0 : di cX9_minutesIn 0 (.iconst 0) 1 1 := ⟨by decide +kernel, rfl⟩
theorem dX9_minutesIn_1 : di cX9_minutesIn 1 (.istore_n 3) 1 2 := ⟨by decide +kernel, rfl⟩
theorem dX9_minutesIn_2 : di cX9_minutesIn 2 (.iconst 0) 1 3 := ⟨by decide +kernel, rfl⟩
theorem dX9_minutesIn_3 : di cX9_minutesIn 3 (.istore 4) 2 5 := ⟨by decide +kernel, rfl⟩
theorem dX9_minutesIn_5 : di cX9_minutesIn 5 (.iload 4) 2 7 := ⟨by decide +kernel, rfl⟩
theorem dX9_minutesIn_7 : di cX9_minutesIn 7 (.aload_n 0) 1 8 := ⟨by decide +kernel, rfl⟩
theorem dX9_minutesIn_8 : di cX9_minutesIn 8 (.getfield 51) 3 11 := ⟨by decide +kernel, rfl⟩
theorem dX9_minutesIn_11 : dj cX9_minutesIn 11 (.if_icmp .ge) 14 52 := ⟨41, by decide +kernel, rfl, rfl⟩
theorem dX9_minutesIn_14 : di cX9_minutesIn 14 (.aload_n 0) 1 15 := ⟨by decide +kernel, rfl⟩
theorem dX9_minutesIn_15 : di cX9_minutesIn 15 (.getfield 11) 3 18 := ⟨by decide +kernel, rfl⟩
theorem dX9_minutesIn_18 : di cX9_minutesIn 18 (.iload 4) 2 20 := ⟨by decide +kernel, rfl⟩
theorem dX9_minutesIn_20 : di cX9_minutesIn 20 (.iaload) 1 21 := ⟨by decide +kernel, rfl⟩
theorem dX9_minutesIn_21 : di cX9_minutesIn 21 (.iload_n 1) 1 22 := ⟨by decide +kernel, rfl⟩
theorem dX9_minutesIn_22 : dj cX9_minutesIn 22 (.if_icmp .ne) 25 46 := ⟨24, by decide +kernel, rfl, rfl⟩
theorem dX9_minutesIn_25 : di cX9_minutesIn 25 (.aload_n 0) 1 26 := ⟨by decide +kernel, rfl⟩
theorem dX9_minutesIn_26 : di cX9_minutesIn 26 (.getfield 15) 3 29 := ⟨by decide +kernel, rfl⟩
theorem dX9_minutesIn_29 : di cX9_minutesIn 29 (.iload 4) 2 31 := ⟨by decide +kernel, rfl⟩
theorem dX9_minutesIn_31 : di cX9_minutesIn 31 (.iaload) 1 32 := ⟨by decide +kernel, rfl⟩
theorem dX9_minutesIn_32 : di cX9_minutesIn 32 (.iload_n 2) 1 33 := ⟨by decide +kernel, rfl⟩
theorem dX9_minutesIn_33 : dj cX9_minutesIn 33 (.if_icmp .ne) 36 46 := ⟨13, by decide +kernel, rfl, rfl⟩
theorem dX9_minutesIn_36 : di cX9_minutesIn 36 (.iload_n 3) 1 37 := ⟨by decide +kernel, rfl⟩
theorem dX9_minutesIn_37 : di cX9_minutesIn 37 (.aload_n 0) 1 38 := ⟨by decide +kernel, rfl⟩
theorem dX9_minutesIn_38 : di cX9_minutesIn 38 (.getfield 27) 3 41 := ⟨by decide +kernel, rfl⟩
theorem dX9_minutesIn_41 : di cX9_minutesIn 41 (.iload 4) 2 43 := ⟨by decide +kernel, rfl⟩
theorem dX9_minutesIn_43 : di cX9_minutesIn 43 (.iaload) 1 44 := ⟨by decide +kernel, rfl⟩
theorem dX9_minutesIn_44 : di cX9_minutesIn 44 (.iadd) 1 45 := ⟨by decide +kernel, rfl⟩
theorem dX9_minutesIn_45 : di cX9_minutesIn 45 (.istore_n 3) 1 46 := ⟨by decide +kernel, rfl⟩
theorem dX9_minutesIn_46 : di cX9_minutesIn 46 (.iinc 4 1) 3 49 := ⟨by decide +kernel, rfl⟩
theorem dX9_minutesIn_49 : dj cX9_minutesIn 49 .goto 52 5 := ⟨-44, by decide +kernel, rfl, rfl⟩
theorem dX9_minutesIn_52 : di cX9_minutesIn 52 (.iload_n 3) 1 53 := ⟨by decide +kernel, rfl⟩
theorem dX9_minutesIn_53 : di cX9_minutesIn 53 (.ireturn) 1 54 := ⟨by decide +kernel, rfl⟩
def f_X9_minutesIn_L5 (v1 : Int32) (v2 : Int32) : Nat → Int32 → Int32 → Mem → (Int32 → Int32 → Mem → Option Ret) → Option Ret
  | 0, _, _, _, _ => none
  | k5 + 1, v3, v4, M, K5 => if (M.1 6 10) ≤ v4 then (K5 v3 v4 M) else (gV v4 100 (jn (α := Int32 → Option Ret) (fun (y2 : Int32) => f_X9_minutesIn_L5 v1 v2 k5 y2 (v4 + (1 : Int32)) M K5) (fun J1 => if (M.1 33 v4.toNatClampNeg) = v1 then (gV v4 100 (if (M.1 34 v4.toNatClampNeg) = v2 then (gV v4 100 (bI (v3 + (M.1 38 v4.toNatClampNeg)) (fun x3 => J1 x3))) else (J1 v3))) else (J1 v3))))
set_option maxRecDepth 100000 in
theorem f_X9_minutesIn_L5_ok {l : Launch} {g : Cx} (v1 : Int32) (v2 : Int32)  {r : Int32} {Mr : Mem} : ∀ (k : Nat) (v3 : Int32) (v4 : Int32) (M : Mem) (K5 : Int32 → Int32 → Mem → Option Ret), f_X9_minutesIn_L5 v1 v2 k v3 v4 M K5 = some (r, Mr) → (∀ (v3 : Int32) (v4 : Int32) (M : Mem), K5 v3 v4 M = some (r, Mr) → AT l g RX9 cX9_minutesIn 5 (some .int) (rmM 0 0) (PI r Mr) 52 [some (.ref (g.1 6)), some (.int v1), some (.int v2), some (.int v3), some (.int v4)] [] M) → AT l g RX9 cX9_minutesIn 5 (some .int) (rmM 0 0) (PI r Mr) 5 [some (.ref (g.1 6)), some (.int v1), some (.int v2), some (.int v3), some (.int v4)] [] M
  | 0, v3, v4, M, K5, h, hK5 => by cases h
  | k5 + 1, v3, v4, M, K5, h, hK5 => by
    have ih5 := f_X9_minutesIn_L5_ok (l := l) (g := g) v1 v2 (r := r) (Mr := Mr) k5
    rw [f_X9_minutesIn_L5] at h
    refine A_iload dX9_minutesIn_5 rfl ?_
    refine A_aload_n dX9_minutesIn_7 rfl ?_
    refine A_getf dX9_minutesIn_8 fw_X9_51 ob6 rfl ?_
    refine A_icmp_ge dX9_minutesIn_11 (fun hc => ?_) (fun hc => ?_)
    · have h := gT_go hc h
      exact A_le (lvLe_s (lvLe_s (lvLe_s (lvLe_s (lvLe_s lvLe_0))))) (hK5 _ _ _ h)
    · have h := gF_go hc h
      refine A_aload_n dX9_minutesIn_14 rfl ?_
      refine A_getf dX9_minutesIn_15 fw_X9_11 ob6 rfl ?_
      refine A_iload dX9_minutesIn_18 rfl ?_
      obtain ⟨hg, h⟩ := gV_go h
      refine A_iald dX9_minutesIn_20 ia33 hg ?_
      refine A_iload_n dX9_minutesIn_21 rfl ?_
      obtain ⟨J1, hJ1, h⟩ := jn_go h
      have JJ1 : ∀ (y2 : Int32), J1 y2 = some (r, Mr) → AT l g RX9 cX9_minutesIn 5 (some .int) (rmM 0 0) (PI r Mr) 46 [some (.ref (g.1 6)), some (.int v1), some (.int v2), some (.int y2), some (.int v4)] [] M := by
        intro y2 h
        rw [hJ1] at h
        refine A_iinc4 (d := 1) dX9_minutesIn_46 (by decide) (by decide) rfl ?_
        refine A_goto dX9_minutesIn_49 ?_
        exact A_le (lvLe_s (lvLe_s (lvLe_s (lvLe_s (lvLe_s lvLe_0))))) (ih5 _ _ _ K5 h hK5)
      refine A_icmp_ne dX9_minutesIn_22 (fun hc => ?_) (fun hc => ?_)
      · have h := gF_go hc h
        exact A_le (lvLe_s (lvLe_s (lvLe_s (lvLe_s (lvLe_s lvLe_0))))) (JJ1 _ h)
      · have h := gT_go hc h
        refine A_aload_n dX9_minutesIn_25 rfl ?_
        refine A_getf dX9_minutesIn_26 fw_X9_15 ob6 rfl ?_
        refine A_iload dX9_minutesIn_29 rfl ?_
        obtain ⟨hg, h⟩ := gV_go h
        refine A_iald dX9_minutesIn_31 ia34 hg ?_
        refine A_iload_n dX9_minutesIn_32 rfl ?_
        refine A_icmp_ne dX9_minutesIn_33 (fun hc => ?_) (fun hc => ?_)
        · have h := gF_go hc h
          exact A_le (lvLe_s (lvLe_s (lvLe_s (lvLe_s (lvLe_s lvLe_0))))) (JJ1 _ h)
        · have h := gT_go hc h
          refine A_iload_n dX9_minutesIn_36 rfl ?_
          refine A_aload_n dX9_minutesIn_37 rfl ?_
          refine A_getf dX9_minutesIn_38 fw_X9_27 ob6 rfl ?_
          refine A_iload dX9_minutesIn_41 rfl ?_
          obtain ⟨hg, h⟩ := gV_go h
          refine A_iald dX9_minutesIn_43 ia38 hg ?_
          refine A_iadd dX9_minutesIn_44 ?_
          refine A_istoren3 dX9_minutesIn_45 (by decide) rfl (bI_go h (G := fun z => AT l g RX9 cX9_minutesIn 5 (some .int) (rmM 0 0) (PI r Mr) 46 [some (.ref (g.1 6)), some (.int v1), some (.int v2), some (.int z), some (.int v4)] [] M) (fun x3 h => ?_))
          exact A_le (lvLe_s (lvLe_s (lvLe_s (lvLe_s (lvLe_s lvLe_0))))) (JJ1 _ h)
def f_X9_minutesIn (v1 : Int32) (v2 : Int32) (M : Mem) : Option Ret := f_X9_minutesIn_L5 v1 v2 FU (0 : Int32) (0 : Int32) M (fun w4 w5 M6 => some (w4, M6))
set_option maxRecDepth 100000 in
theorem ok_X9_minutesIn {l : Launch} {g : Cx} {v1 : Int32} {v2 : Int32} {M : Mem} {r : Int32} {Mr : Mem} (h : f_X9_minutesIn v1 v2 M = some (r, Mr)) : CT l g yX9_minutesIn cX9_minutesIn 5 (some .int) 0 0 [.ref (g.1 6), .int v1, .int v2] M (PI r Mr) := by
  refine CT_of (lv := [some (.ref (g.1 6)), some (.int v1), some (.int v2), none, none]) (by decide) rfl (Nat.le_of_ble_eq_true rfl) ?_
  unfold f_X9_minutesIn at h
  refine A_iconst (v := 0) dX9_minutesIn_0 (by decide) ?_
  refine A_istoren3 dX9_minutesIn_1 (by decide) rfl ?_
  refine A_iconst (v := 0) dX9_minutesIn_2 (by decide) ?_
  refine A_istore4 dX9_minutesIn_3 (by decide) rfl ?_
  refine f_X9_minutesIn_L5_ok _ _ FU _ _ _ _ h (fun w4 w5 M6 h => ?_)
  refine A_iload_n dX9_minutesIn_52 rfl ?_
  exact A_iret dX9_minutesIn_53 (pI_go h)
-- BenchTimes$Pays.allOf
theorem dX3_allOf_0 : di cX3_allOf 0 (.aload_n 0) 1 1 := ⟨by decide +kernel, rfl⟩
theorem dX3_allOf_1 : di cX3_allOf 1 (.getfield 9) 3 4 := ⟨by decide +kernel, rfl⟩
theorem dX3_allOf_4 : di cX3_allOf 4 (.iload_n 2) 1 5 := ⟨by decide +kernel, rfl⟩
theorem dX3_allOf_5 : di cX3_allOf 5 (.iload_n 1) 1 6 := ⟨by decide +kernel, rfl⟩
theorem dX3_allOf_6 : di cX3_allOf 6 (.invokevirtual 32) 3 9 := ⟨by decide +kernel, rfl⟩
theorem dX3_allOf_9 : di cX3_allOf 9 (.aload_n 0) 1 10 := ⟨by decide +kernel, rfl⟩
theorem dX3_allOf_10 : di cX3_allOf 10 (.getfield 15) 3 13 := ⟨by decide +kernel, rfl⟩
theorem dX3_allOf_13 : di cX3_allOf 13 (.iload_n 2) 1 14 := ⟨by decide +kernel, rfl⟩
theorem dX3_allOf_14 : di cX3_allOf 14 (.iload_n 1) 1 15 := ⟨by decide +kernel, rfl⟩
theorem dX3_allOf_15 : di cX3_allOf 15 (.invokevirtual 35) 3 18 := ⟨by decide +kernel, rfl⟩
theorem dX3_allOf_18 : di cX3_allOf 18 (.iadd) 1 19 := ⟨by decide +kernel, rfl⟩
theorem dX3_allOf_19 : di cX3_allOf 19 (.istore_n 3) 1 20 := ⟨by decide +kernel, rfl⟩
theorem dX3_allOf_20 : di cX3_allOf 20 (.iload_n 3) 1 21 := ⟨by decide +kernel, rfl⟩
theorem dX3_allOf_21 : di cX3_allOf 21 (.aload_n 0) 1 22 := ⟨by decide +kernel, rfl⟩
theorem dX3_allOf_22 : di cX3_allOf 22 (.getfield 19) 3 25 := ⟨by decide +kernel, rfl⟩
theorem dX3_allOf_25 : di cX3_allOf 25 (.iconst 4) 1 26 := ⟨by decide +kernel, rfl⟩
theorem dX3_allOf_26 : di cX3_allOf 26 (.invokevirtual 43) 3 29 := ⟨by decide +kernel, rfl⟩
theorem dX3_allOf_29 : di cX3_allOf 29 (.imul) 1 30 := ⟨by decide +kernel, rfl⟩
theorem dX3_allOf_30 : di cX3_allOf 30 (.bipush 100) 2 32 := ⟨by decide +kernel, rfl⟩
theorem dX3_allOf_32 : di cX3_allOf 32 (.idiv) 1 33 := ⟨by decide +kernel, rfl⟩
theorem dX3_allOf_33 : di cX3_allOf 33 (.istore 4) 2 35 := ⟨by decide +kernel, rfl⟩
theorem dX3_allOf_35 : di cX3_allOf 35 (.iload 4) 2 37 := ⟨by decide +kernel, rfl⟩
theorem dX3_allOf_37 : di cX3_allOf 37 (.aload_n 0) 1 38 := ⟨by decide +kernel, rfl⟩
theorem dX3_allOf_38 : di cX3_allOf 38 (.getfield 9) 3 41 := ⟨by decide +kernel, rfl⟩
theorem dX3_allOf_41 : di cX3_allOf 41 (.iload_n 2) 1 42 := ⟨by decide +kernel, rfl⟩
theorem dX3_allOf_42 : di cX3_allOf 42 (.iload_n 1) 1 43 := ⟨by decide +kernel, rfl⟩
theorem dX3_allOf_43 : di cX3_allOf 43 (.invokevirtual 23) 3 46 := ⟨by decide +kernel, rfl⟩
theorem dX3_allOf_46 : di cX3_allOf 46 (.aload_n 0) 1 47 := ⟨by decide +kernel, rfl⟩
theorem dX3_allOf_47 : di cX3_allOf 47 (.iload_n 1) 1 48 := ⟨by decide +kernel, rfl⟩
theorem dX3_allOf_48 : di cX3_allOf 48 (.iload_n 2) 1 49 := ⟨by decide +kernel, rfl⟩
theorem dX3_allOf_49 : di cX3_allOf 49 (.invokevirtual 29) 3 52 := ⟨by decide +kernel, rfl⟩
theorem dX3_allOf_52 : di cX3_allOf 52 (.iadd) 1 53 := ⟨by decide +kernel, rfl⟩
theorem dX3_allOf_53 : di cX3_allOf 53 (.invokestatic 47) 3 56 := ⟨by decide +kernel, rfl⟩
theorem dX3_allOf_56 : di cX3_allOf 56 (.ireturn) 1 57 := ⟨by decide +kernel, rfl⟩
def f_X3_allOf (v1 : Int32) (v2 : Int32) (M : Mem) : Option Ret := bE (f_X9_minutesIn v2 v1 M) (fun r2 M1 => bE (f_X7_minutesIn v2 v1 M1) (fun r4 M3 => bI (r2 + r4) (fun x5 => bE (f_X5_valueOf (4 : Int32) M3) (fun r7 M6 => bI ((x5 * r7) / (100 : Int32)) (fun x8 => bE (f_X9_earnedIn v2 v1 M6) (fun r10 M9 => bE (f_X3_forWaiting v1 v2 M9) (fun r12 M11 => some (if x8 < (r10 + r12) then (r10 + r12) else x8, M11))))))))
set_option maxRecDepth 100000 in
theorem ok_X3_allOf {l : Launch} {g : Cx} {v1 : Int32} {v2 : Int32} {M : Mem} {r : Int32} {Mr : Mem} (h : f_X3_allOf v1 v2 M = some (r, Mr)) : CT l g yX3_allOf cX3_allOf 5 (some .int) 4 95 [.ref (g.1 8), .int v1, .int v2] M (PI r Mr) := by
  refine CT_of (lv := [some (.ref (g.1 8)), some (.int v1), some (.int v2), none, none]) (by decide) rfl (Nat.le_of_ble_eq_true rfl) ?_
  unfold f_X3_allOf at h
  refine A_aload_n dX3_allOf_0 rfl ?_
  refine A_getf dX3_allOf_1 fw_X3_9 ob8 rfl ?_
  refine A_iload_n dX3_allOf_4 rfl ?_
  refine A_iload_n dX3_allOf_5 rfl ?_
  obtain ⟨r2, M1, h1, h⟩ := bE_go h
  refine A_cVi2 dX3_allOf_6 ml_X3_32 mb_X9_minutesIn mi_X9_minutesIn ob6 rfl rfl ⟨Nat.le_of_ble_eq_true rfl, Nat.le_of_ble_eq_true rfl⟩ (Nat.le_of_ble_eq_true rfl) (ok_X9_minutesIn h1) ?_
  refine A_aload_n dX3_allOf_9 rfl ?_
  refine A_getf dX3_allOf_10 fw_X3_15 ob8 rfl ?_
  refine A_iload_n dX3_allOf_13 rfl ?_
  refine A_iload_n dX3_allOf_14 rfl ?_
  obtain ⟨r4, M3, h1, h⟩ := bE_go h
  refine A_cVi2 dX3_allOf_15 ml_X3_35 mb_X7_minutesIn mi_X7_minutesIn ob7 rfl rfl ⟨Nat.le_of_ble_eq_true rfl, Nat.le_of_ble_eq_true rfl⟩ (Nat.le_of_ble_eq_true rfl) (ok_X7_minutesIn h1) ?_
  refine A_iadd dX3_allOf_18 ?_
  refine A_istoren3 dX3_allOf_19 (by decide) rfl (bI_go h (G := fun z => AT l g RX3 cX3_allOf 5 (some .int) (rmM 4 95) (PI r Mr) 20 [some (.ref (g.1 8)), some (.int v1), some (.int v2), some (.int z), none] [] M3) (fun x5 h => ?_))
  refine A_iload_n dX3_allOf_20 rfl ?_
  refine A_aload_n dX3_allOf_21 rfl ?_
  refine A_getf dX3_allOf_22 fw_X3_19 ob8 rfl ?_
  refine A_iconst (v := 4) dX3_allOf_25 (by decide) ?_
  obtain ⟨r7, M6, h1, h⟩ := bE_go h
  refine A_cVi1 dX3_allOf_26 ml_X3_43 mb_X5_valueOf mi_X5_valueOf ob5 rfl rfl ⟨Nat.le_of_ble_eq_true rfl, Nat.le_of_ble_eq_true rfl⟩ (Nat.le_of_ble_eq_true rfl) (ok_X5_valueOf h1) ?_
  refine A_imul dX3_allOf_29 ?_
  refine A_bipush (v := 100) dX3_allOf_30 (by decide) ?_
  refine A_idiv dX3_allOf_32 (by decide) ?_
  refine A_istore4 dX3_allOf_33 (by decide) rfl (bI_go h (G := fun z => AT l g RX3 cX3_allOf 5 (some .int) (rmM 4 95) (PI r Mr) 35 [some (.ref (g.1 8)), some (.int v1), some (.int v2), some (.int x5), some (.int z)] [] M6) (fun x8 h => ?_))
  refine A_iload dX3_allOf_35 rfl ?_
  refine A_aload_n dX3_allOf_37 rfl ?_
  refine A_getf dX3_allOf_38 fw_X3_9 ob8 rfl ?_
  refine A_iload_n dX3_allOf_41 rfl ?_
  refine A_iload_n dX3_allOf_42 rfl ?_
  obtain ⟨r10, M9, h1, h⟩ := bE_go h
  refine A_cVi2 dX3_allOf_43 ml_X3_23 mb_X9_earnedIn mi_X9_earnedIn ob6 rfl rfl ⟨Nat.le_of_ble_eq_true rfl, Nat.le_of_ble_eq_true rfl⟩ (Nat.le_of_ble_eq_true rfl) (ok_X9_earnedIn h1) ?_
  refine A_aload_n dX3_allOf_46 rfl ?_
  refine A_iload_n dX3_allOf_47 rfl ?_
  refine A_iload_n dX3_allOf_48 rfl ?_
  obtain ⟨r12, M11, h1, h⟩ := bE_go h
  refine A_cVi2 dX3_allOf_49 ml_X3_29 mb_X3_forWaiting mi_X3_forWaiting ob8 rfl rfl ⟨Nat.le_of_ble_eq_true rfl, Nat.le_of_ble_eq_true rfl⟩ (Nat.le_of_ble_eq_true rfl) (ok_X3_forWaiting h1) ?_
  refine A_iadd dX3_allOf_52 ?_
  refine A_mmax dX3_allOf_53 ml_X3_47 (Nat.le_of_ble_eq_true rfl) (Nat.le_of_ble_eq_true rfl) ?_
  exact A_iret dX3_allOf_56 (pI_go h)
-- BenchTimes$Pays.tellOf
theorem dX3_tellOf_0 : di cX3_tellOf 0 (.iload_n 3) 1 1 := ⟨by decide +kernel, rfl⟩
theorem dX3_tellOf_1 : dts cX3_tellOf 1 (1) (4) 69 [32, 42, 49, 59] := ⟨68, #[31, 41, 48, 58], 31, by decide +kernel, rfl, by decide +kernel⟩
theorem dX3_tellOf_32 : di cX3_tellOf 32 (.aload_n 0) 1 33 := ⟨by decide +kernel, rfl⟩
theorem dX3_tellOf_33 : di cX3_tellOf 33 (.getfield 9) 3 36 := ⟨by decide +kernel, rfl⟩
theorem dX3_tellOf_36 : di cX3_tellOf 36 (.iload_n 2) 1 37 := ⟨by decide +kernel, rfl⟩
theorem dX3_tellOf_37 : di cX3_tellOf 37 (.iload_n 1) 1 38 := ⟨by decide +kernel, rfl⟩
theorem dX3_tellOf_38 : di cX3_tellOf 38 (.invokevirtual 23) 3 41 := ⟨by decide +kernel, rfl⟩
theorem dX3_tellOf_41 : di cX3_tellOf 41 (.ireturn) 1 42 := ⟨by decide +kernel, rfl⟩
theorem dX3_tellOf_42 : di cX3_tellOf 42 (.aload_n 0) 1 43 := ⟨by decide +kernel, rfl⟩
theorem dX3_tellOf_43 : di cX3_tellOf 43 (.iload_n 1) 1 44 := ⟨by decide +kernel, rfl⟩
theorem dX3_tellOf_44 : di cX3_tellOf 44 (.iload_n 2) 1 45 := ⟨by decide +kernel, rfl⟩
theorem dX3_tellOf_45 : di cX3_tellOf 45 (.invokevirtual 29) 3 48 := ⟨by decide +kernel, rfl⟩
theorem dX3_tellOf_48 : di cX3_tellOf 48 (.ireturn) 1 49 := ⟨by decide +kernel, rfl⟩
theorem dX3_tellOf_49 : di cX3_tellOf 49 (.aload_n 0) 1 50 := ⟨by decide +kernel, rfl⟩
theorem dX3_tellOf_50 : di cX3_tellOf 50 (.getfield 9) 3 53 := ⟨by decide +kernel, rfl⟩
theorem dX3_tellOf_53 : di cX3_tellOf 53 (.iload_n 2) 1 54 := ⟨by decide +kernel, rfl⟩
theorem dX3_tellOf_54 : di cX3_tellOf 54 (.iload_n 1) 1 55 := ⟨by decide +kernel, rfl⟩
theorem dX3_tellOf_55 : di cX3_tellOf 55 (.invokevirtual 32) 3 58 := ⟨by decide +kernel, rfl⟩
theorem dX3_tellOf_58 : di cX3_tellOf 58 (.ireturn) 1 59 := ⟨by decide +kernel, rfl⟩
theorem dX3_tellOf_59 : di cX3_tellOf 59 (.aload_n 0) 1 60 := ⟨by decide +kernel, rfl⟩
theorem dX3_tellOf_60 : di cX3_tellOf 60 (.getfield 15) 3 63 := ⟨by decide +kernel, rfl⟩
theorem dX3_tellOf_63 : di cX3_tellOf 63 (.iload_n 2) 1 64 := ⟨by decide +kernel, rfl⟩
theorem dX3_tellOf_64 : di cX3_tellOf 64 (.iload_n 1) 1 65 := ⟨by decide +kernel, rfl⟩
theorem dX3_tellOf_65 : di cX3_tellOf 65 (.invokevirtual 35) 3 68 := ⟨by decide +kernel, rfl⟩
theorem dX3_tellOf_68 : di cX3_tellOf 68 (.ireturn) 1 69 := ⟨by decide +kernel, rfl⟩
theorem dX3_tellOf_69 : di cX3_tellOf 69 (.aload_n 0) 1 70 := ⟨by decide +kernel, rfl⟩
theorem dX3_tellOf_70 : di cX3_tellOf 70 (.iload_n 1) 1 71 := ⟨by decide +kernel, rfl⟩
theorem dX3_tellOf_71 : di cX3_tellOf 71 (.iload_n 2) 1 72 := ⟨by decide +kernel, rfl⟩
theorem dX3_tellOf_72 : di cX3_tellOf 72 (.invokevirtual 38) 3 75 := ⟨by decide +kernel, rfl⟩
theorem dX3_tellOf_75 : di cX3_tellOf 75 (.ireturn) 1 76 := ⟨by decide +kernel, rfl⟩
def f_X3_tellOf (v1 : Int32) (v2 : Int32) (v3 : Int32) (M : Mem) : Option Ret := if v3 = (1 : Int32) then (bE (f_X9_earnedIn v2 v1 M) (fun r2 M1 => some (r2, M1))) else (if v3 = (2 : Int32) then (bE (f_X3_forWaiting v1 v2 M) (fun r4 M3 => some (r4, M3))) else (if v3 = (3 : Int32) then (bE (f_X9_minutesIn v2 v1 M) (fun r6 M5 => some (r6, M5))) else (if v3 = (4 : Int32) then (bE (f_X7_minutesIn v2 v1 M) (fun r8 M7 => some (r8, M7))) else (bE (f_X3_allOf v1 v2 M) (fun r10 M9 => some (r10, M9))))))
set_option maxRecDepth 100000 in
theorem ok_X3_tellOf {l : Launch} {g : Cx} {v1 : Int32} {v2 : Int32} {v3 : Int32} {M : Mem} {r : Int32} {Mr : Mem} (h : f_X3_tellOf v1 v2 v3 M = some (r, Mr)) : CT l g yX3_tellOf cX3_tellOf 4 (some .int) 5 119 [.ref (g.1 8), .int v1, .int v2, .int v3] M (PI r Mr) := by
  refine CT_of (lv := [some (.ref (g.1 8)), some (.int v1), some (.int v2), some (.int v3)]) (by decide) rfl (Nat.le_of_ble_eq_true rfl) ?_
  unfold f_X3_tellOf at h
  refine A_iload_n dX3_tellOf_0 rfl ?_
  by_cases hc0 : v3 = (1 : Int32)
  · have h := gT_go hc0 h
    refine A_tsIn (k0 := 0) dX3_tellOf_1 (by rw [hc0]; decide) rfl ?_
    refine A_aload_n dX3_tellOf_32 rfl ?_
    refine A_getf dX3_tellOf_33 fw_X3_9 ob8 rfl ?_
    refine A_iload_n dX3_tellOf_36 rfl ?_
    refine A_iload_n dX3_tellOf_37 rfl ?_
    obtain ⟨r2, M1, h1, h⟩ := bE_go h
    refine A_cVi2 dX3_tellOf_38 ml_X3_23 mb_X9_earnedIn mi_X9_earnedIn ob6 rfl rfl ⟨Nat.le_of_ble_eq_true rfl, Nat.le_of_ble_eq_true rfl⟩ (Nat.le_of_ble_eq_true rfl) (ok_X9_earnedIn h1) ?_
    exact A_iret dX3_tellOf_41 (pI_go h)
  have h := gF_go hc0 h
  by_cases hc1 : v3 = (2 : Int32)
  · have h := gT_go hc1 h
    refine A_tsIn (k0 := 1) dX3_tellOf_1 (by rw [hc1]; decide) rfl ?_
    refine A_aload_n dX3_tellOf_42 rfl ?_
    refine A_iload_n dX3_tellOf_43 rfl ?_
    refine A_iload_n dX3_tellOf_44 rfl ?_
    obtain ⟨r4, M3, h1, h⟩ := bE_go h
    refine A_cVi2 dX3_tellOf_45 ml_X3_29 mb_X3_forWaiting mi_X3_forWaiting ob8 rfl rfl ⟨Nat.le_of_ble_eq_true rfl, Nat.le_of_ble_eq_true rfl⟩ (Nat.le_of_ble_eq_true rfl) (ok_X3_forWaiting h1) ?_
    exact A_iret dX3_tellOf_48 (pI_go h)
  have h := gF_go hc1 h
  by_cases hc2 : v3 = (3 : Int32)
  · have h := gT_go hc2 h
    refine A_tsIn (k0 := 2) dX3_tellOf_1 (by rw [hc2]; decide) rfl ?_
    refine A_aload_n dX3_tellOf_49 rfl ?_
    refine A_getf dX3_tellOf_50 fw_X3_9 ob8 rfl ?_
    refine A_iload_n dX3_tellOf_53 rfl ?_
    refine A_iload_n dX3_tellOf_54 rfl ?_
    obtain ⟨r6, M5, h1, h⟩ := bE_go h
    refine A_cVi2 dX3_tellOf_55 ml_X3_32 mb_X9_minutesIn mi_X9_minutesIn ob6 rfl rfl ⟨Nat.le_of_ble_eq_true rfl, Nat.le_of_ble_eq_true rfl⟩ (Nat.le_of_ble_eq_true rfl) (ok_X9_minutesIn h1) ?_
    exact A_iret dX3_tellOf_58 (pI_go h)
  have h := gF_go hc2 h
  by_cases hc3 : v3 = (4 : Int32)
  · have h := gT_go hc3 h
    refine A_tsIn (k0 := 3) dX3_tellOf_1 (by rw [hc3]; decide) rfl ?_
    refine A_aload_n dX3_tellOf_59 rfl ?_
    refine A_getf dX3_tellOf_60 fw_X3_15 ob8 rfl ?_
    refine A_iload_n dX3_tellOf_63 rfl ?_
    refine A_iload_n dX3_tellOf_64 rfl ?_
    obtain ⟨r8, M7, h1, h⟩ := bE_go h
    refine A_cVi2 dX3_tellOf_65 ml_X3_35 mb_X7_minutesIn mi_X7_minutesIn ob7 rfl rfl ⟨Nat.le_of_ble_eq_true rfl, Nat.le_of_ble_eq_true rfl⟩ (Nat.le_of_ble_eq_true rfl) (ok_X7_minutesIn h1) ?_
    exact A_iret dX3_tellOf_68 (pI_go h)
  have h := gF_go hc3 h
  refine A_tsOut dX3_tellOf_1 (tsw_out (fun k h1 h2 => ?_)) ?_
  · rcases (show k = 1 ∨ k = 2 ∨ k = 3 ∨ k = 4 by omega) with rfl | rfl | rfl | rfl
    · exact hc0
    · exact hc1
    · exact hc2
    · exact hc3
  · refine A_aload_n dX3_tellOf_69 rfl ?_
    refine A_iload_n dX3_tellOf_70 rfl ?_
    refine A_iload_n dX3_tellOf_71 rfl ?_
    obtain ⟨r10, M9, h1, h⟩ := bE_go h
    refine A_cVi2 dX3_tellOf_72 ml_X3_38 mb_X3_allOf mi_X3_allOf ob8 rfl rfl ⟨Nat.le_of_ble_eq_true rfl, Nat.le_of_ble_eq_true rfl⟩ (Nat.le_of_ble_eq_true rfl) (ok_X3_allOf h1) ?_
    exact A_iret dX3_tellOf_75 (pI_go h)
-- BenchTimes.isIn
theorem dX10_isIn_0 : di cX10_isIn 0 (.iload_n 0) 1 1 := ⟨by decide +kernel, rfl⟩
theorem dX10_isIn_1 : di cX10_isIn 1 (.iload_n 1) 1 2 := ⟨by decide +kernel, rfl⟩
theorem dX10_isIn_2 : di cX10_isIn 2 (.ishr) 1 3 := ⟨by decide +kernel, rfl⟩
theorem dX10_isIn_3 : di cX10_isIn 3 (.iconst 1) 1 4 := ⟨by decide +kernel, rfl⟩
theorem dX10_isIn_4 : di cX10_isIn 4 (.iand) 1 5 := ⟨by decide +kernel, rfl⟩
theorem dX10_isIn_5 : di cX10_isIn 5 (.iconst 1) 1 6 := ⟨by decide +kernel, rfl⟩
theorem dX10_isIn_6 : dj cX10_isIn 6 (.if_icmp .ne) 9 13 := ⟨7, by decide +kernel, rfl, rfl⟩
theorem dX10_isIn_9 : di cX10_isIn 9 (.iconst 1) 1 10 := ⟨by decide +kernel, rfl⟩
theorem dX10_isIn_10 : dj cX10_isIn 10 .goto 13 14 := ⟨4, by decide +kernel, rfl, rfl⟩
theorem dX10_isIn_13 : di cX10_isIn 13 (.iconst 0) 1 14 := ⟨by decide +kernel, rfl⟩
theorem dX10_isIn_14 : di cX10_isIn 14 (.ireturn) 1 15 := ⟨by decide +kernel, rfl⟩
def f_X10_isIn (v0 : Int32) (v1 : Int32) (M : Mem) : Option Ret := jn (α := Int32 → Option Ret) (fun (z2 : Int32) => gZ z2 (some (z2, M))) (fun J1 => if ((v0 >>> (v1 &&& 31)) &&& (1 : Int32)) = (1 : Int32) then (J1 (1 : Int32)) else (J1 (0 : Int32)))
set_option maxRecDepth 100000 in
theorem ok_X10_isIn {l : Launch} {g : Cx} {v0 : Int32} {v1 : Int32} {M : Mem} {r : Int32} {Mr : Mem} (h : f_X10_isIn v0 v1 M = some (r, Mr)) : CT l g yX10_isIn cX10_isIn 2 (some .boolean) 0 0 [.int v0, .int v1] M (PI r Mr) := by
  refine CT_of (lv := [some (.int v0), some (.int v1)]) (by decide) rfl (Nat.le_of_ble_eq_true rfl) ?_
  unfold f_X10_isIn at h
  refine A_iload_n dX10_isIn_0 rfl ?_
  refine A_iload_n dX10_isIn_1 rfl ?_
  refine A_ishr dX10_isIn_2 ?_
  refine A_iconst (v := 1) dX10_isIn_3 (by decide) ?_
  refine A_iand dX10_isIn_4 ?_
  refine A_iconst (v := 1) dX10_isIn_5 (by decide) ?_
  obtain ⟨J1, hJ1, h⟩ := jn_go h
  have JJ1 : ∀ (z2 : Int32), J1 z2 = some (r, Mr) → AT l g RX10 cX10_isIn 2 (some .boolean) (rmM 0 0) (PI r Mr) 14 [some (.int v0), some (.int v1)] [.int z2] M := by
    intro z2 h
    rw [hJ1] at h
    obtain ⟨hg, h⟩ := gZ_go h
    exact A_zret dX10_isIn_14 hg (pI_go h)
  refine A_icmp_ne dX10_isIn_6 (fun hc => ?_) (fun hc => ?_)
  · have h := gF_go hc h
    refine A_iconst (v := 0) dX10_isIn_13 (by decide) ?_
    exact A_le (lvLe_s (lvLe_s lvLe_0)) (JJ1 _ h)
  · have h := gT_go hc h
    refine A_iconst (v := 1) dX10_isIn_9 (by decide) ?_
    refine A_goto dX10_isIn_10 ?_
    exact A_le (lvLe_s (lvLe_s lvLe_0)) (JJ1 _ h)
-- BenchTimes$Pays.shareOf
theorem dX3_shareOf_0 : di cX3_shareOf 0 (.lconst 0) 1 1 := ⟨by decide +kernel, rfl⟩
theorem dX3_shareOf_1 : di cX3_shareOf 1 (.lstore 4) 2 3 := ⟨by decide +kernel, rfl⟩
theorem dX3_shareOf_3 : di cX3_shareOf 3 (.lconst 0) 1 4 := ⟨by decide +kernel, rfl⟩
theorem dX3_shareOf_4 : di cX3_shareOf 4 (.lstore 6) 2 6 := ⟨by decide +kernel, rfl⟩
theorem dX3_shareOf_6 : di cX3_shareOf 6 (.iconst 0) 1 7 := ⟨by decide +kernel, rfl⟩
theorem dX3_shareOf_7 : di cX3_shareOf 7 (.istore 8) 2 9 := ⟨by decide +kernel, rfl⟩
theorem dX3_shareOf_9 : di cX3_shareOf 9 (.iload 8) 2 11 := ⟨by decide +kernel, rfl⟩
theorem dX3_shareOf_11 : di cX3_shareOf 11 (.bipush 8) 2 13 := ⟨by decide +kernel, rfl⟩
theorem dX3_shareOf_13 : dj cX3_shareOf 13 (.if_icmp .ge) 16 60 := ⟨47, by decide +kernel, rfl, rfl⟩
theorem dX3_shareOf_16 : di cX3_shareOf 16 (.iload_n 1) 1 17 := ⟨by decide +kernel, rfl⟩
theorem dX3_shareOf_17 : di cX3_shareOf 17 (.iload 8) 2 19 := ⟨by decide +kernel, rfl⟩
theorem dX3_shareOf_19 : di cX3_shareOf 19 (.invokestatic 52) 3 22 := ⟨by decide +kernel, rfl⟩
theorem dX3_shareOf_22 : dj cX3_shareOf 22 (.ifCond .eq) 25 54 := ⟨32, by decide +kernel, rfl, rfl⟩
theorem dX3_shareOf_25 : di cX3_shareOf 25 (.lload 4) 2 27 := ⟨by decide +kernel, rfl⟩
theorem dX3_shareOf_27 : di cX3_shareOf 27 (.aload_n 0) 1 28 := ⟨by decide +kernel, rfl⟩
theorem dX3_shareOf_28 : di cX3_shareOf 28 (.iload 8) 2 30 := ⟨by decide +kernel, rfl⟩
theorem dX3_shareOf_30 : di cX3_shareOf 30 (.iload_n 2) 1 31 := ⟨by decide +kernel, rfl⟩
theorem dX3_shareOf_31 : di cX3_shareOf 31 (.invokevirtual 38) 3 34 := ⟨by decide +kernel, rfl⟩
theorem dX3_shareOf_34 : di cX3_shareOf 34 (.i2l) 1 35 := ⟨by decide +kernel, rfl⟩
theorem dX3_shareOf_35 : di cX3_shareOf 35 (.ladd) 1 36 := ⟨by decide +kernel, rfl⟩
theorem dX3_shareOf_36 : di cX3_shareOf 36 (.lstore 4) 2 38 := ⟨by decide +kernel, rfl⟩
theorem dX3_shareOf_38 : di cX3_shareOf 38 (.lload 6) 2 40 := ⟨by decide +kernel, rfl⟩
theorem dX3_shareOf_40 : di cX3_shareOf 40 (.aload_n 0) 1 41 := ⟨by decide +kernel, rfl⟩
theorem dX3_shareOf_41 : di cX3_shareOf 41 (.getfield 9) 3 44 := ⟨by decide +kernel, rfl⟩
theorem dX3_shareOf_44 : di cX3_shareOf 44 (.iload_n 2) 1 45 := ⟨by decide +kernel, rfl⟩
theorem dX3_shareOf_45 : di cX3_shareOf 45 (.iload 8) 2 47 := ⟨by decide +kernel, rfl⟩
theorem dX3_shareOf_47 : di cX3_shareOf 47 (.invokevirtual 32) 3 50 := ⟨by decide +kernel, rfl⟩
theorem dX3_shareOf_50 : di cX3_shareOf 50 (.i2l) 1 51 := ⟨by decide +kernel, rfl⟩
theorem dX3_shareOf_51 : di cX3_shareOf 51 (.ladd) 1 52 := ⟨by decide +kernel, rfl⟩
theorem dX3_shareOf_52 : di cX3_shareOf 52 (.lstore 6) 2 54 := ⟨by decide +kernel, rfl⟩
theorem dX3_shareOf_54 : di cX3_shareOf 54 (.iinc 8 1) 3 57 := ⟨by decide +kernel, rfl⟩
theorem dX3_shareOf_57 : dj cX3_shareOf 57 .goto 60 9 := ⟨-48, by decide +kernel, rfl, rfl⟩
theorem dX3_shareOf_60 : di cX3_shareOf 60 (.lload 6) 2 62 := ⟨by decide +kernel, rfl⟩
theorem dX3_shareOf_62 : di cX3_shareOf 62 (.lconst 0) 1 63 := ⟨by decide +kernel, rfl⟩
theorem dX3_shareOf_63 : di cX3_shareOf 63 (.lcmp) 1 64 := ⟨by decide +kernel, rfl⟩
theorem dX3_shareOf_64 : dj cX3_shareOf 64 (.ifCond .ne) 67 69 := ⟨5, by decide +kernel, rfl, rfl⟩
theorem dX3_shareOf_67 : di cX3_shareOf 67 (.iconst (-1)) 1 68 := ⟨by decide +kernel, rfl⟩
theorem dX3_shareOf_68 : di cX3_shareOf 68 (.ireturn) 1 69 := ⟨by decide +kernel, rfl⟩
theorem dX3_shareOf_69 : di cX3_shareOf 69 (.lload 4) 2 71 := ⟨by decide +kernel, rfl⟩
theorem dX3_shareOf_71 : di cX3_shareOf 71 (.lstore 8) 2 73 := ⟨by decide +kernel, rfl⟩
theorem dX3_shareOf_73 : di cX3_shareOf 73 (.iconst 0) 1 74 := ⟨by decide +kernel, rfl⟩
theorem dX3_shareOf_74 : di cX3_shareOf 74 (.istore 10) 2 76 := ⟨by decide +kernel, rfl⟩
theorem dX3_shareOf_76 : di cX3_shareOf 76 (.iconst 0) 1 77 := ⟨by decide +kernel, rfl⟩
theorem dX3_shareOf_77 : di cX3_shareOf 77 (.istore 11) 2 79 := ⟨by decide +kernel, rfl⟩
theorem dX3_shareOf_79 : di cX3_shareOf 79 (.iload 11) 2 81 := ⟨by decide +kernel, rfl⟩
theorem dX3_shareOf_81 : di cX3_shareOf 81 (.bipush 8) 2 83 := ⟨by decide +kernel, rfl⟩
theorem dX3_shareOf_83 : dj cX3_shareOf 83 (.if_icmp .ge) 86 152 := ⟨69, by decide +kernel, rfl, rfl⟩
theorem dX3_shareOf_86 : di cX3_shareOf 86 (.iload_n 1) 1 87 := ⟨by decide +kernel, rfl⟩
theorem dX3_shareOf_87 : di cX3_shareOf 87 (.iload 11) 2 89 := ⟨by decide +kernel, rfl⟩
theorem dX3_shareOf_89 : di cX3_shareOf 89 (.invokestatic 52) 3 92 := ⟨by decide +kernel, rfl⟩
theorem dX3_shareOf_92 : dj cX3_shareOf 92 (.ifCond .eq) 95 108 := ⟨16, by decide +kernel, rfl, rfl⟩
theorem dX3_shareOf_95 : di cX3_shareOf 95 (.aload_n 0) 1 96 := ⟨by decide +kernel, rfl⟩
theorem dX3_shareOf_96 : di cX3_shareOf 96 (.getfield 9) 3 99 := ⟨by decide +kernel, rfl⟩
theorem dX3_shareOf_99 : di cX3_shareOf 99 (.iload_n 2) 1 100 := ⟨by decide +kernel, rfl⟩
theorem dX3_shareOf_100 : di cX3_shareOf 100 (.iload 11) 2 102 := ⟨by decide +kernel, rfl⟩
theorem dX3_shareOf_102 : di cX3_shareOf 102 (.invokevirtual 32) 3 105 := ⟨by decide +kernel, rfl⟩
theorem dX3_shareOf_105 : dj cX3_shareOf 105 .goto 108 109 := ⟨4, by decide +kernel, rfl, rfl⟩
theorem dX3_shareOf_108 : di cX3_shareOf 108 (.iconst 0) 1 109 := ⟨by decide +kernel, rfl⟩
theorem dX3_shareOf_109 : di cX3_shareOf 109 (.istore 12) 2 111 := ⟨by decide +kernel, rfl⟩
theorem dX3_shareOf_111 : di cX3_shareOf 111 (.lload 8) 2 113 := ⟨by decide +kernel, rfl⟩
theorem dX3_shareOf_113 : di cX3_shareOf 113 (.lload 4) 2 115 := ⟨by decide +kernel, rfl⟩
theorem dX3_shareOf_115 : di cX3_shareOf 115 (.iload 12) 2 117 := ⟨by decide +kernel, rfl⟩
theorem dX3_shareOf_117 : di cX3_shareOf 117 (.i2l) 1 118 := ⟨by decide +kernel, rfl⟩
theorem dX3_shareOf_118 : di cX3_shareOf 118 (.lmul) 1 119 := ⟨by decide +kernel, rfl⟩
theorem dX3_shareOf_119 : di cX3_shareOf 119 (.lload 6) 2 121 := ⟨by decide +kernel, rfl⟩
theorem dX3_shareOf_121 : di cX3_shareOf 121 (.ldiv) 1 122 := ⟨by decide +kernel, rfl⟩
theorem dX3_shareOf_122 : di cX3_shareOf 122 (.lsub) 1 123 := ⟨by decide +kernel, rfl⟩
theorem dX3_shareOf_123 : di cX3_shareOf 123 (.lstore 8) 2 125 := ⟨by decide +kernel, rfl⟩
theorem dX3_shareOf_125 : di cX3_shareOf 125 (.iload 10) 2 127 := ⟨by decide +kernel, rfl⟩
theorem dX3_shareOf_127 : di cX3_shareOf 127 (.iload 12) 2 129 := ⟨by decide +kernel, rfl⟩
theorem dX3_shareOf_129 : dj cX3_shareOf 129 (.ifCond .le) 132 142 := ⟨13, by decide +kernel, rfl, rfl⟩
theorem dX3_shareOf_132 : di cX3_shareOf 132 (.iload 11) 2 134 := ⟨by decide +kernel, rfl⟩
theorem dX3_shareOf_134 : di cX3_shareOf 134 (.iload_n 3) 1 135 := ⟨by decide +kernel, rfl⟩
theorem dX3_shareOf_135 : dj cX3_shareOf 135 (.if_icmp .ge) 138 142 := ⟨7, by decide +kernel, rfl, rfl⟩
theorem dX3_shareOf_138 : di cX3_shareOf 138 (.iconst 1) 1 139 := ⟨by decide +kernel, rfl⟩
theorem dX3_shareOf_139 : dj cX3_shareOf 139 .goto 142 143 := ⟨4, by decide +kernel, rfl, rfl⟩
theorem dX3_shareOf_142 : di cX3_shareOf 142 (.iconst 0) 1 143 := ⟨by decide +kernel, rfl⟩
theorem dX3_shareOf_143 : di cX3_shareOf 143 (.iadd) 1 144 := ⟨by decide +kernel, rfl⟩
theorem dX3_shareOf_144 : di cX3_shareOf 144 (.istore 10) 2 146 := ⟨by decide +kernel, rfl⟩
theorem dX3_shareOf_146 : di cX3_shareOf 146 (.iinc 11 1) 3 149 := ⟨by decide +kernel, rfl⟩
theorem dX3_shareOf_149 : dj cX3_shareOf 149 .goto 152 79 := ⟨-70, by decide +kernel, rfl, rfl⟩
theorem dX3_shareOf_152 : di cX3_shareOf 152 (.aload_n 0) 1 153 := ⟨by decide +kernel, rfl⟩
theorem dX3_shareOf_153 : di cX3_shareOf 153 (.getfield 9) 3 156 := ⟨by decide +kernel, rfl⟩
theorem dX3_shareOf_156 : di cX3_shareOf 156 (.iload_n 2) 1 157 := ⟨by decide +kernel, rfl⟩
theorem dX3_shareOf_157 : di cX3_shareOf 157 (.iload_n 3) 1 158 := ⟨by decide +kernel, rfl⟩
theorem dX3_shareOf_158 : di cX3_shareOf 158 (.invokevirtual 32) 3 161 := ⟨by decide +kernel, rfl⟩
theorem dX3_shareOf_161 : di cX3_shareOf 161 (.istore 11) 2 163 := ⟨by decide +kernel, rfl⟩
theorem dX3_shareOf_163 : di cX3_shareOf 163 (.iload 11) 2 165 := ⟨by decide +kernel, rfl⟩
theorem dX3_shareOf_165 : dj cX3_shareOf 165 (.ifCond .le) 168 181 := ⟨16, by decide +kernel, rfl, rfl⟩
theorem dX3_shareOf_168 : di cX3_shareOf 168 (.iload 10) 2 170 := ⟨by decide +kernel, rfl⟩
theorem dX3_shareOf_170 : di cX3_shareOf 170 (.i2l) 1 171 := ⟨by decide +kernel, rfl⟩
theorem dX3_shareOf_171 : di cX3_shareOf 171 (.lload 8) 2 173 := ⟨by decide +kernel, rfl⟩
theorem dX3_shareOf_173 : di cX3_shareOf 173 (.lcmp) 1 174 := ⟨by decide +kernel, rfl⟩
theorem dX3_shareOf_174 : dj cX3_shareOf 174 (.ifCond .ge) 177 181 := ⟨7, by decide +kernel, rfl, rfl⟩
theorem dX3_shareOf_177 : di cX3_shareOf 177 (.iconst 1) 1 178 := ⟨by decide +kernel, rfl⟩
theorem dX3_shareOf_178 : dj cX3_shareOf 178 .goto 181 182 := ⟨4, by decide +kernel, rfl, rfl⟩
theorem dX3_shareOf_181 : di cX3_shareOf 181 (.iconst 0) 1 182 := ⟨by decide +kernel, rfl⟩
theorem dX3_shareOf_182 : di cX3_shareOf 182 (.istore 12) 2 184 := ⟨by decide +kernel, rfl⟩
theorem dX3_shareOf_184 : di cX3_shareOf 184 (.lload 4) 2 186 := ⟨by decide +kernel, rfl⟩
theorem dX3_shareOf_186 : di cX3_shareOf 186 (.iload 11) 2 188 := ⟨by decide +kernel, rfl⟩
theorem dX3_shareOf_188 : di cX3_shareOf 188 (.i2l) 1 189 := ⟨by decide +kernel, rfl⟩
theorem dX3_shareOf_189 : di cX3_shareOf 189 (.lmul) 1 190 := ⟨by decide +kernel, rfl⟩
theorem dX3_shareOf_190 : di cX3_shareOf 190 (.lload 6) 2 192 := ⟨by decide +kernel, rfl⟩
theorem dX3_shareOf_192 : di cX3_shareOf 192 (.ldiv) 1 193 := ⟨by decide +kernel, rfl⟩
theorem dX3_shareOf_193 : di cX3_shareOf 193 (.l2i) 1 194 := ⟨by decide +kernel, rfl⟩
theorem dX3_shareOf_194 : di cX3_shareOf 194 (.iload 12) 2 196 := ⟨by decide +kernel, rfl⟩
theorem dX3_shareOf_196 : di cX3_shareOf 196 (.iadd) 1 197 := ⟨by decide +kernel, rfl⟩
theorem dX3_shareOf_197 : di cX3_shareOf 197 (.ireturn) 1 198 := ⟨by decide +kernel, rfl⟩
def f_X3_shareOf_L9 (v1 : Int32) (v2 : Int32) (v3 : Int32) : Nat → Int64 → Int64 → Int32 → Mem → (Int64 → Int64 → Int32 → Mem → Option Ret) → Option Ret
  | 0, _, _, _, _, _ => none
  | k9 + 1, v4, v6, v8, M, K9 => if (8 : Int32) ≤ v8 then (K9 v4 v6 v8 M) else (bE (f_X10_isIn v1 v8 M) (fun r2 M1 => jn (α := Int64 → Int64 → Mem → Option Ret) (fun (y4 : Int64) (y5 : Int64) (M6 : Mem) => f_X3_shareOf_L9 v1 v2 v3 k9 y4 y5 (v8 + (1 : Int32)) M6 K9) (fun J3 => if r2 = 0 then (J3 v4 v6 M1) else (bE (f_X3_allOf v8 v2 M1) (fun r8 M7 => bI (v4 + (r8.toInt64)) (fun x9 => bE (f_X9_minutesIn v2 v8 M7) (fun r11 M10 => bI (v6 + (r11.toInt64)) (fun x12 => J3 x9 x12 M10))))))))
set_option maxRecDepth 100000 in
theorem f_X3_shareOf_L9_ok {l : Launch} {g : Cx} (v1 : Int32) (v2 : Int32) (v3 : Int32)  {r : Int32} {Mr : Mem} : ∀ (k : Nat) (v4 : Int64) (v6 : Int64) (v8 : Int32) (M : Mem) (K9 : Int64 → Int64 → Int32 → Mem → Option Ret), f_X3_shareOf_L9 v1 v2 v3 k v4 v6 v8 M K9 = some (r, Mr) → (∀ (v4 : Int64) (v6 : Int64) (v8 : Int32) (M : Mem), K9 v4 v6 v8 M = some (r, Mr) → AT l g RX3 cX3_shareOf 13 (some .int) (rmM 5 119) (PI r Mr) 60 [some (.ref (g.1 8)), some (.int v1), some (.int v2), some (.int v3), some (.long v4), none, some (.long v6), none, some (.int v8), none, none, none, none] [] M) → AT l g RX3 cX3_shareOf 13 (some .int) (rmM 5 119) (PI r Mr) 9 [some (.ref (g.1 8)), some (.int v1), some (.int v2), some (.int v3), some (.long v4), none, some (.long v6), none, some (.int v8), none, none, none, none] [] M
  | 0, v4, v6, v8, M, K9, h, hK9 => by cases h
  | k9 + 1, v4, v6, v8, M, K9, h, hK9 => by
    have ih9 := f_X3_shareOf_L9_ok (l := l) (g := g) v1 v2 v3 (r := r) (Mr := Mr) k9
    rw [f_X3_shareOf_L9] at h
    refine A_iload dX3_shareOf_9 rfl ?_
    refine A_bipush (v := 8) dX3_shareOf_11 (by decide) ?_
    refine A_icmp_ge dX3_shareOf_13 (fun hc => ?_) (fun hc => ?_)
    · have h := gT_go hc h
      exact A_le (lvLe_s (lvLe_s (lvLe_s (lvLe_s (lvLe_s (lvLe_n (lvLe_s (lvLe_n (lvLe_s (lvLe_n (lvLe_n (lvLe_n (lvLe_n lvLe_0))))))))))))) (hK9 _ _ _ _ h)
    · have h := gF_go hc h
      refine A_iload_n dX3_shareOf_16 rfl ?_
      refine A_iload dX3_shareOf_17 rfl ?_
      obtain ⟨r2, M1, h1, h⟩ := bE_go h
      refine A_cNi2 dX3_shareOf_19 nl_X3_52 mb_X10_isIn ms_X10_isIn ⟨Nat.le_of_ble_eq_true rfl, Nat.le_of_ble_eq_true rfl⟩ (Nat.le_of_ble_eq_true rfl) (ok_X10_isIn h1) ?_
      obtain ⟨J3, hJ3, h⟩ := jn_go h
      have JJ3 : ∀ (y4 : Int64) (y5 : Int64) (M6 : Mem), J3 y4 y5 M6 = some (r, Mr) → AT l g RX3 cX3_shareOf 13 (some .int) (rmM 5 119) (PI r Mr) 54 [some (.ref (g.1 8)), some (.int v1), some (.int v2), some (.int v3), some (.long y4), none, some (.long y5), none, some (.int v8), none, none, none, none] [] M6 := by
        intro y4 y5 M6 h
        rw [hJ3] at h
        refine A_iinc8 (d := 1) dX3_shareOf_54 (by decide) (by decide) rfl ?_
        refine A_goto dX3_shareOf_57 ?_
        exact A_le (lvLe_s (lvLe_s (lvLe_s (lvLe_s (lvLe_s (lvLe_n (lvLe_s (lvLe_n (lvLe_s (lvLe_n (lvLe_n (lvLe_n (lvLe_n lvLe_0))))))))))))) (ih9 _ _ _ _ K9 h hK9)
      refine A_if_eq dX3_shareOf_22 (fun hc => ?_) (fun hc => ?_)
      · have h := gT_go hc h
        exact A_le (lvLe_s (lvLe_s (lvLe_s (lvLe_s (lvLe_s (lvLe_n (lvLe_s (lvLe_n (lvLe_s (lvLe_n (lvLe_n (lvLe_n (lvLe_n lvLe_0))))))))))))) (JJ3 _ _ _ h)
      · have h := gF_go hc h
        refine A_lload dX3_shareOf_25 rfl ?_
        refine A_aload_n dX3_shareOf_27 rfl ?_
        refine A_iload dX3_shareOf_28 rfl ?_
        refine A_iload_n dX3_shareOf_30 rfl ?_
        obtain ⟨r8, M7, h1, h⟩ := bE_go h
        refine A_cVi2 dX3_shareOf_31 ml_X3_38 mb_X3_allOf mi_X3_allOf ob8 rfl rfl ⟨Nat.le_of_ble_eq_true rfl, Nat.le_of_ble_eq_true rfl⟩ (Nat.le_of_ble_eq_true rfl) (ok_X3_allOf h1) ?_
        refine A_i2l dX3_shareOf_34 ?_
        refine A_ladd dX3_shareOf_35 ?_
        refine A_lstore4 dX3_shareOf_36 (by decide) rfl (bI_go h (G := fun z => AT l g RX3 cX3_shareOf 13 (some .int) (rmM 5 119) (PI r Mr) 38 [some (.ref (g.1 8)), some (.int v1), some (.int v2), some (.int v3), some (.long z), none, some (.long v6), none, some (.int v8), none, none, none, none] [] M7) (fun x9 h => ?_))
        refine A_lload dX3_shareOf_38 rfl ?_
        refine A_aload_n dX3_shareOf_40 rfl ?_
        refine A_getf dX3_shareOf_41 fw_X3_9 ob8 rfl ?_
        refine A_iload_n dX3_shareOf_44 rfl ?_
        refine A_iload dX3_shareOf_45 rfl ?_
        obtain ⟨r11, M10, h1, h⟩ := bE_go h
        refine A_cVi2 dX3_shareOf_47 ml_X3_32 mb_X9_minutesIn mi_X9_minutesIn ob6 rfl rfl ⟨Nat.le_of_ble_eq_true rfl, Nat.le_of_ble_eq_true rfl⟩ (Nat.le_of_ble_eq_true rfl) (ok_X9_minutesIn h1) ?_
        refine A_i2l dX3_shareOf_50 ?_
        refine A_ladd dX3_shareOf_51 ?_
        refine A_lstore6 dX3_shareOf_52 (by decide) rfl (bI_go h (G := fun z => AT l g RX3 cX3_shareOf 13 (some .int) (rmM 5 119) (PI r Mr) 54 [some (.ref (g.1 8)), some (.int v1), some (.int v2), some (.int v3), some (.long x9), none, some (.long z), none, some (.int v8), none, none, none, none] [] M10) (fun x12 h => ?_))
        exact A_le (lvLe_s (lvLe_s (lvLe_s (lvLe_s (lvLe_s (lvLe_n (lvLe_s (lvLe_n (lvLe_s (lvLe_n (lvLe_n (lvLe_n (lvLe_n lvLe_0))))))))))))) (JJ3 _ _ _ h)
def f_X3_shareOf_L79 (v1 : Int32) (v2 : Int32) (v3 : Int32) (v4 : Int64) (v6 : Int64) : Nat → Int64 → Int32 → Int32 → Mem → (Int64 → Int32 → Int32 → Mem → Option Ret) → Option Ret
  | 0, _, _, _, _, _ => none
  | k79 + 1, v8, v10, v11, M, K79 => if (8 : Int32) ≤ v11 then (K79 v8 v10 v11 M) else (bE (f_X10_isIn v1 v11 M) (fun r18 M17 => jn (α := Int32 → Mem → Option Ret) (fun (z20 : Int32) (M21 : Mem) => gNL v6 (bI (v8 - ((v4 * (z20.toInt64)) / v6)) (fun x22 => jn (α := Int32 → Option Ret) (fun (z24 : Int32) => bI (v10 + z24) (fun x25 => f_X3_shareOf_L79 v1 v2 v3 v4 v6 k79 x22 x25 (v11 + (1 : Int32)) M21 K79)) (fun J23 => if z20 ≤ 0 then (J23 (0 : Int32)) else (if v3 ≤ v11 then (J23 (0 : Int32)) else (J23 (1 : Int32))))))) (fun J19 => if r18 = 0 then (J19 (0 : Int32) M17) else (bE (f_X9_minutesIn v2 v11 M17) (fun r27 M26 => J19 r27 M26)))))
set_option maxRecDepth 100000 in
theorem f_X3_shareOf_L79_ok {l : Launch} {g : Cx} (v1 : Int32) (v2 : Int32) (v3 : Int32) (v4 : Int64) (v6 : Int64)  {r : Int32} {Mr : Mem} : ∀ (k : Nat) (v8 : Int64) (v10 : Int32) (v11 : Int32) (M : Mem) (K79 : Int64 → Int32 → Int32 → Mem → Option Ret), f_X3_shareOf_L79 v1 v2 v3 v4 v6 k v8 v10 v11 M K79 = some (r, Mr) → (∀ (v8 : Int64) (v10 : Int32) (v11 : Int32) (M : Mem), K79 v8 v10 v11 M = some (r, Mr) → AT l g RX3 cX3_shareOf 13 (some .int) (rmM 5 119) (PI r Mr) 152 [some (.ref (g.1 8)), some (.int v1), some (.int v2), some (.int v3), some (.long v4), none, some (.long v6), none, some (.long v8), none, some (.int v10), some (.int v11), none] [] M) → AT l g RX3 cX3_shareOf 13 (some .int) (rmM 5 119) (PI r Mr) 79 [some (.ref (g.1 8)), some (.int v1), some (.int v2), some (.int v3), some (.long v4), none, some (.long v6), none, some (.long v8), none, some (.int v10), some (.int v11), none] [] M
  | 0, v8, v10, v11, M, K79, h, hK79 => by cases h
  | k79 + 1, v8, v10, v11, M, K79, h, hK79 => by
    have ih79 := f_X3_shareOf_L79_ok (l := l) (g := g) v1 v2 v3 v4 v6 (r := r) (Mr := Mr) k79
    rw [f_X3_shareOf_L79] at h
    refine A_iload dX3_shareOf_79 rfl ?_
    refine A_bipush (v := 8) dX3_shareOf_81 (by decide) ?_
    refine A_icmp_ge dX3_shareOf_83 (fun hc => ?_) (fun hc => ?_)
    · have h := gT_go hc h
      exact A_le (lvLe_s (lvLe_s (lvLe_s (lvLe_s (lvLe_s (lvLe_n (lvLe_s (lvLe_n (lvLe_s (lvLe_n (lvLe_s (lvLe_s (lvLe_n lvLe_0))))))))))))) (hK79 _ _ _ _ h)
    · have h := gF_go hc h
      refine A_iload_n dX3_shareOf_86 rfl ?_
      refine A_iload dX3_shareOf_87 rfl ?_
      obtain ⟨r18, M17, h1, h⟩ := bE_go h
      refine A_cNi2 dX3_shareOf_89 nl_X3_52 mb_X10_isIn ms_X10_isIn ⟨Nat.le_of_ble_eq_true rfl, Nat.le_of_ble_eq_true rfl⟩ (Nat.le_of_ble_eq_true rfl) (ok_X10_isIn h1) ?_
      obtain ⟨J19, hJ19, h⟩ := jn_go h
      have JJ19 : ∀ (z20 : Int32) (M21 : Mem), J19 z20 M21 = some (r, Mr) → AT l g RX3 cX3_shareOf 13 (some .int) (rmM 5 119) (PI r Mr) 109 [some (.ref (g.1 8)), some (.int v1), some (.int v2), some (.int v3), some (.long v4), none, some (.long v6), none, some (.long v8), none, some (.int v10), some (.int v11), none] [.int z20] M21 := by
        intro z20 M21 h
        rw [hJ19] at h
        refine A_istore12 dX3_shareOf_109 (by decide) rfl ?_
        refine A_lload dX3_shareOf_111 rfl ?_
        refine A_lload dX3_shareOf_113 rfl ?_
        refine A_iload dX3_shareOf_115 rfl ?_
        refine A_i2l dX3_shareOf_117 ?_
        refine A_lmul dX3_shareOf_118 ?_
        refine A_lload dX3_shareOf_119 rfl ?_
        obtain ⟨hg, h⟩ := gNL_go h
        refine A_ldiv dX3_shareOf_121 hg ?_
        refine A_lsub dX3_shareOf_122 ?_
        refine A_lstore8 dX3_shareOf_123 (by decide) rfl (bI_go h (G := fun z => AT l g RX3 cX3_shareOf 13 (some .int) (rmM 5 119) (PI r Mr) 125 [some (.ref (g.1 8)), some (.int v1), some (.int v2), some (.int v3), some (.long v4), none, some (.long v6), none, some (.long z), none, some (.int v10), some (.int v11), some (.int z20)] [] M21) (fun x22 h => ?_))
        refine A_iload dX3_shareOf_125 rfl ?_
        refine A_iload dX3_shareOf_127 rfl ?_
        obtain ⟨J23, hJ23, h⟩ := jn_go h
        have JJ23 : ∀ (z24 : Int32), J23 z24 = some (r, Mr) → AT l g RX3 cX3_shareOf 13 (some .int) (rmM 5 119) (PI r Mr) 143 [some (.ref (g.1 8)), some (.int v1), some (.int v2), some (.int v3), some (.long v4), none, some (.long v6), none, some (.long x22), none, some (.int v10), some (.int v11), some (.int z20)] [.int z24, .int v10] M21 := by
          intro z24 h
          rw [hJ23] at h
          refine A_iadd dX3_shareOf_143 ?_
          refine A_istore10 dX3_shareOf_144 (by decide) rfl (bI_go h (G := fun z => AT l g RX3 cX3_shareOf 13 (some .int) (rmM 5 119) (PI r Mr) 146 [some (.ref (g.1 8)), some (.int v1), some (.int v2), some (.int v3), some (.long v4), none, some (.long v6), none, some (.long x22), none, some (.int z), some (.int v11), some (.int z20)] [] M21) (fun x25 h => ?_))
          refine A_iinc11 (d := 1) dX3_shareOf_146 (by decide) (by decide) rfl ?_
          refine A_goto dX3_shareOf_149 ?_
          exact A_le (lvLe_s (lvLe_s (lvLe_s (lvLe_s (lvLe_s (lvLe_n (lvLe_s (lvLe_n (lvLe_s (lvLe_n (lvLe_s (lvLe_s (lvLe_n lvLe_0))))))))))))) (ih79 _ _ _ _ K79 h hK79)
        refine A_if_le dX3_shareOf_129 (fun hc => ?_) (fun hc => ?_)
        · have h := gT_go hc h
          refine A_iconst (v := 0) dX3_shareOf_142 (by decide) ?_
          exact A_le (lvLe_s (lvLe_s (lvLe_s (lvLe_s (lvLe_s (lvLe_n (lvLe_s (lvLe_n (lvLe_s (lvLe_n (lvLe_s (lvLe_s (lvLe_s lvLe_0))))))))))))) (JJ23 _ h)
        · have h := gF_go hc h
          refine A_iload dX3_shareOf_132 rfl ?_
          refine A_iload_n dX3_shareOf_134 rfl ?_
          refine A_icmp_ge dX3_shareOf_135 (fun hc => ?_) (fun hc => ?_)
          · have h := gT_go hc h
            refine A_iconst (v := 0) dX3_shareOf_142 (by decide) ?_
            exact A_le (lvLe_s (lvLe_s (lvLe_s (lvLe_s (lvLe_s (lvLe_n (lvLe_s (lvLe_n (lvLe_s (lvLe_n (lvLe_s (lvLe_s (lvLe_s lvLe_0))))))))))))) (JJ23 _ h)
          · have h := gF_go hc h
            refine A_iconst (v := 1) dX3_shareOf_138 (by decide) ?_
            refine A_goto dX3_shareOf_139 ?_
            exact A_le (lvLe_s (lvLe_s (lvLe_s (lvLe_s (lvLe_s (lvLe_n (lvLe_s (lvLe_n (lvLe_s (lvLe_n (lvLe_s (lvLe_s (lvLe_s lvLe_0))))))))))))) (JJ23 _ h)
      refine A_if_eq dX3_shareOf_92 (fun hc => ?_) (fun hc => ?_)
      · have h := gT_go hc h
        refine A_iconst (v := 0) dX3_shareOf_108 (by decide) ?_
        exact A_le (lvLe_s (lvLe_s (lvLe_s (lvLe_s (lvLe_s (lvLe_n (lvLe_s (lvLe_n (lvLe_s (lvLe_n (lvLe_s (lvLe_s (lvLe_n lvLe_0))))))))))))) (JJ19 _ _ h)
      · have h := gF_go hc h
        refine A_aload_n dX3_shareOf_95 rfl ?_
        refine A_getf dX3_shareOf_96 fw_X3_9 ob8 rfl ?_
        refine A_iload_n dX3_shareOf_99 rfl ?_
        refine A_iload dX3_shareOf_100 rfl ?_
        obtain ⟨r27, M26, h1, h⟩ := bE_go h
        refine A_cVi2 dX3_shareOf_102 ml_X3_32 mb_X9_minutesIn mi_X9_minutesIn ob6 rfl rfl ⟨Nat.le_of_ble_eq_true rfl, Nat.le_of_ble_eq_true rfl⟩ (Nat.le_of_ble_eq_true rfl) (ok_X9_minutesIn h1) ?_
        refine A_goto dX3_shareOf_105 ?_
        exact A_le (lvLe_s (lvLe_s (lvLe_s (lvLe_s (lvLe_s (lvLe_n (lvLe_s (lvLe_n (lvLe_s (lvLe_n (lvLe_s (lvLe_s (lvLe_n lvLe_0))))))))))))) (JJ19 _ _ h)
def f_X3_shareOf (v1 : Int32) (v2 : Int32) (v3 : Int32) (M : Mem) : Option Ret := f_X3_shareOf_L9 v1 v2 v3 FU (0 : Int64) (0 : Int64) (0 : Int32) M (fun w13 w14 w15 M16 => if (lg_cmp w14 (0 : Int64)) = 0 then (some ((-1 : Int32), M16)) else (f_X3_shareOf_L79 v1 v2 v3 w13 w14 FU w13 (0 : Int32) (0 : Int32) M16 (fun w28 w29 w30 M31 => bE (f_X9_minutesIn v2 v3 M31) (fun r33 M32 => jn (α := Int32 → Option Ret) (fun (z35 : Int32) => gNL w14 (some ((((w13 * (r33.toInt64)) / w14).toInt32) + z35, M32))) (fun J34 => if r33 ≤ 0 then (J34 (0 : Int32)) else (if 0 ≤ (lg_cmp (w29.toInt64) w28) then (J34 (0 : Int32)) else (J34 (1 : Int32))))))))
set_option maxRecDepth 100000 in
theorem ok_X3_shareOf {l : Launch} {g : Cx} {v1 : Int32} {v2 : Int32} {v3 : Int32} {M : Mem} {r : Int32} {Mr : Mem} (h : f_X3_shareOf v1 v2 v3 M = some (r, Mr)) : CT l g yX3_shareOf cX3_shareOf 13 (some .int) 5 119 [.ref (g.1 8), .int v1, .int v2, .int v3] M (PI r Mr) := by
  refine CT_of (lv := [some (.ref (g.1 8)), some (.int v1), some (.int v2), some (.int v3), none, none, none, none, none, none, none, none, none]) (by decide) rfl (Nat.le_of_ble_eq_true rfl) ?_
  unfold f_X3_shareOf at h
  refine A_lconst (v := 0) dX3_shareOf_0 (by decide) ?_
  refine A_lstore4 dX3_shareOf_1 (by decide) rfl ?_
  refine A_lconst (v := 0) dX3_shareOf_3 (by decide) ?_
  refine A_lstore6 dX3_shareOf_4 (by decide) rfl ?_
  refine A_iconst (v := 0) dX3_shareOf_6 (by decide) ?_
  refine A_istore8 dX3_shareOf_7 (by decide) rfl ?_
  refine f_X3_shareOf_L9_ok _ _ _ FU _ _ _ _ _ h (fun w13 w14 w15 M16 h => ?_)
  refine A_lload dX3_shareOf_60 rfl ?_
  refine A_lconst (v := 0) dX3_shareOf_62 (by decide) ?_
  refine A_lcmp dX3_shareOf_63 ?_
  refine A_if_ne dX3_shareOf_64 (fun hc => ?_) (fun hc => ?_)
  · have h := gF_go hc h
    refine A_lload dX3_shareOf_69 rfl ?_
    refine A_lstore8 dX3_shareOf_71 (by decide) rfl ?_
    refine A_iconst (v := 0) dX3_shareOf_73 (by decide) ?_
    refine A_istore10 dX3_shareOf_74 (by decide) rfl ?_
    refine A_iconst (v := 0) dX3_shareOf_76 (by decide) ?_
    refine A_istore11 dX3_shareOf_77 (by decide) rfl ?_
    refine f_X3_shareOf_L79_ok _ _ _ _ _ FU _ _ _ _ _ h (fun w28 w29 w30 M31 h => ?_)
    refine A_aload_n dX3_shareOf_152 rfl ?_
    refine A_getf dX3_shareOf_153 fw_X3_9 ob8 rfl ?_
    refine A_iload_n dX3_shareOf_156 rfl ?_
    refine A_iload_n dX3_shareOf_157 rfl ?_
    obtain ⟨r33, M32, h1, h⟩ := bE_go h
    refine A_cVi2 dX3_shareOf_158 ml_X3_32 mb_X9_minutesIn mi_X9_minutesIn ob6 rfl rfl ⟨Nat.le_of_ble_eq_true rfl, Nat.le_of_ble_eq_true rfl⟩ (Nat.le_of_ble_eq_true rfl) (ok_X9_minutesIn h1) ?_
    refine A_istore11 dX3_shareOf_161 (by decide) rfl ?_
    refine A_iload dX3_shareOf_163 rfl ?_
    obtain ⟨J34, hJ34, h⟩ := jn_go h
    have JJ34 : ∀ (z35 : Int32), J34 z35 = some (r, Mr) → AT l g RX3 cX3_shareOf 13 (some .int) (rmM 5 119) (PI r Mr) 182 [some (.ref (g.1 8)), some (.int v1), some (.int v2), some (.int v3), some (.long w13), none, some (.long w14), none, some (.long w28), none, some (.int w29), some (.int r33), none] [.int z35] M32 := by
      intro z35 h
      rw [hJ34] at h
      refine A_istore12 dX3_shareOf_182 (by decide) rfl ?_
      refine A_lload dX3_shareOf_184 rfl ?_
      refine A_iload dX3_shareOf_186 rfl ?_
      refine A_i2l dX3_shareOf_188 ?_
      refine A_lmul dX3_shareOf_189 ?_
      refine A_lload dX3_shareOf_190 rfl ?_
      obtain ⟨hg, h⟩ := gNL_go h
      refine A_ldiv dX3_shareOf_192 hg ?_
      refine A_l2i dX3_shareOf_193 ?_
      refine A_iload dX3_shareOf_194 rfl ?_
      refine A_iadd dX3_shareOf_196 ?_
      exact A_iret dX3_shareOf_197 (pI_go h)
    refine A_if_le dX3_shareOf_165 (fun hc => ?_) (fun hc => ?_)
    · have h := gT_go hc h
      refine A_iconst (v := 0) dX3_shareOf_181 (by decide) ?_
      exact A_le (lvLe_s (lvLe_s (lvLe_s (lvLe_s (lvLe_s (lvLe_n (lvLe_s (lvLe_n (lvLe_s (lvLe_n (lvLe_s (lvLe_s (lvLe_n lvLe_0))))))))))))) (JJ34 _ h)
    · have h := gF_go hc h
      refine A_iload dX3_shareOf_168 rfl ?_
      refine A_i2l dX3_shareOf_170 ?_
      refine A_lload dX3_shareOf_171 rfl ?_
      refine A_lcmp dX3_shareOf_173 ?_
      refine A_if_ge dX3_shareOf_174 (fun hc => ?_) (fun hc => ?_)
      · have h := gT_go hc h
        refine A_iconst (v := 0) dX3_shareOf_181 (by decide) ?_
        exact A_le (lvLe_s (lvLe_s (lvLe_s (lvLe_s (lvLe_s (lvLe_n (lvLe_s (lvLe_n (lvLe_s (lvLe_n (lvLe_s (lvLe_s (lvLe_n lvLe_0))))))))))))) (JJ34 _ h)
      · have h := gF_go hc h
        refine A_iconst (v := 1) dX3_shareOf_177 (by decide) ?_
        refine A_goto dX3_shareOf_178 ?_
        exact A_le (lvLe_s (lvLe_s (lvLe_s (lvLe_s (lvLe_s (lvLe_n (lvLe_s (lvLe_n (lvLe_s (lvLe_n (lvLe_s (lvLe_s (lvLe_n lvLe_0))))))))))))) (JJ34 _ h)
  · have h := gT_go hc h
    refine A_iconst (v := -1) dX3_shareOf_67 (by decide) ?_
    exact A_iret dX3_shareOf_68 (pI_go h)
-- BenchTimes$Rates.many
theorem dX4_many_0 : di cX4_many 0 (.aload_n 0) 1 1 := ⟨by decide +kernel, rfl⟩
theorem dX4_many_1 : di cX4_many 1 (.getfield 34) 3 4 := ⟨by decide +kernel, rfl⟩
theorem dX4_many_4 : di cX4_many 4 (.ireturn) 1 5 := ⟨by decide +kernel, rfl⟩
def f_X4_many  (M : Mem) : Option Ret := some (M.1 4 6, M)
set_option maxRecDepth 100000 in
theorem ok_X4_many {l : Launch} {g : Cx}  {M : Mem} {r : Int32} {Mr : Mem} (h : f_X4_many  M = some (r, Mr)) : CT l g yX4_many cX4_many 1 (some .int) 0 0 [.ref (g.1 4)] M (PI r Mr) := by
  refine CT_of (lv := [some (.ref (g.1 4))]) (by decide) rfl (Nat.le_of_ble_eq_true rfl) ?_
  unfold f_X4_many at h
  refine A_aload_n dX4_many_0 rfl ?_
  refine A_getf dX4_many_1 fw_X4_34 ob4 rfl ?_
  exact A_iret dX4_many_4 (pI_go h)
-- BenchTimes$Rates.isFull
theorem dX4_isFull_0 : di cX4_isFull 0 (.aload_n 0) 1 1 := ⟨by decide +kernel, rfl⟩
theorem dX4_isFull_1 : di cX4_isFull 1 (.getfield 34) 3 4 := ⟨by decide +kernel, rfl⟩
theorem dX4_isFull_4 : di cX4_isFull 4 (.bipush 40) 2 6 := ⟨by decide +kernel, rfl⟩
theorem dX4_isFull_6 : dj cX4_isFull 6 (.if_icmp .lt) 9 13 := ⟨7, by decide +kernel, rfl, rfl⟩
theorem dX4_isFull_9 : di cX4_isFull 9 (.iconst 1) 1 10 := ⟨by decide +kernel, rfl⟩
theorem dX4_isFull_10 : dj cX4_isFull 10 .goto 13 14 := ⟨4, by decide +kernel, rfl, rfl⟩
theorem dX4_isFull_13 : di cX4_isFull 13 (.iconst 0) 1 14 := ⟨by decide +kernel, rfl⟩
theorem dX4_isFull_14 : di cX4_isFull 14 (.ireturn) 1 15 := ⟨by decide +kernel, rfl⟩
def f_X4_isFull  (M : Mem) : Option Ret := jn (α := Int32 → Option Ret) (fun (z2 : Int32) => gZ z2 (some (z2, M))) (fun J1 => if (M.1 4 6) < (40 : Int32) then (J1 (0 : Int32)) else (J1 (1 : Int32)))
set_option maxRecDepth 100000 in
theorem ok_X4_isFull {l : Launch} {g : Cx}  {M : Mem} {r : Int32} {Mr : Mem} (h : f_X4_isFull  M = some (r, Mr)) : CT l g yX4_isFull cX4_isFull 1 (some .boolean) 0 0 [.ref (g.1 4)] M (PI r Mr) := by
  refine CT_of (lv := [some (.ref (g.1 4))]) (by decide) rfl (Nat.le_of_ble_eq_true rfl) ?_
  unfold f_X4_isFull at h
  refine A_aload_n dX4_isFull_0 rfl ?_
  refine A_getf dX4_isFull_1 fw_X4_34 ob4 rfl ?_
  refine A_bipush (v := 40) dX4_isFull_4 (by decide) ?_
  obtain ⟨J1, hJ1, h⟩ := jn_go h
  have JJ1 : ∀ (z2 : Int32), J1 z2 = some (r, Mr) → AT l g RX4 cX4_isFull 1 (some .boolean) (rmM 0 0) (PI r Mr) 14 [some (.ref (g.1 4))] [.int z2] M := by
    intro z2 h
    rw [hJ1] at h
    obtain ⟨hg, h⟩ := gZ_go h
    exact A_zret dX4_isFull_14 hg (pI_go h)
  refine A_icmp_lt dX4_isFull_6 (fun hc => ?_) (fun hc => ?_)
  · have h := gT_go hc h
    refine A_iconst (v := 0) dX4_isFull_13 (by decide) ?_
    exact A_le (lvLe_s lvLe_0) (JJ1 _ h)
  · have h := gF_go hc h
    refine A_iconst (v := 1) dX4_isFull_9 (by decide) ?_
    refine A_goto dX4_isFull_10 ?_
    exact A_le (lvLe_s lvLe_0) (JJ1 _ h)
-- BenchTimes$Rates.beginOf
theorem dX4_beginOf_0 : di cX4_beginOf 0 (.aload_n 0) 1 1 := ⟨by decide +kernel, rfl⟩
theorem dX4_beginOf_1 : di cX4_beginOf 1 (.getfield 15) 3 4 := ⟨by decide +kernel, rfl⟩
theorem dX4_beginOf_4 : di cX4_beginOf 4 (.iload_n 1) 1 5 := ⟨by decide +kernel, rfl⟩
theorem dX4_beginOf_5 : di cX4_beginOf 5 (.iaload) 1 6 := ⟨by decide +kernel, rfl⟩
theorem dX4_beginOf_6 : di cX4_beginOf 6 (.ireturn) 1 7 := ⟨by decide +kernel, rfl⟩
def f_X4_beginOf (v1 : Int32) (M : Mem) : Option Ret := gV v1 40 (some (M.1 27 v1.toNatClampNeg, M))
set_option maxRecDepth 100000 in
theorem ok_X4_beginOf {l : Launch} {g : Cx} {v1 : Int32} {M : Mem} {r : Int32} {Mr : Mem} (h : f_X4_beginOf v1 M = some (r, Mr)) : CT l g yX4_beginOf cX4_beginOf 2 (some .int) 0 0 [.ref (g.1 4), .int v1] M (PI r Mr) := by
  refine CT_of (lv := [some (.ref (g.1 4)), some (.int v1)]) (by decide) rfl (Nat.le_of_ble_eq_true rfl) ?_
  unfold f_X4_beginOf at h
  refine A_aload_n dX4_beginOf_0 rfl ?_
  refine A_getf dX4_beginOf_1 fw_X4_15 ob4 rfl ?_
  refine A_iload_n dX4_beginOf_4 rfl ?_
  obtain ⟨hg, h⟩ := gV_go h
  refine A_iald dX4_beginOf_5 ia27 hg ?_
  exact A_iret dX4_beginOf_6 (pI_go h)
-- BenchTimes$Rates.worthOf
theorem dX4_worthOf_0 : di cX4_worthOf 0 (.aload_n 0) 1 1 := ⟨by decide +kernel, rfl⟩
theorem dX4_worthOf_1 : di cX4_worthOf 1 (.getfield 23) 3 4 := ⟨by decide +kernel, rfl⟩
theorem dX4_worthOf_4 : di cX4_worthOf 4 (.iload_n 1) 1 5 := ⟨by decide +kernel, rfl⟩
theorem dX4_worthOf_5 : di cX4_worthOf 5 (.bipush 6) 2 7 := ⟨by decide +kernel, rfl⟩
theorem dX4_worthOf_7 : di cX4_worthOf 7 (.imul) 1 8 := ⟨by decide +kernel, rfl⟩
theorem dX4_worthOf_8 : di cX4_worthOf 8 (.iload_n 2) 1 9 := ⟨by decide +kernel, rfl⟩
theorem dX4_worthOf_9 : di cX4_worthOf 9 (.iadd) 1 10 := ⟨by decide +kernel, rfl⟩
theorem dX4_worthOf_10 : di cX4_worthOf 10 (.iaload) 1 11 := ⟨by decide +kernel, rfl⟩
theorem dX4_worthOf_11 : di cX4_worthOf 11 (.ireturn) 1 12 := ⟨by decide +kernel, rfl⟩
def f_X4_worthOf (v1 : Int32) (v2 : Int32) (M : Mem) : Option Ret := gV ((v1 * (6 : Int32)) + v2) 240 (some (M.1 29 ((v1 * (6 : Int32)) + v2).toNatClampNeg, M))
set_option maxRecDepth 100000 in
theorem ok_X4_worthOf {l : Launch} {g : Cx} {v1 : Int32} {v2 : Int32} {M : Mem} {r : Int32} {Mr : Mem} (h : f_X4_worthOf v1 v2 M = some (r, Mr)) : CT l g yX4_worthOf cX4_worthOf 3 (some .int) 0 0 [.ref (g.1 4), .int v1, .int v2] M (PI r Mr) := by
  refine CT_of (lv := [some (.ref (g.1 4)), some (.int v1), some (.int v2)]) (by decide) rfl (Nat.le_of_ble_eq_true rfl) ?_
  unfold f_X4_worthOf at h
  refine A_aload_n dX4_worthOf_0 rfl ?_
  refine A_getf dX4_worthOf_1 fw_X4_23 ob4 rfl ?_
  refine A_iload_n dX4_worthOf_4 rfl ?_
  refine A_bipush (v := 6) dX4_worthOf_5 (by decide) ?_
  refine A_imul dX4_worthOf_7 ?_
  refine A_iload_n dX4_worthOf_8 rfl ?_
  refine A_iadd dX4_worthOf_9 ?_
  obtain ⟨hg, h⟩ := gV_go h
  refine A_iald dX4_worthOf_10 ia29 hg ?_
  exact A_iret dX4_worthOf_11 (pI_go h)
-- BenchTimes$Rates.latestOf
theorem dX4_latestOf_0 : di cX4_latestOf 0 (.aload_n 0) 1 1 := ⟨by decide +kernel, rfl⟩
theorem dX4_latestOf_1 : di cX4_latestOf 1 (.getfield 34) 3 4 := ⟨by decide +kernel, rfl⟩
theorem dX4_latestOf_4 : di cX4_latestOf 4 (.iconst 1) 1 5 := ⟨by decide +kernel, rfl⟩
theorem dX4_latestOf_5 : di cX4_latestOf 5 (.isub) 1 6 := ⟨by decide +kernel, rfl⟩
theorem dX4_latestOf_6 : di cX4_latestOf 6 (.istore_n 2) 1 7 := ⟨by decide +kernel, rfl⟩
theorem dX4_latestOf_7 : di cX4_latestOf 7 (.iload_n 2) 1 8 := ⟨by decide +kernel, rfl⟩
theorem dX4_latestOf_8 : dj cX4_latestOf 8 (.ifCond .lt) 11 29 := ⟨21, by decide +kernel, rfl, rfl⟩
theorem dX4_latestOf_11 : di cX4_latestOf 11 (.aload_n 0) 1 12 := ⟨by decide +kernel, rfl⟩
theorem dX4_latestOf_12 : di cX4_latestOf 12 (.getfield 11) 3 15 := ⟨by decide +kernel, rfl⟩
theorem dX4_latestOf_15 : di cX4_latestOf 15 (.iload_n 2) 1 16 := ⟨by decide +kernel, rfl⟩
theorem dX4_latestOf_16 : di cX4_latestOf 16 (.iaload) 1 17 := ⟨by decide +kernel, rfl⟩
theorem dX4_latestOf_17 : di cX4_latestOf 17 (.iload_n 1) 1 18 := ⟨by decide +kernel, rfl⟩
theorem dX4_latestOf_18 : dj cX4_latestOf 18 (.if_icmp .ne) 21 23 := ⟨5, by decide +kernel, rfl, rfl⟩
theorem dX4_latestOf_21 : di cX4_latestOf 21 (.iload_n 2) 1 22 := ⟨by decide +kernel, rfl⟩
theorem dX4_latestOf_22 : di cX4_latestOf 22 (.ireturn) 1 23 := ⟨by decide +kernel, rfl⟩
theorem dX4_latestOf_23 : di cX4_latestOf 23 (.iinc 2 (-1)) 3 26 := ⟨by decide +kernel, rfl⟩
theorem dX4_latestOf_26 : dj cX4_latestOf 26 .goto 29 7 := ⟨-19, by decide +kernel, rfl, rfl⟩
theorem dX4_latestOf_29 : di cX4_latestOf 29 (.iconst (-1)) 1 30 := ⟨by decide +kernel, rfl⟩
theorem dX4_latestOf_30 : di cX4_latestOf 30 (.ireturn) 1 31 := ⟨by decide +kernel, rfl⟩
def f_X4_latestOf_L7 (v1 : Int32) : Nat → Int32 → Mem → (Int32 → Mem → Option Ret) → Option Ret
  | 0, _, _, _ => none
  | k7 + 1, v2, M, K7 => if v2 < 0 then (K7 v2 M) else (gV v2 40 (if (M.1 26 v2.toNatClampNeg) = v1 then (some (v2, M)) else (f_X4_latestOf_L7 v1 k7 (v2 + (-1 : Int32)) M K7)))
set_option maxRecDepth 100000 in
theorem f_X4_latestOf_L7_ok {l : Launch} {g : Cx} (v1 : Int32)  {r : Int32} {Mr : Mem} : ∀ (k : Nat) (v2 : Int32) (M : Mem) (K7 : Int32 → Mem → Option Ret), f_X4_latestOf_L7 v1 k v2 M K7 = some (r, Mr) → (∀ (v2 : Int32) (M : Mem), K7 v2 M = some (r, Mr) → AT l g RX4 cX4_latestOf 3 (some .int) (rmM 0 0) (PI r Mr) 29 [some (.ref (g.1 4)), some (.int v1), some (.int v2)] [] M) → AT l g RX4 cX4_latestOf 3 (some .int) (rmM 0 0) (PI r Mr) 7 [some (.ref (g.1 4)), some (.int v1), some (.int v2)] [] M
  | 0, v2, M, K7, h, hK7 => by cases h
  | k7 + 1, v2, M, K7, h, hK7 => by
    have ih7 := f_X4_latestOf_L7_ok (l := l) (g := g) v1 (r := r) (Mr := Mr) k7
    rw [f_X4_latestOf_L7] at h
    refine A_iload_n dX4_latestOf_7 rfl ?_
    refine A_if_lt dX4_latestOf_8 (fun hc => ?_) (fun hc => ?_)
    · have h := gT_go hc h
      exact A_le (lvLe_s (lvLe_s (lvLe_s lvLe_0))) (hK7 _ _ h)
    · have h := gF_go hc h
      refine A_aload_n dX4_latestOf_11 rfl ?_
      refine A_getf dX4_latestOf_12 fw_X4_11 ob4 rfl ?_
      refine A_iload_n dX4_latestOf_15 rfl ?_
      obtain ⟨hg, h⟩ := gV_go h
      refine A_iald dX4_latestOf_16 ia26 hg ?_
      refine A_iload_n dX4_latestOf_17 rfl ?_
      refine A_icmp_ne dX4_latestOf_18 (fun hc => ?_) (fun hc => ?_)
      · have h := gF_go hc h
        refine A_iinc2 (d := -1) dX4_latestOf_23 (by decide) (by decide) rfl ?_
        refine A_goto dX4_latestOf_26 ?_
        exact A_le (lvLe_s (lvLe_s (lvLe_s lvLe_0))) (ih7 _ _ K7 h hK7)
      · have h := gT_go hc h
        refine A_iload_n dX4_latestOf_21 rfl ?_
        exact A_iret dX4_latestOf_22 (pI_go h)
def f_X4_latestOf (v1 : Int32) (M : Mem) : Option Ret := bI ((M.1 4 6) - (1 : Int32)) (fun x1 => f_X4_latestOf_L7 v1 FU x1 M (fun w2 M3 => some ((-1 : Int32), M3)))
set_option maxRecDepth 100000 in
theorem ok_X4_latestOf {l : Launch} {g : Cx} {v1 : Int32} {M : Mem} {r : Int32} {Mr : Mem} (h : f_X4_latestOf v1 M = some (r, Mr)) : CT l g yX4_latestOf cX4_latestOf 3 (some .int) 0 0 [.ref (g.1 4), .int v1] M (PI r Mr) := by
  refine CT_of (lv := [some (.ref (g.1 4)), some (.int v1), none]) (by decide) rfl (Nat.le_of_ble_eq_true rfl) ?_
  unfold f_X4_latestOf at h
  refine A_aload_n dX4_latestOf_0 rfl ?_
  refine A_getf dX4_latestOf_1 fw_X4_34 ob4 rfl ?_
  refine A_iconst (v := 1) dX4_latestOf_4 (by decide) ?_
  refine A_isub dX4_latestOf_5 ?_
  refine A_istoren2 dX4_latestOf_6 (by decide) rfl (bI_go h (G := fun z => AT l g RX4 cX4_latestOf 3 (some .int) (rmM 0 0) (PI r Mr) 7 [some (.ref (g.1 4)), some (.int v1), some (.int z)] [] M) (fun x1 h => ?_))
  refine f_X4_latestOf_L7_ok _ FU _ _ _ h (fun w2 M3 h => ?_)
  refine A_iconst (v := -1) dX4_latestOf_29 (by decide) ?_
  exact A_iret dX4_latestOf_30 (pI_go h)
-- BenchTimes$Rates.mayMove
theorem dX4_mayMove_0 : di cX4_mayMove 0 (.aload_n 0) 1 1 := ⟨by decide +kernel, rfl⟩
theorem dX4_mayMove_1 : di cX4_mayMove 1 (.getfield 11) 3 4 := ⟨by decide +kernel, rfl⟩
theorem dX4_mayMove_4 : di cX4_mayMove 4 (.iload_n 1) 1 5 := ⟨by decide +kernel, rfl⟩
theorem dX4_mayMove_5 : di cX4_mayMove 5 (.iaload) 1 6 := ⟨by decide +kernel, rfl⟩
theorem dX4_mayMove_6 : di cX4_mayMove 6 (.istore_n 3) 1 7 := ⟨by decide +kernel, rfl⟩
theorem dX4_mayMove_7 : di cX4_mayMove 7 (.iconst 0) 1 8 := ⟨by decide +kernel, rfl⟩
theorem dX4_mayMove_8 : di cX4_mayMove 8 (.istore 4) 2 10 := ⟨by decide +kernel, rfl⟩
theorem dX4_mayMove_10 : di cX4_mayMove 10 (.iconst 0) 1 11 := ⟨by decide +kernel, rfl⟩
theorem dX4_mayMove_11 : di cX4_mayMove 11 (.istore 5) 2 13 := ⟨by decide +kernel, rfl⟩
theorem dX4_mayMove_13 : di cX4_mayMove 13 (.iconst 0) 1 14 := ⟨by decide +kernel, rfl⟩
theorem dX4_mayMove_14 : di cX4_mayMove 14 (.istore 6) 2 16 := ⟨by decide +kernel, rfl⟩
theorem dX4_mayMove_16 : di cX4_mayMove 16 (.iload 6) 2 18 := ⟨by decide +kernel, rfl⟩
theorem dX4_mayMove_18 : di cX4_mayMove 18 (.aload_n 0) 1 19 := ⟨by decide +kernel, rfl⟩
theorem dX4_mayMove_19 : di cX4_mayMove 19 (.getfield 26) 3 22 := ⟨by decide +kernel, rfl⟩
theorem dX4_mayMove_22 : di cX4_mayMove 22 (.iload_n 3) 1 23 := ⟨by decide +kernel, rfl⟩
theorem dX4_mayMove_23 : di cX4_mayMove 23 (.invokevirtual 38) 3 26 := ⟨by decide +kernel, rfl⟩
theorem dX4_mayMove_26 : dj cX4_mayMove 26 (.if_icmp .ge) 29 74 := ⟨48, by decide +kernel, rfl, rfl⟩
theorem dX4_mayMove_29 : di cX4_mayMove 29 (.aload_n 0) 1 30 := ⟨by decide +kernel, rfl⟩
theorem dX4_mayMove_30 : di cX4_mayMove 30 (.getfield 26) 3 33 := ⟨by decide +kernel, rfl⟩
theorem dX4_mayMove_33 : di cX4_mayMove 33 (.iload_n 3) 1 34 := ⟨by decide +kernel, rfl⟩
theorem dX4_mayMove_34 : di cX4_mayMove 34 (.iload 6) 2 36 := ⟨by decide +kernel, rfl⟩
theorem dX4_mayMove_36 : di cX4_mayMove 36 (.invokevirtual 42) 3 39 := ⟨by decide +kernel, rfl⟩
theorem dX4_mayMove_39 : dj cX4_mayMove 39 (.ifCond .eq) 42 68 := ⟨29, by decide +kernel, rfl, rfl⟩
theorem dX4_mayMove_42 : di cX4_mayMove 42 (.iconst 1) 1 43 := ⟨by decide +kernel, rfl⟩
theorem dX4_mayMove_43 : di cX4_mayMove 43 (.istore 4) 2 45 := ⟨by decide +kernel, rfl⟩
theorem dX4_mayMove_45 : di cX4_mayMove 45 (.iload 5) 2 47 := ⟨by decide +kernel, rfl⟩
theorem dX4_mayMove_47 : di cX4_mayMove 47 (.aload_n 0) 1 48 := ⟨by decide +kernel, rfl⟩
theorem dX4_mayMove_48 : di cX4_mayMove 48 (.iload_n 1) 1 49 := ⟨by decide +kernel, rfl⟩
theorem dX4_mayMove_49 : di cX4_mayMove 49 (.iload 6) 2 51 := ⟨by decide +kernel, rfl⟩
theorem dX4_mayMove_51 : di cX4_mayMove 51 (.invokevirtual 46) 3 54 := ⟨by decide +kernel, rfl⟩
theorem dX4_mayMove_54 : di cX4_mayMove 54 (.aload_n 0) 1 55 := ⟨by decide +kernel, rfl⟩
theorem dX4_mayMove_55 : di cX4_mayMove 55 (.getfield 26) 3 58 := ⟨by decide +kernel, rfl⟩
theorem dX4_mayMove_58 : di cX4_mayMove 58 (.iload_n 3) 1 59 := ⟨by decide +kernel, rfl⟩
theorem dX4_mayMove_59 : di cX4_mayMove 59 (.iload 6) 2 61 := ⟨by decide +kernel, rfl⟩
theorem dX4_mayMove_61 : di cX4_mayMove 61 (.invokevirtual 50) 3 64 := ⟨by decide +kernel, rfl⟩
theorem dX4_mayMove_64 : di cX4_mayMove 64 (.imul) 1 65 := ⟨by decide +kernel, rfl⟩
theorem dX4_mayMove_65 : di cX4_mayMove 65 (.iadd) 1 66 := ⟨by decide +kernel, rfl⟩
theorem dX4_mayMove_66 : di cX4_mayMove 66 (.istore 5) 2 68 := ⟨by decide +kernel, rfl⟩
theorem dX4_mayMove_68 : di cX4_mayMove 68 (.iinc 6 1) 3 71 := ⟨by decide +kernel, rfl⟩
theorem dX4_mayMove_71 : dj cX4_mayMove 71 .goto 74 16 := ⟨-55, by decide +kernel, rfl, rfl⟩
theorem dX4_mayMove_74 : di cX4_mayMove 74 (.iload 4) 2 76 := ⟨by decide +kernel, rfl⟩
theorem dX4_mayMove_76 : dj cX4_mayMove 76 (.ifCond .eq) 79 99 := ⟨23, by decide +kernel, rfl, rfl⟩
theorem dX4_mayMove_79 : di cX4_mayMove 79 (.iload 5) 2 81 := ⟨by decide +kernel, rfl⟩
theorem dX4_mayMove_81 : di cX4_mayMove 81 (.bipush 100) 2 83 := ⟨by decide +kernel, rfl⟩
theorem dX4_mayMove_83 : di cX4_mayMove 83 (.imul) 1 84 := ⟨by decide +kernel, rfl⟩
theorem dX4_mayMove_84 : di cX4_mayMove 84 (.iload_n 2) 1 85 := ⟨by decide +kernel, rfl⟩
theorem dX4_mayMove_85 : di cX4_mayMove 85 (.aload_n 0) 1 86 := ⟨by decide +kernel, rfl⟩
theorem dX4_mayMove_86 : di cX4_mayMove 86 (.getfield 18) 3 89 := ⟨by decide +kernel, rfl⟩
theorem dX4_mayMove_89 : di cX4_mayMove 89 (.iload_n 1) 1 90 := ⟨by decide +kernel, rfl⟩
theorem dX4_mayMove_90 : di cX4_mayMove 90 (.iaload) 1 91 := ⟨by decide +kernel, rfl⟩
theorem dX4_mayMove_91 : di cX4_mayMove 91 (.imul) 1 92 := ⟨by decide +kernel, rfl⟩
theorem dX4_mayMove_92 : dj cX4_mayMove 92 (.if_icmp .lt) 95 99 := ⟨7, by decide +kernel, rfl, rfl⟩
theorem dX4_mayMove_95 : di cX4_mayMove 95 (.iconst 1) 1 96 := ⟨by decide +kernel, rfl⟩
theorem dX4_mayMove_96 : dj cX4_mayMove 96 .goto 99 100 := ⟨4, by decide +kernel, rfl, rfl⟩
theorem dX4_mayMove_99 : di cX4_mayMove 99 (.iconst 0) 1 100 := ⟨by decide +kernel, rfl⟩
theorem dX4_mayMove_100 : di cX4_mayMove 100 (.ireturn) 1 101 := ⟨by decide +kernel, rfl⟩
def f_X4_mayMove_L16 (v1 : Int32) (v2 : Int32) (v3 : Int32) : Nat → Int32 → Int32 → Int32 → Mem → (Int32 → Int32 → Int32 → Mem → Option Ret) → Option Ret
  | 0, _, _, _, _, _ => none
  | k16 + 1, v4, v5, v6, M, K16 => bE (f_X2_partMany v3 M) (fun r3 M2 => if r3 ≤ v6 then (K16 v4 v5 v6 M2) else (bE (f_X2_isMarked v3 v6 M2) (fun r5 M4 => jn (α := Int32 → Int32 → Mem → Option Ret) (fun (y7 : Int32) (y8 : Int32) (M9 : Mem) => f_X4_mayMove_L16 v1 v2 v3 k16 y7 y8 (v6 + (1 : Int32)) M9 K16) (fun J6 => if r5 = 0 then (J6 v4 v5 M4) else (bE (f_X4_worthOf v1 v6 M4) (fun r11 M10 => bE (f_X2_oftenAt v3 v6 M10) (fun r13 M12 => bI (v5 + (r11 * r13)) (fun x14 => J6 (1 : Int32) x14 M12))))))))
set_option maxRecDepth 100000 in
theorem f_X4_mayMove_L16_ok {l : Launch} {g : Cx} (v1 : Int32) (v2 : Int32) (v3 : Int32)  {r : Int32} {Mr : Mem} : ∀ (k : Nat) (v4 : Int32) (v5 : Int32) (v6 : Int32) (M : Mem) (K16 : Int32 → Int32 → Int32 → Mem → Option Ret), f_X4_mayMove_L16 v1 v2 v3 k v4 v5 v6 M K16 = some (r, Mr) → (∀ (v4 : Int32) (v5 : Int32) (v6 : Int32) (M : Mem), K16 v4 v5 v6 M = some (r, Mr) → AT l g RX4 cX4_mayMove 7 (some .boolean) (rmM 1 22) (PI r Mr) 74 [some (.ref (g.1 4)), some (.int v1), some (.int v2), some (.int v3), some (.int v4), some (.int v5), some (.int v6)] [] M) → AT l g RX4 cX4_mayMove 7 (some .boolean) (rmM 1 22) (PI r Mr) 16 [some (.ref (g.1 4)), some (.int v1), some (.int v2), some (.int v3), some (.int v4), some (.int v5), some (.int v6)] [] M
  | 0, v4, v5, v6, M, K16, h, hK16 => by cases h
  | k16 + 1, v4, v5, v6, M, K16, h, hK16 => by
    have ih16 := f_X4_mayMove_L16_ok (l := l) (g := g) v1 v2 v3 (r := r) (Mr := Mr) k16
    rw [f_X4_mayMove_L16] at h
    refine A_iload dX4_mayMove_16 rfl ?_
    refine A_aload_n dX4_mayMove_18 rfl ?_
    refine A_getf dX4_mayMove_19 fw_X4_26 ob4 rfl ?_
    refine A_iload_n dX4_mayMove_22 rfl ?_
    obtain ⟨r3, M2, h1, h⟩ := bE_go h
    refine A_cVi1 dX4_mayMove_23 ml_X4_38 mb_X2_partMany mi_X2_partMany ob3 rfl rfl ⟨Nat.le_of_ble_eq_true rfl, Nat.le_of_ble_eq_true rfl⟩ (Nat.le_of_ble_eq_true rfl) (ok_X2_partMany h1) ?_
    refine A_icmp_ge dX4_mayMove_26 (fun hc => ?_) (fun hc => ?_)
    · have h := gT_go hc h
      exact A_le (lvLe_s (lvLe_s (lvLe_s (lvLe_s (lvLe_s (lvLe_s (lvLe_s lvLe_0))))))) (hK16 _ _ _ _ h)
    · have h := gF_go hc h
      refine A_aload_n dX4_mayMove_29 rfl ?_
      refine A_getf dX4_mayMove_30 fw_X4_26 ob4 rfl ?_
      refine A_iload_n dX4_mayMove_33 rfl ?_
      refine A_iload dX4_mayMove_34 rfl ?_
      obtain ⟨r5, M4, h1, h⟩ := bE_go h
      refine A_cVi2 dX4_mayMove_36 ml_X4_42 mb_X2_isMarked mi_X2_isMarked ob3 rfl rfl ⟨Nat.le_of_ble_eq_true rfl, Nat.le_of_ble_eq_true rfl⟩ (Nat.le_of_ble_eq_true rfl) (ok_X2_isMarked h1) ?_
      obtain ⟨J6, hJ6, h⟩ := jn_go h
      have JJ6 : ∀ (y7 : Int32) (y8 : Int32) (M9 : Mem), J6 y7 y8 M9 = some (r, Mr) → AT l g RX4 cX4_mayMove 7 (some .boolean) (rmM 1 22) (PI r Mr) 68 [some (.ref (g.1 4)), some (.int v1), some (.int v2), some (.int v3), some (.int y7), some (.int y8), some (.int v6)] [] M9 := by
        intro y7 y8 M9 h
        rw [hJ6] at h
        refine A_iinc6 (d := 1) dX4_mayMove_68 (by decide) (by decide) rfl ?_
        refine A_goto dX4_mayMove_71 ?_
        exact A_le (lvLe_s (lvLe_s (lvLe_s (lvLe_s (lvLe_s (lvLe_s (lvLe_s lvLe_0))))))) (ih16 _ _ _ _ K16 h hK16)
      refine A_if_eq dX4_mayMove_39 (fun hc => ?_) (fun hc => ?_)
      · have h := gT_go hc h
        exact A_le (lvLe_s (lvLe_s (lvLe_s (lvLe_s (lvLe_s (lvLe_s (lvLe_s lvLe_0))))))) (JJ6 _ _ _ h)
      · have h := gF_go hc h
        refine A_iconst (v := 1) dX4_mayMove_42 (by decide) ?_
        refine A_istore4 dX4_mayMove_43 (by decide) rfl ?_
        refine A_iload dX4_mayMove_45 rfl ?_
        refine A_aload_n dX4_mayMove_47 rfl ?_
        refine A_iload_n dX4_mayMove_48 rfl ?_
        refine A_iload dX4_mayMove_49 rfl ?_
        obtain ⟨r11, M10, h1, h⟩ := bE_go h
        refine A_cVi2 dX4_mayMove_51 ml_X4_46 mb_X4_worthOf mi_X4_worthOf ob4 rfl rfl ⟨Nat.le_of_ble_eq_true rfl, Nat.le_of_ble_eq_true rfl⟩ (Nat.le_of_ble_eq_true rfl) (ok_X4_worthOf h1) ?_
        refine A_aload_n dX4_mayMove_54 rfl ?_
        refine A_getf dX4_mayMove_55 fw_X4_26 ob4 rfl ?_
        refine A_iload_n dX4_mayMove_58 rfl ?_
        refine A_iload dX4_mayMove_59 rfl ?_
        obtain ⟨r13, M12, h1, h⟩ := bE_go h
        refine A_cVi2 dX4_mayMove_61 ml_X4_50 mb_X2_oftenAt mi_X2_oftenAt ob3 rfl rfl ⟨Nat.le_of_ble_eq_true rfl, Nat.le_of_ble_eq_true rfl⟩ (Nat.le_of_ble_eq_true rfl) (ok_X2_oftenAt h1) ?_
        refine A_imul dX4_mayMove_64 ?_
        refine A_iadd dX4_mayMove_65 ?_
        refine A_istore5 dX4_mayMove_66 (by decide) rfl (bI_go h (G := fun z => AT l g RX4 cX4_mayMove 7 (some .boolean) (rmM 1 22) (PI r Mr) 68 [some (.ref (g.1 4)), some (.int v1), some (.int v2), some (.int v3), some (.int (1 : Int32)), some (.int z), some (.int v6)] [] M12) (fun x14 h => ?_))
        exact A_le (lvLe_s (lvLe_s (lvLe_s (lvLe_s (lvLe_s (lvLe_s (lvLe_s lvLe_0))))))) (JJ6 _ _ _ h)
def f_X4_mayMove (v1 : Int32) (v2 : Int32) (M : Mem) : Option Ret := gV v1 40 (bI (M.1 26 v1.toNatClampNeg) (fun x1 => f_X4_mayMove_L16 v1 v2 x1 FU (0 : Int32) (0 : Int32) (0 : Int32) M (fun w15 w16 w17 M18 => jn (α := Int32 → Option Ret) (fun (z20 : Int32) => gZ z20 (some (z20, M18))) (fun J19 => if w15 = 0 then (J19 (0 : Int32)) else (gV v1 40 (if (w16 * (100 : Int32)) < (v2 * (M18.1 28 v1.toNatClampNeg)) then (J19 (0 : Int32)) else (J19 (1 : Int32))))))))
set_option maxRecDepth 100000 in
theorem ok_X4_mayMove {l : Launch} {g : Cx} {v1 : Int32} {v2 : Int32} {M : Mem} {r : Int32} {Mr : Mem} (h : f_X4_mayMove v1 v2 M = some (r, Mr)) : CT l g yX4_mayMove cX4_mayMove 7 (some .boolean) 1 22 [.ref (g.1 4), .int v1, .int v2] M (PI r Mr) := by
  refine CT_of (lv := [some (.ref (g.1 4)), some (.int v1), some (.int v2), none, none, none, none]) (by decide) rfl (Nat.le_of_ble_eq_true rfl) ?_
  unfold f_X4_mayMove at h
  refine A_aload_n dX4_mayMove_0 rfl ?_
  refine A_getf dX4_mayMove_1 fw_X4_11 ob4 rfl ?_
  refine A_iload_n dX4_mayMove_4 rfl ?_
  obtain ⟨hg, h⟩ := gV_go h
  refine A_iald dX4_mayMove_5 ia26 hg ?_
  refine A_istoren3 dX4_mayMove_6 (by decide) rfl (bI_go h (G := fun z => AT l g RX4 cX4_mayMove 7 (some .boolean) (rmM 1 22) (PI r Mr) 7 [some (.ref (g.1 4)), some (.int v1), some (.int v2), some (.int z), none, none, none] [] M) (fun x1 h => ?_))
  refine A_iconst (v := 0) dX4_mayMove_7 (by decide) ?_
  refine A_istore4 dX4_mayMove_8 (by decide) rfl ?_
  refine A_iconst (v := 0) dX4_mayMove_10 (by decide) ?_
  refine A_istore5 dX4_mayMove_11 (by decide) rfl ?_
  refine A_iconst (v := 0) dX4_mayMove_13 (by decide) ?_
  refine A_istore6 dX4_mayMove_14 (by decide) rfl ?_
  refine f_X4_mayMove_L16_ok _ _ _ FU _ _ _ _ _ h (fun w15 w16 w17 M18 h => ?_)
  refine A_iload dX4_mayMove_74 rfl ?_
  obtain ⟨J19, hJ19, h⟩ := jn_go h
  have JJ19 : ∀ (z20 : Int32), J19 z20 = some (r, Mr) → AT l g RX4 cX4_mayMove 7 (some .boolean) (rmM 1 22) (PI r Mr) 100 [some (.ref (g.1 4)), some (.int v1), some (.int v2), some (.int x1), some (.int w15), some (.int w16), some (.int w17)] [.int z20] M18 := by
    intro z20 h
    rw [hJ19] at h
    obtain ⟨hg, h⟩ := gZ_go h
    exact A_zret dX4_mayMove_100 hg (pI_go h)
  refine A_if_eq dX4_mayMove_76 (fun hc => ?_) (fun hc => ?_)
  · have h := gT_go hc h
    refine A_iconst (v := 0) dX4_mayMove_99 (by decide) ?_
    exact A_le (lvLe_s (lvLe_s (lvLe_s (lvLe_s (lvLe_s (lvLe_s (lvLe_s lvLe_0))))))) (JJ19 _ h)
  · have h := gF_go hc h
    refine A_iload dX4_mayMove_79 rfl ?_
    refine A_bipush (v := 100) dX4_mayMove_81 (by decide) ?_
    refine A_imul dX4_mayMove_83 ?_
    refine A_iload_n dX4_mayMove_84 rfl ?_
    refine A_aload_n dX4_mayMove_85 rfl ?_
    refine A_getf dX4_mayMove_86 fw_X4_18 ob4 rfl ?_
    refine A_iload_n dX4_mayMove_89 rfl ?_
    obtain ⟨hg, h⟩ := gV_go h
    refine A_iald dX4_mayMove_90 ia28 hg ?_
    refine A_imul dX4_mayMove_91 ?_
    refine A_icmp_lt dX4_mayMove_92 (fun hc => ?_) (fun hc => ?_)
    · have h := gT_go hc h
      refine A_iconst (v := 0) dX4_mayMove_99 (by decide) ?_
      exact A_le (lvLe_s (lvLe_s (lvLe_s (lvLe_s (lvLe_s (lvLe_s (lvLe_s lvLe_0))))))) (JJ19 _ h)
    · have h := gF_go hc h
      refine A_iconst (v := 1) dX4_mayMove_95 (by decide) ?_
      refine A_goto dX4_mayMove_96 ?_
      exact A_le (lvLe_s (lvLe_s (lvLe_s (lvLe_s (lvLe_s (lvLe_s (lvLe_s lvLe_0))))))) (JJ19 _ h)
