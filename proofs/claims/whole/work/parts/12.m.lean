-- BenchTimes$Watch.isTimed
theorem dX8_isTimed_0 : di cX8_isTimed 0 (.iconst 0) 1 1 := ⟨by decide +kernel, rfl⟩
theorem dX8_isTimed_1 : di cX8_isTimed 1 (.istore_n 2) 1 2 := ⟨by decide +kernel, rfl⟩
theorem dX8_isTimed_2 : di cX8_isTimed 2 (.iload_n 2) 1 3 := ⟨by decide +kernel, rfl⟩
theorem dX8_isTimed_3 : di cX8_isTimed 3 (.aload_n 0) 1 4 := ⟨by decide +kernel, rfl⟩
theorem dX8_isTimed_4 : di cX8_isTimed 4 (.getfield 41) 3 7 := ⟨by decide +kernel, rfl⟩
theorem dX8_isTimed_7 : dj cX8_isTimed 7 (.if_icmp .ge) 10 28 := ⟨21, by decide +kernel, rfl, rfl⟩
theorem dX8_isTimed_10 : di cX8_isTimed 10 (.aload_n 0) 1 11 := ⟨by decide +kernel, rfl⟩
theorem dX8_isTimed_11 : di cX8_isTimed 11 (.getfield 18) 3 14 := ⟨by decide +kernel, rfl⟩
theorem dX8_isTimed_14 : di cX8_isTimed 14 (.iload_n 2) 1 15 := ⟨by decide +kernel, rfl⟩
theorem dX8_isTimed_15 : di cX8_isTimed 15 (.iaload) 1 16 := ⟨by decide +kernel, rfl⟩
theorem dX8_isTimed_16 : di cX8_isTimed 16 (.iload_n 1) 1 17 := ⟨by decide +kernel, rfl⟩
theorem dX8_isTimed_17 : dj cX8_isTimed 17 (.if_icmp .ne) 20 22 := ⟨5, by decide +kernel, rfl, rfl⟩
theorem dX8_isTimed_20 : di cX8_isTimed 20 (.iconst 1) 1 21 := ⟨by decide +kernel, rfl⟩
theorem dX8_isTimed_21 : di cX8_isTimed 21 (.ireturn) 1 22 := ⟨by decide +kernel, rfl⟩
theorem dX8_isTimed_22 : di cX8_isTimed 22 (.iinc 2 1) 3 25 := ⟨by decide +kernel, rfl⟩
theorem dX8_isTimed_25 : dj cX8_isTimed 25 .goto 28 2 := ⟨-23, by decide +kernel, rfl, rfl⟩
theorem dX8_isTimed_28 : di cX8_isTimed 28 (.iconst 0) 1 29 := ⟨by decide +kernel, rfl⟩
theorem dX8_isTimed_29 : di cX8_isTimed 29 (.ireturn) 1 30 := ⟨by decide +kernel, rfl⟩
def f_X8_isTimed_L2 (v1 : Int32) : Nat → Int32 → Mem → (Int32 → Mem → Option Ret) → Option Ret
  | 0, _, _, _ => none
  | k2 + 1, v2, M, K2 => if (M.1 2 8) ≤ v2 then (K2 v2 M) else (gV v2 60 (if (M.1 17 v2.toNatClampNeg) = v1 then (some ((1 : Int32), M)) else (f_X8_isTimed_L2 v1 k2 (v2 + (1 : Int32)) M K2)))
set_option maxRecDepth 100000 in
theorem f_X8_isTimed_L2_ok {l : Launch} {g : Cx} (v1 : Int32)  {r : Int32} {Mr : Mem} : ∀ (k : Nat) (v2 : Int32) (M : Mem) (K2 : Int32 → Mem → Option Ret), f_X8_isTimed_L2 v1 k v2 M K2 = some (r, Mr) → (∀ (v2 : Int32) (M : Mem), K2 v2 M = some (r, Mr) → AT l g RX8 cX8_isTimed 3 (some .boolean) (rmM 0 0) (PI r Mr) 28 [some (.ref (g.1 2)), some (.int v1), some (.int v2)] [] M) → AT l g RX8 cX8_isTimed 3 (some .boolean) (rmM 0 0) (PI r Mr) 2 [some (.ref (g.1 2)), some (.int v1), some (.int v2)] [] M
  | 0, v2, M, K2, h, hK2 => by cases h
  | k2 + 1, v2, M, K2, h, hK2 => by
    have ih2 := f_X8_isTimed_L2_ok (l := l) (g := g) v1 (r := r) (Mr := Mr) k2
    rw [f_X8_isTimed_L2] at h
    refine A_iload_n dX8_isTimed_2 rfl ?_
    refine A_aload_n dX8_isTimed_3 rfl ?_
    refine A_getf dX8_isTimed_4 fw_X8_41 ob2 rfl ?_
    refine A_icmp_ge dX8_isTimed_7 (fun hc => ?_) (fun hc => ?_)
    · have h := gT_go hc h
      exact A_le (lvLe_s (lvLe_s (lvLe_s lvLe_0))) (hK2 _ _ h)
    · have h := gF_go hc h
      refine A_aload_n dX8_isTimed_10 rfl ?_
      refine A_getf dX8_isTimed_11 fw_X8_18 ob2 rfl ?_
      refine A_iload_n dX8_isTimed_14 rfl ?_
      obtain ⟨hg, h⟩ := gV_go h
      refine A_iald dX8_isTimed_15 ia17 hg ?_
      refine A_iload_n dX8_isTimed_16 rfl ?_
      refine A_icmp_ne dX8_isTimed_17 (fun hc => ?_) (fun hc => ?_)
      · have h := gF_go hc h
        refine A_iinc2 (d := 1) dX8_isTimed_22 (by decide) (by decide) rfl ?_
        refine A_goto dX8_isTimed_25 ?_
        exact A_le (lvLe_s (lvLe_s (lvLe_s lvLe_0))) (ih2 _ _ K2 h hK2)
      · have h := gT_go hc h
        refine A_iconst (v := 1) dX8_isTimed_20 (by decide) ?_
        exact A_zret dX8_isTimed_21 (by decide) (pI_go h)
def f_X8_isTimed (v1 : Int32) (M : Mem) : Option Ret := f_X8_isTimed_L2 v1 FU (0 : Int32) M (fun w1 M2 => some ((0 : Int32), M2))
set_option maxRecDepth 100000 in
theorem ok_X8_isTimed {l : Launch} {g : Cx} {v1 : Int32} {M : Mem} {r : Int32} {Mr : Mem} (h : f_X8_isTimed v1 M = some (r, Mr)) : CT l g yX8_isTimed cX8_isTimed 3 (some .boolean) 0 0 [.ref (g.1 2), .int v1] M (PI r Mr) := by
  refine CT_of (lv := [some (.ref (g.1 2)), some (.int v1), none]) (by decide) rfl (Nat.le_of_ble_eq_true rfl) ?_
  unfold f_X8_isTimed at h
  refine A_iconst (v := 0) dX8_isTimed_0 (by decide) ?_
  refine A_istoren2 dX8_isTimed_1 (by decide) rfl ?_
  refine f_X8_isTimed_L2_ok _ FU _ _ _ h (fun w1 M2 h => ?_)
  refine A_iconst (v := 0) dX8_isTimed_28 (by decide) ?_
  exact A_zret dX8_isTimed_29 (by decide) (pI_go h)
-- BenchTimes$Rates.canMake
theorem dX4_canMake_0 : di cX4_canMake 0 (.iconst 0) 1 1 := ⟨by decide +kernel, rfl⟩
theorem dX4_canMake_1 : di cX4_canMake 1 (.istore_n 2) 1 2 := ⟨by decide +kernel, rfl⟩
theorem dX4_canMake_2 : di cX4_canMake 2 (.iload_n 2) 1 3 := ⟨by decide +kernel, rfl⟩
theorem dX4_canMake_3 : di cX4_canMake 3 (.aload_n 0) 1 4 := ⟨by decide +kernel, rfl⟩
theorem dX4_canMake_4 : di cX4_canMake 4 (.getfield 26) 3 7 := ⟨by decide +kernel, rfl⟩
theorem dX4_canMake_7 : di cX4_canMake 7 (.iload_n 1) 1 8 := ⟨by decide +kernel, rfl⟩
theorem dX4_canMake_8 : di cX4_canMake 8 (.invokevirtual 38) 3 11 := ⟨by decide +kernel, rfl⟩
theorem dX4_canMake_11 : dj cX4_canMake 11 (.if_icmp .ge) 14 53 := ⟨42, by decide +kernel, rfl, rfl⟩
theorem dX4_canMake_14 : di cX4_canMake 14 (.aload_n 0) 1 15 := ⟨by decide +kernel, rfl⟩
theorem dX4_canMake_15 : di cX4_canMake 15 (.getfield 26) 3 18 := ⟨by decide +kernel, rfl⟩
theorem dX4_canMake_18 : di cX4_canMake 18 (.iload_n 1) 1 19 := ⟨by decide +kernel, rfl⟩
theorem dX4_canMake_19 : di cX4_canMake 19 (.iload_n 2) 1 20 := ⟨by decide +kernel, rfl⟩
theorem dX4_canMake_20 : di cX4_canMake 20 (.invokevirtual 42) 3 23 := ⟨by decide +kernel, rfl⟩
theorem dX4_canMake_23 : dj cX4_canMake 23 (.ifCond .eq) 26 47 := ⟨24, by decide +kernel, rfl, rfl⟩
theorem dX4_canMake_26 : di cX4_canMake 26 (.aload_n 0) 1 27 := ⟨by decide +kernel, rfl⟩
theorem dX4_canMake_27 : di cX4_canMake 27 (.getfield 30) 3 30 := ⟨by decide +kernel, rfl⟩
theorem dX4_canMake_30 : di cX4_canMake 30 (.aload_n 0) 1 31 := ⟨by decide +kernel, rfl⟩
theorem dX4_canMake_31 : di cX4_canMake 31 (.getfield 26) 3 34 := ⟨by decide +kernel, rfl⟩
theorem dX4_canMake_34 : di cX4_canMake 34 (.iload_n 1) 1 35 := ⟨by decide +kernel, rfl⟩
theorem dX4_canMake_35 : di cX4_canMake 35 (.iload_n 2) 1 36 := ⟨by decide +kernel, rfl⟩
theorem dX4_canMake_36 : di cX4_canMake 36 (.invokevirtual 53) 3 39 := ⟨by decide +kernel, rfl⟩
theorem dX4_canMake_39 : di cX4_canMake 39 (.invokevirtual 56) 3 42 := ⟨by decide +kernel, rfl⟩
theorem dX4_canMake_42 : dj cX4_canMake 42 (.ifCond .ne) 45 47 := ⟨5, by decide +kernel, rfl, rfl⟩
theorem dX4_canMake_45 : di cX4_canMake 45 (.iconst 0) 1 46 := ⟨by decide +kernel, rfl⟩
theorem dX4_canMake_46 : di cX4_canMake 46 (.ireturn) 1 47 := ⟨by decide +kernel, rfl⟩
theorem dX4_canMake_47 : di cX4_canMake 47 (.iinc 2 1) 3 50 := ⟨by decide +kernel, rfl⟩
theorem dX4_canMake_50 : dj cX4_canMake 50 .goto 53 2 := ⟨-48, by decide +kernel, rfl, rfl⟩
theorem dX4_canMake_53 : di cX4_canMake 53 (.iconst 1) 1 54 := ⟨by decide +kernel, rfl⟩
theorem dX4_canMake_54 : di cX4_canMake 54 (.ireturn) 1 55 := ⟨by decide +kernel, rfl⟩
def f_X4_canMake_L2 (v1 : Int32) : Nat → Int32 → Mem → (Int32 → Mem → Option Ret) → Option Ret
  | 0, _, _, _ => none
  | k2 + 1, v2, M, K2 => bE (f_X2_partMany v1 M) (fun r2 M1 => if r2 ≤ v2 then (K2 v2 M1) else (bE (f_X2_isMarked v1 v2 M1) (fun r4 M3 => if r4 = 0 then (f_X4_canMake_L2 v1 k2 (v2 + (1 : Int32)) M3 K2) else (bE (f_X2_elementAt v1 v2 M3) (fun r6 M5 => bE (f_X8_isTimed r6 M5) (fun r8 M7 => if r8 = 0 then (some ((0 : Int32), M7)) else (f_X4_canMake_L2 v1 k2 (v2 + (1 : Int32)) M7 K2)))))))
set_option maxRecDepth 100000 in
theorem f_X4_canMake_L2_ok {l : Launch} {g : Cx} (v1 : Int32)  {r : Int32} {Mr : Mem} : ∀ (k : Nat) (v2 : Int32) (M : Mem) (K2 : Int32 → Mem → Option Ret), f_X4_canMake_L2 v1 k v2 M K2 = some (r, Mr) → (∀ (v2 : Int32) (M : Mem), K2 v2 M = some (r, Mr) → AT l g RX4 cX4_canMake 3 (some .boolean) (rmM 1 22) (PI r Mr) 53 [some (.ref (g.1 4)), some (.int v1), some (.int v2)] [] M) → AT l g RX4 cX4_canMake 3 (some .boolean) (rmM 1 22) (PI r Mr) 2 [some (.ref (g.1 4)), some (.int v1), some (.int v2)] [] M
  | 0, v2, M, K2, h, hK2 => by cases h
  | k2 + 1, v2, M, K2, h, hK2 => by
    have ih2 := f_X4_canMake_L2_ok (l := l) (g := g) v1 (r := r) (Mr := Mr) k2
    rw [f_X4_canMake_L2] at h
    refine A_iload_n dX4_canMake_2 rfl ?_
    refine A_aload_n dX4_canMake_3 rfl ?_
    refine A_getf dX4_canMake_4 fw_X4_26 ob4 rfl ?_
    refine A_iload_n dX4_canMake_7 rfl ?_
    obtain ⟨r2, M1, h1, h⟩ := bE_go h
    refine A_cVi1 dX4_canMake_8 ml_X4_38 mb_X2_partMany mi_X2_partMany ob3 rfl rfl ⟨Nat.le_of_ble_eq_true rfl, Nat.le_of_ble_eq_true rfl⟩ (Nat.le_of_ble_eq_true rfl) (ok_X2_partMany h1) ?_
    refine A_icmp_ge dX4_canMake_11 (fun hc => ?_) (fun hc => ?_)
    · have h := gT_go hc h
      exact A_le (lvLe_s (lvLe_s (lvLe_s lvLe_0))) (hK2 _ _ h)
    · have h := gF_go hc h
      refine A_aload_n dX4_canMake_14 rfl ?_
      refine A_getf dX4_canMake_15 fw_X4_26 ob4 rfl ?_
      refine A_iload_n dX4_canMake_18 rfl ?_
      refine A_iload_n dX4_canMake_19 rfl ?_
      obtain ⟨r4, M3, h1, h⟩ := bE_go h
      refine A_cVi2 dX4_canMake_20 ml_X4_42 mb_X2_isMarked mi_X2_isMarked ob3 rfl rfl ⟨Nat.le_of_ble_eq_true rfl, Nat.le_of_ble_eq_true rfl⟩ (Nat.le_of_ble_eq_true rfl) (ok_X2_isMarked h1) ?_
      refine A_if_eq dX4_canMake_23 (fun hc => ?_) (fun hc => ?_)
      · have h := gT_go hc h
        refine A_iinc2 (d := 1) dX4_canMake_47 (by decide) (by decide) rfl ?_
        refine A_goto dX4_canMake_50 ?_
        exact A_le (lvLe_s (lvLe_s (lvLe_s lvLe_0))) (ih2 _ _ K2 h hK2)
      · have h := gF_go hc h
        refine A_aload_n dX4_canMake_26 rfl ?_
        refine A_getf dX4_canMake_27 fw_X4_30 ob4 rfl ?_
        refine A_aload_n dX4_canMake_30 rfl ?_
        refine A_getf dX4_canMake_31 fw_X4_26 ob4 rfl ?_
        refine A_iload_n dX4_canMake_34 rfl ?_
        refine A_iload_n dX4_canMake_35 rfl ?_
        obtain ⟨r6, M5, h1, h⟩ := bE_go h
        refine A_cVi2 dX4_canMake_36 ml_X4_53 mb_X2_elementAt mi_X2_elementAt ob3 rfl rfl ⟨Nat.le_of_ble_eq_true rfl, Nat.le_of_ble_eq_true rfl⟩ (Nat.le_of_ble_eq_true rfl) (ok_X2_elementAt h1) ?_
        obtain ⟨r8, M7, h1, h⟩ := bE_go h
        refine A_cVi1 dX4_canMake_39 ml_X4_56 mb_X8_isTimed mi_X8_isTimed ob2 rfl rfl ⟨Nat.le_of_ble_eq_true rfl, Nat.le_of_ble_eq_true rfl⟩ (Nat.le_of_ble_eq_true rfl) (ok_X8_isTimed h1) ?_
        refine A_if_ne dX4_canMake_42 (fun hc => ?_) (fun hc => ?_)
        · have h := gF_go hc h
          refine A_iinc2 (d := 1) dX4_canMake_47 (by decide) (by decide) rfl ?_
          refine A_goto dX4_canMake_50 ?_
          exact A_le (lvLe_s (lvLe_s (lvLe_s lvLe_0))) (ih2 _ _ K2 h hK2)
        · have h := gT_go hc h
          refine A_iconst (v := 0) dX4_canMake_45 (by decide) ?_
          exact A_zret dX4_canMake_46 (by decide) (pI_go h)
def f_X4_canMake (v1 : Int32) (M : Mem) : Option Ret := f_X4_canMake_L2 v1 FU (0 : Int32) M (fun w9 M10 => some ((1 : Int32), M10))
set_option maxRecDepth 100000 in
theorem ok_X4_canMake {l : Launch} {g : Cx} {v1 : Int32} {M : Mem} {r : Int32} {Mr : Mem} (h : f_X4_canMake v1 M = some (r, Mr)) : CT l g yX4_canMake cX4_canMake 3 (some .boolean) 1 22 [.ref (g.1 4), .int v1] M (PI r Mr) := by
  refine CT_of (lv := [some (.ref (g.1 4)), some (.int v1), none]) (by decide) rfl (Nat.le_of_ble_eq_true rfl) ?_
  unfold f_X4_canMake at h
  refine A_iconst (v := 0) dX4_canMake_0 (by decide) ?_
  refine A_istoren2 dX4_canMake_1 (by decide) rfl ?_
  refine f_X4_canMake_L2_ok _ FU _ _ _ h (fun w9 M10 h => ?_)
  refine A_iconst (v := 1) dX4_canMake_53 (by decide) ?_
  exact A_zret dX4_canMake_54 (by decide) (pI_go h)
-- BenchTimes$Watch.habitOf
theorem dX8_habitOf_0 : di cX8_habitOf 0 (.aload_n 0) 1 1 := ⟨by decide +kernel, rfl⟩
theorem dX8_habitOf_1 : di cX8_habitOf 1 (.getfield 15) 3 4 := ⟨by decide +kernel, rfl⟩
theorem dX8_habitOf_4 : di cX8_habitOf 4 (.iload_n 1) 1 5 := ⟨by decide +kernel, rfl⟩
theorem dX8_habitOf_5 : di cX8_habitOf 5 (.iaload) 1 6 := ⟨by decide +kernel, rfl⟩
theorem dX8_habitOf_6 : dj cX8_habitOf 6 (.ifCond .ne) 9 13 := ⟨7, by decide +kernel, rfl, rfl⟩
theorem dX8_habitOf_9 : di cX8_habitOf 9 (.iconst 0) 1 10 := ⟨by decide +kernel, rfl⟩
theorem dX8_habitOf_10 : dj cX8_habitOf 10 .goto 13 26 := ⟨16, by decide +kernel, rfl, rfl⟩
theorem dX8_habitOf_13 : di cX8_habitOf 13 (.aload_n 0) 1 14 := ⟨by decide +kernel, rfl⟩
theorem dX8_habitOf_14 : di cX8_habitOf 14 (.getfield 9) 3 17 := ⟨by decide +kernel, rfl⟩
theorem dX8_habitOf_17 : di cX8_habitOf 17 (.iload_n 1) 1 18 := ⟨by decide +kernel, rfl⟩
theorem dX8_habitOf_18 : di cX8_habitOf 18 (.iaload) 1 19 := ⟨by decide +kernel, rfl⟩
theorem dX8_habitOf_19 : di cX8_habitOf 19 (.aload_n 0) 1 20 := ⟨by decide +kernel, rfl⟩
theorem dX8_habitOf_20 : di cX8_habitOf 20 (.getfield 15) 3 23 := ⟨by decide +kernel, rfl⟩
theorem dX8_habitOf_23 : di cX8_habitOf 23 (.iload_n 1) 1 24 := ⟨by decide +kernel, rfl⟩
theorem dX8_habitOf_24 : di cX8_habitOf 24 (.iaload) 1 25 := ⟨by decide +kernel, rfl⟩
theorem dX8_habitOf_25 : di cX8_habitOf 25 (.idiv) 1 26 := ⟨by decide +kernel, rfl⟩
theorem dX8_habitOf_26 : di cX8_habitOf 26 (.ireturn) 1 27 := ⟨by decide +kernel, rfl⟩
def f_X8_habitOf (v1 : Int32) (M : Mem) : Option Ret := gV v1 4 (jn (α := Int32 → Option Ret) (fun (z2 : Int32) => some (z2, M)) (fun J1 => if (M.1 16 v1.toNatClampNeg) = 0 then (J1 (0 : Int32)) else (gV v1 4 (gV v1 4 (gN (M.1 16 v1.toNatClampNeg) (J1 ((M.1 15 v1.toNatClampNeg) / (M.1 16 v1.toNatClampNeg))))))))
set_option maxRecDepth 100000 in
theorem ok_X8_habitOf {l : Launch} {g : Cx} {v1 : Int32} {M : Mem} {r : Int32} {Mr : Mem} (h : f_X8_habitOf v1 M = some (r, Mr)) : CT l g yX8_habitOf cX8_habitOf 2 (some .int) 0 0 [.ref (g.1 2), .int v1] M (PI r Mr) := by
  refine CT_of (lv := [some (.ref (g.1 2)), some (.int v1)]) (by decide) rfl (Nat.le_of_ble_eq_true rfl) ?_
  unfold f_X8_habitOf at h
  refine A_aload_n dX8_habitOf_0 rfl ?_
  refine A_getf dX8_habitOf_1 fw_X8_15 ob2 rfl ?_
  refine A_iload_n dX8_habitOf_4 rfl ?_
  obtain ⟨hg, h⟩ := gV_go h
  refine A_iald dX8_habitOf_5 ia16 hg ?_
  obtain ⟨J1, hJ1, h⟩ := jn_go h
  have JJ1 : ∀ (z2 : Int32), J1 z2 = some (r, Mr) → AT l g RX8 cX8_habitOf 2 (some .int) (rmM 0 0) (PI r Mr) 26 [some (.ref (g.1 2)), some (.int v1)] [.int z2] M := by
    intro z2 h
    rw [hJ1] at h
    exact A_iret dX8_habitOf_26 (pI_go h)
  refine A_if_ne dX8_habitOf_6 (fun hc => ?_) (fun hc => ?_)
  · have h := gF_go hc h
    refine A_aload_n dX8_habitOf_13 rfl ?_
    refine A_getf dX8_habitOf_14 fw_X8_9 ob2 rfl ?_
    refine A_iload_n dX8_habitOf_17 rfl ?_
    obtain ⟨hg, h⟩ := gV_go h
    refine A_iald dX8_habitOf_18 ia15 hg ?_
    refine A_aload_n dX8_habitOf_19 rfl ?_
    refine A_getf dX8_habitOf_20 fw_X8_15 ob2 rfl ?_
    refine A_iload_n dX8_habitOf_23 rfl ?_
    obtain ⟨hg, h⟩ := gV_go h
    refine A_iald dX8_habitOf_24 ia16 hg ?_
    obtain ⟨hg, h⟩ := gN_go h
    refine A_idiv dX8_habitOf_25 hg ?_
    exact A_le (lvLe_s (lvLe_s lvLe_0)) (JJ1 _ h)
  · have h := gT_go hc h
    refine A_iconst (v := 0) dX8_habitOf_9 (by decide) ?_
    refine A_goto dX8_habitOf_10 ?_
    exact A_le (lvLe_s (lvLe_s lvLe_0)) (JJ1 _ h)
-- BenchTimes$Watch.normalOf
theorem dX8_normalOf_0 : di cX8_normalOf 0 (.iconst 1) 1 1 := ⟨by decide +kernel, rfl⟩
theorem dX8_normalOf_1 : di cX8_normalOf 1 (.aload_n 0) 1 2 := ⟨by decide +kernel, rfl⟩
theorem dX8_normalOf_2 : di cX8_normalOf 2 (.getfield 24) 3 5 := ⟨by decide +kernel, rfl⟩
theorem dX8_normalOf_5 : di cX8_normalOf 5 (.iload_n 1) 1 6 := ⟨by decide +kernel, rfl⟩
theorem dX8_normalOf_6 : di cX8_normalOf 6 (.iaload) 1 7 := ⟨by decide +kernel, rfl⟩
theorem dX8_normalOf_7 : di cX8_normalOf 7 (.aload_n 0) 1 8 := ⟨by decide +kernel, rfl⟩
theorem dX8_normalOf_8 : di cX8_normalOf 8 (.aload_n 0) 1 9 := ⟨by decide +kernel, rfl⟩
theorem dX8_normalOf_9 : di cX8_normalOf 9 (.getfield 21) 3 12 := ⟨by decide +kernel, rfl⟩
theorem dX8_normalOf_12 : di cX8_normalOf 12 (.iload_n 1) 1 13 := ⟨by decide +kernel, rfl⟩
theorem dX8_normalOf_13 : di cX8_normalOf 13 (.iaload) 1 14 := ⟨by decide +kernel, rfl⟩
theorem dX8_normalOf_14 : di cX8_normalOf 14 (.invokevirtual 44) 3 17 := ⟨by decide +kernel, rfl⟩
theorem dX8_normalOf_17 : di cX8_normalOf 17 (.isub) 1 18 := ⟨by decide +kernel, rfl⟩
theorem dX8_normalOf_18 : di cX8_normalOf 18 (.invokestatic 48) 3 21 := ⟨by decide +kernel, rfl⟩
theorem dX8_normalOf_21 : di cX8_normalOf 21 (.istore_n 2) 1 22 := ⟨by decide +kernel, rfl⟩
theorem dX8_normalOf_22 : di cX8_normalOf 22 (.aload_n 0) 1 23 := ⟨by decide +kernel, rfl⟩
theorem dX8_normalOf_23 : di cX8_normalOf 23 (.getfield 27) 3 26 := ⟨by decide +kernel, rfl⟩
theorem dX8_normalOf_26 : di cX8_normalOf 26 (.iload_n 1) 1 27 := ⟨by decide +kernel, rfl⟩
theorem dX8_normalOf_27 : di cX8_normalOf 27 (.iaload) 1 28 := ⟨by decide +kernel, rfl⟩
theorem dX8_normalOf_28 : di cX8_normalOf 28 (.iload_n 2) 1 29 := ⟨by decide +kernel, rfl⟩
theorem dX8_normalOf_29 : di cX8_normalOf 29 (.imul) 1 30 := ⟨by decide +kernel, rfl⟩
theorem dX8_normalOf_30 : di cX8_normalOf 30 (.bipush 100) 2 32 := ⟨by decide +kernel, rfl⟩
theorem dX8_normalOf_32 : di cX8_normalOf 32 (.idiv) 1 33 := ⟨by decide +kernel, rfl⟩
theorem dX8_normalOf_33 : di cX8_normalOf 33 (.ireturn) 1 34 := ⟨by decide +kernel, rfl⟩
def f_X8_normalOf (v1 : Int32) (M : Mem) : Option Ret := gV v1 60 (gV v1 60 (bE (f_X8_habitOf (M.1 18 v1.toNatClampNeg) M) (fun r2 M1 => bI (if (1 : Int32) < ((M.1 19 v1.toNatClampNeg) - r2) then ((M.1 19 v1.toNatClampNeg) - r2) else (1 : Int32)) (fun x3 => gV v1 60 (some (((M1.1 20 v1.toNatClampNeg) * x3) / (100 : Int32), M1))))))
set_option maxRecDepth 100000 in
theorem ok_X8_normalOf {l : Launch} {g : Cx} {v1 : Int32} {M : Mem} {r : Int32} {Mr : Mem} (h : f_X8_normalOf v1 M = some (r, Mr)) : CT l g yX8_normalOf cX8_normalOf 3 (some .int) 1 21 [.ref (g.1 2), .int v1] M (PI r Mr) := by
  refine CT_of (lv := [some (.ref (g.1 2)), some (.int v1), none]) (by decide) rfl (Nat.le_of_ble_eq_true rfl) ?_
  unfold f_X8_normalOf at h
  refine A_iconst (v := 1) dX8_normalOf_0 (by decide) ?_
  refine A_aload_n dX8_normalOf_1 rfl ?_
  refine A_getf dX8_normalOf_2 fw_X8_24 ob2 rfl ?_
  refine A_iload_n dX8_normalOf_5 rfl ?_
  obtain ⟨hg, h⟩ := gV_go h
  refine A_iald dX8_normalOf_6 ia19 hg ?_
  refine A_aload_n dX8_normalOf_7 rfl ?_
  refine A_aload_n dX8_normalOf_8 rfl ?_
  refine A_getf dX8_normalOf_9 fw_X8_21 ob2 rfl ?_
  refine A_iload_n dX8_normalOf_12 rfl ?_
  obtain ⟨hg, h⟩ := gV_go h
  refine A_iald dX8_normalOf_13 ia18 hg ?_
  obtain ⟨r2, M1, h1, h⟩ := bE_go h
  refine A_cVi1 dX8_normalOf_14 ml_X8_44 mb_X8_habitOf mi_X8_habitOf ob2 rfl rfl ⟨Nat.le_of_ble_eq_true rfl, Nat.le_of_ble_eq_true rfl⟩ (Nat.le_of_ble_eq_true rfl) (ok_X8_habitOf h1) ?_
  refine A_isub dX8_normalOf_17 ?_
  refine A_mmax dX8_normalOf_18 ml_X8_48 (Nat.le_of_ble_eq_true rfl) (Nat.le_of_ble_eq_true rfl) ?_
  refine A_istoren2 dX8_normalOf_21 (by decide) rfl (bI_go h (G := fun z => AT l g RX8 cX8_normalOf 3 (some .int) (rmM 1 21) (PI r Mr) 22 [some (.ref (g.1 2)), some (.int v1), some (.int z)] [] M1) (fun x3 h => ?_))
  refine A_aload_n dX8_normalOf_22 rfl ?_
  refine A_getf dX8_normalOf_23 fw_X8_27 ob2 rfl ?_
  refine A_iload_n dX8_normalOf_26 rfl ?_
  obtain ⟨hg, h⟩ := gV_go h
  refine A_iald dX8_normalOf_27 ia20 hg ?_
  refine A_iload_n dX8_normalOf_28 rfl ?_
  refine A_imul dX8_normalOf_29 ?_
  refine A_bipush (v := 100) dX8_normalOf_30 (by decide) ?_
  refine A_idiv dX8_normalOf_32 (by decide) ?_
  exact A_iret dX8_normalOf_33 (pI_go h)
-- BenchTimes$Watch.putInOrder
theorem dX8_putInOrder_0 : di cX8_putInOrder 0 (.aload_n 0) 1 1 := ⟨by decide +kernel, rfl⟩
theorem dX8_putInOrder_1 : di cX8_putInOrder 1 (.getfield 72) 3 4 := ⟨by decide +kernel, rfl⟩
theorem dX8_putInOrder_4 : di cX8_putInOrder 4 (.istore_n 2) 1 5 := ⟨by decide +kernel, rfl⟩
theorem dX8_putInOrder_5 : di cX8_putInOrder 5 (.iload_n 2) 1 6 := ⟨by decide +kernel, rfl⟩
theorem dX8_putInOrder_6 : dj cX8_putInOrder 6 (.ifCond .le) 9 41 := ⟨35, by decide +kernel, rfl, rfl⟩
theorem dX8_putInOrder_9 : di cX8_putInOrder 9 (.aload_n 0) 1 10 := ⟨by decide +kernel, rfl⟩
theorem dX8_putInOrder_10 : di cX8_putInOrder 10 (.getfield 30) 3 13 := ⟨by decide +kernel, rfl⟩
theorem dX8_putInOrder_13 : di cX8_putInOrder 13 (.iload_n 2) 1 14 := ⟨by decide +kernel, rfl⟩
theorem dX8_putInOrder_14 : di cX8_putInOrder 14 (.iconst 1) 1 15 := ⟨by decide +kernel, rfl⟩
theorem dX8_putInOrder_15 : di cX8_putInOrder 15 (.isub) 1 16 := ⟨by decide +kernel, rfl⟩
theorem dX8_putInOrder_16 : di cX8_putInOrder 16 (.iaload) 1 17 := ⟨by decide +kernel, rfl⟩
theorem dX8_putInOrder_17 : di cX8_putInOrder 17 (.iload_n 1) 1 18 := ⟨by decide +kernel, rfl⟩
theorem dX8_putInOrder_18 : dj cX8_putInOrder 18 (.if_icmp .le) 21 41 := ⟨23, by decide +kernel, rfl, rfl⟩
theorem dX8_putInOrder_21 : di cX8_putInOrder 21 (.aload_n 0) 1 22 := ⟨by decide +kernel, rfl⟩
theorem dX8_putInOrder_22 : di cX8_putInOrder 22 (.getfield 30) 3 25 := ⟨by decide +kernel, rfl⟩
theorem dX8_putInOrder_25 : di cX8_putInOrder 25 (.iload_n 2) 1 26 := ⟨by decide +kernel, rfl⟩
theorem dX8_putInOrder_26 : di cX8_putInOrder 26 (.aload_n 0) 1 27 := ⟨by decide +kernel, rfl⟩
theorem dX8_putInOrder_27 : di cX8_putInOrder 27 (.getfield 30) 3 30 := ⟨by decide +kernel, rfl⟩
theorem dX8_putInOrder_30 : di cX8_putInOrder 30 (.iload_n 2) 1 31 := ⟨by decide +kernel, rfl⟩
theorem dX8_putInOrder_31 : di cX8_putInOrder 31 (.iconst 1) 1 32 := ⟨by decide +kernel, rfl⟩
theorem dX8_putInOrder_32 : di cX8_putInOrder 32 (.isub) 1 33 := ⟨by decide +kernel, rfl⟩
theorem dX8_putInOrder_33 : di cX8_putInOrder 33 (.iaload) 1 34 := ⟨by decide +kernel, rfl⟩
theorem dX8_putInOrder_34 : di cX8_putInOrder 34 (.iastore) 1 35 := ⟨by decide +kernel, rfl⟩
theorem dX8_putInOrder_35 : di cX8_putInOrder 35 (.iinc 2 (-1)) 3 38 := ⟨by decide +kernel, rfl⟩
theorem dX8_putInOrder_38 : dj cX8_putInOrder 38 .goto 41 5 := ⟨-33, by decide +kernel, rfl, rfl⟩
theorem dX8_putInOrder_41 : di cX8_putInOrder 41 (.aload_n 0) 1 42 := ⟨by decide +kernel, rfl⟩
theorem dX8_putInOrder_42 : di cX8_putInOrder 42 (.getfield 30) 3 45 := ⟨by decide +kernel, rfl⟩
theorem dX8_putInOrder_45 : di cX8_putInOrder 45 (.iload_n 2) 1 46 := ⟨by decide +kernel, rfl⟩
theorem dX8_putInOrder_46 : di cX8_putInOrder 46 (.iload_n 1) 1 47 := ⟨by decide +kernel, rfl⟩
theorem dX8_putInOrder_47 : di cX8_putInOrder 47 (.iastore) 1 48 := ⟨by decide +kernel, rfl⟩
theorem dX8_putInOrder_48 : di cX8_putInOrder 48 (.aload_n 0) 1 49 := ⟨by decide +kernel, rfl⟩
theorem dX8_putInOrder_49 : di cX8_putInOrder 49 (.dup) 1 50 := ⟨by decide +kernel, rfl⟩
theorem dX8_putInOrder_50 : di cX8_putInOrder 50 (.getfield 72) 3 53 := ⟨by decide +kernel, rfl⟩
theorem dX8_putInOrder_53 : di cX8_putInOrder 53 (.iconst 1) 1 54 := ⟨by decide +kernel, rfl⟩
theorem dX8_putInOrder_54 : di cX8_putInOrder 54 (.iadd) 1 55 := ⟨by decide +kernel, rfl⟩
theorem dX8_putInOrder_55 : di cX8_putInOrder 55 (.putfield 72) 3 58 := ⟨by decide +kernel, rfl⟩
theorem dX8_putInOrder_58 : di cX8_putInOrder 58 (.return_) 1 59 := ⟨by decide +kernel, rfl⟩
def f_X8_putInOrder_L5 (v1 : Int32) : Nat → Int32 → Mem → (Int32 → Mem → Option Ret) → Option Ret
  | 0, _, _, _ => none
  | k5 + 1, v2, M, K5 => if v2 ≤ 0 then (K5 v2 M) else (gV (v2 - (1 : Int32)) 60 (if (M.1 21 (v2 - (1 : Int32)).toNatClampNeg) ≤ v1 then (K5 v2 M) else (gV (v2 - (1 : Int32)) 60 (gV v2 60 (bM (up2 M 21 v2.toNatClampNeg (M.1 21 (v2 - (1 : Int32)).toNatClampNeg)) (fun M2 => f_X8_putInOrder_L5 v1 k5 (v2 + (-1 : Int32)) M2 K5))))))
set_option maxRecDepth 100000 in
theorem f_X8_putInOrder_L5_ok {l : Launch} {g : Cx} (v1 : Int32)  {r : Int32} {Mr : Mem} : ∀ (k : Nat) (v2 : Int32) (M : Mem) (K5 : Int32 → Mem → Option Ret), f_X8_putInOrder_L5 v1 k v2 M K5 = some (r, Mr) → (∀ (v2 : Int32) (M : Mem), K5 v2 M = some (r, Mr) → AT l g RX8 cX8_putInOrder 3 none (rmM 0 0) (PV r Mr) 41 [some (.ref (g.1 2)), some (.int v1), some (.int v2)] [] M) → AT l g RX8 cX8_putInOrder 3 none (rmM 0 0) (PV r Mr) 5 [some (.ref (g.1 2)), some (.int v1), some (.int v2)] [] M
  | 0, v2, M, K5, h, hK5 => by cases h
  | k5 + 1, v2, M, K5, h, hK5 => by
    have ih5 := f_X8_putInOrder_L5_ok (l := l) (g := g) v1 (r := r) (Mr := Mr) k5
    rw [f_X8_putInOrder_L5] at h
    refine A_iload_n dX8_putInOrder_5 rfl ?_
    refine A_if_le dX8_putInOrder_6 (fun hc => ?_) (fun hc => ?_)
    · have h := gT_go hc h
      exact A_le (lvLe_s (lvLe_s (lvLe_s lvLe_0))) (hK5 _ _ h)
    · have h := gF_go hc h
      refine A_aload_n dX8_putInOrder_9 rfl ?_
      refine A_getf dX8_putInOrder_10 fw_X8_30 ob2 rfl ?_
      refine A_iload_n dX8_putInOrder_13 rfl ?_
      refine A_iconst (v := 1) dX8_putInOrder_14 (by decide) ?_
      refine A_isub dX8_putInOrder_15 ?_
      obtain ⟨hg, h⟩ := gV_go h
      refine A_iald dX8_putInOrder_16 ia21 hg ?_
      refine A_iload_n dX8_putInOrder_17 rfl ?_
      refine A_icmp_le dX8_putInOrder_18 (fun hc => ?_) (fun hc => ?_)
      · have h := gT_go hc h
        exact A_le (lvLe_s (lvLe_s (lvLe_s lvLe_0))) (hK5 _ _ h)
      · have h := gF_go hc h
        refine A_aload_n dX8_putInOrder_21 rfl ?_
        refine A_getf dX8_putInOrder_22 fw_X8_30 ob2 rfl ?_
        refine A_iload_n dX8_putInOrder_25 rfl ?_
        refine A_aload_n dX8_putInOrder_26 rfl ?_
        refine A_getf dX8_putInOrder_27 fw_X8_30 ob2 rfl ?_
        refine A_iload_n dX8_putInOrder_30 rfl ?_
        refine A_iconst (v := 1) dX8_putInOrder_31 (by decide) ?_
        refine A_isub dX8_putInOrder_32 ?_
        obtain ⟨hg, h⟩ := gV_go h
        refine A_iald dX8_putInOrder_33 ia21 hg ?_
        obtain ⟨hg, h⟩ := gV_go h
        refine A_iast dX8_putInOrder_34 ia21 hg (bM_go h (fun M2 h => ?_))
        refine A_iinc2 (d := -1) dX8_putInOrder_35 (by decide) (by decide) rfl ?_
        refine A_goto dX8_putInOrder_38 ?_
        exact A_le (lvLe_s (lvLe_s (lvLe_s lvLe_0))) (ih5 _ _ K5 h hK5)
def f_X8_putInOrder (v1 : Int32) (M : Mem) : Option Ret := bI (M.1 2 10) (fun x1 => f_X8_putInOrder_L5 v1 FU x1 M (fun w3 M4 => gV w3 60 (bM (up2 M4 21 w3.toNatClampNeg v1) (fun M5 => bM (up2 M5 2 10 ((M5.1 2 10) + (1 : Int32))) (fun M6 => some (0, M6))))))
set_option maxRecDepth 100000 in
theorem ok_X8_putInOrder {l : Launch} {g : Cx} {v1 : Int32} {M : Mem} {r : Int32} {Mr : Mem} (h : f_X8_putInOrder v1 M = some (r, Mr)) : CT l g yX8_putInOrder cX8_putInOrder 3 none 0 0 [.ref (g.1 2), .int v1] M (PV r Mr) := by
  refine CT_of (lv := [some (.ref (g.1 2)), some (.int v1), none]) (by decide) rfl (Nat.le_of_ble_eq_true rfl) ?_
  unfold f_X8_putInOrder at h
  refine A_aload_n dX8_putInOrder_0 rfl ?_
  refine A_getf dX8_putInOrder_1 fw_X8_72 ob2 rfl ?_
  refine A_istoren2 dX8_putInOrder_4 (by decide) rfl (bI_go h (G := fun z => AT l g RX8 cX8_putInOrder 3 none (rmM 0 0) (PV r Mr) 5 [some (.ref (g.1 2)), some (.int v1), some (.int z)] [] M) (fun x1 h => ?_))
  refine f_X8_putInOrder_L5_ok _ FU _ _ _ h (fun w3 M4 h => ?_)
  refine A_aload_n dX8_putInOrder_41 rfl ?_
  refine A_getf dX8_putInOrder_42 fw_X8_30 ob2 rfl ?_
  refine A_iload_n dX8_putInOrder_45 rfl ?_
  refine A_iload_n dX8_putInOrder_46 rfl ?_
  obtain ⟨hg, h⟩ := gV_go h
  refine A_iast dX8_putInOrder_47 ia21 hg (bM_go h (fun M5 h => ?_))
  refine A_aload_n dX8_putInOrder_48 rfl ?_
  refine A_dup dX8_putInOrder_49 rfl ?_
  refine A_getf dX8_putInOrder_50 fw_X8_72 ob2 rfl ?_
  refine A_iconst (v := 1) dX8_putInOrder_53 (by decide) ?_
  refine A_iadd dX8_putInOrder_54 ?_
  refine A_putf dX8_putInOrder_55 pw_X8_72 ob2 pf2_10 (Nat.le_of_ble_eq_true rfl) (bM_go h (fun M6 h => ?_))
  exact A_vret dX8_putInOrder_58 (pV_go h)
-- BenchTimes$Watch.gatherNormals
theorem dX8_gatherNormals_0 : di cX8_gatherNormals 0 (.aload_n 0) 1 1 := ⟨by decide +kernel, rfl⟩
theorem dX8_gatherNormals_1 : di cX8_gatherNormals 1 (.iconst 0) 1 2 := ⟨by decide +kernel, rfl⟩
theorem dX8_gatherNormals_2 : di cX8_gatherNormals 2 (.putfield 72) 3 5 := ⟨by decide +kernel, rfl⟩
theorem dX8_gatherNormals_5 : di cX8_gatherNormals 5 (.iconst 0) 1 6 := ⟨by decide +kernel, rfl⟩
theorem dX8_gatherNormals_6 : di cX8_gatherNormals 6 (.istore_n 2) 1 7 := ⟨by decide +kernel, rfl⟩
theorem dX8_gatherNormals_7 : di cX8_gatherNormals 7 (.iload_n 2) 1 8 := ⟨by decide +kernel, rfl⟩
theorem dX8_gatherNormals_8 : di cX8_gatherNormals 8 (.aload_n 0) 1 9 := ⟨by decide +kernel, rfl⟩
theorem dX8_gatherNormals_9 : di cX8_gatherNormals 9 (.getfield 41) 3 12 := ⟨by decide +kernel, rfl⟩
theorem dX8_gatherNormals_12 : dj cX8_gatherNormals 12 (.if_icmp .ge) 15 40 := ⟨28, by decide +kernel, rfl, rfl⟩
theorem dX8_gatherNormals_15 : di cX8_gatherNormals 15 (.aload_n 0) 1 16 := ⟨by decide +kernel, rfl⟩
theorem dX8_gatherNormals_16 : di cX8_gatherNormals 16 (.getfield 18) 3 19 := ⟨by decide +kernel, rfl⟩
theorem dX8_gatherNormals_19 : di cX8_gatherNormals 19 (.iload_n 2) 1 20 := ⟨by decide +kernel, rfl⟩
theorem dX8_gatherNormals_20 : di cX8_gatherNormals 20 (.iaload) 1 21 := ⟨by decide +kernel, rfl⟩
theorem dX8_gatherNormals_21 : di cX8_gatherNormals 21 (.iload_n 1) 1 22 := ⟨by decide +kernel, rfl⟩
theorem dX8_gatherNormals_22 : dj cX8_gatherNormals 22 (.if_icmp .ne) 25 34 := ⟨12, by decide +kernel, rfl, rfl⟩
theorem dX8_gatherNormals_25 : di cX8_gatherNormals 25 (.aload_n 0) 1 26 := ⟨by decide +kernel, rfl⟩
theorem dX8_gatherNormals_26 : di cX8_gatherNormals 26 (.aload_n 0) 1 27 := ⟨by decide +kernel, rfl⟩
theorem dX8_gatherNormals_27 : di cX8_gatherNormals 27 (.iload_n 2) 1 28 := ⟨by decide +kernel, rfl⟩
theorem dX8_gatherNormals_28 : di cX8_gatherNormals 28 (.invokevirtual 84) 3 31 := ⟨by decide +kernel, rfl⟩
theorem dX8_gatherNormals_31 : di cX8_gatherNormals 31 (.invokevirtual 87) 3 34 := ⟨by decide +kernel, rfl⟩
theorem dX8_gatherNormals_34 : di cX8_gatherNormals 34 (.iinc 2 1) 3 37 := ⟨by decide +kernel, rfl⟩
theorem dX8_gatherNormals_37 : dj cX8_gatherNormals 37 .goto 40 7 := ⟨-30, by decide +kernel, rfl, rfl⟩
theorem dX8_gatherNormals_40 : di cX8_gatherNormals 40 (.return_) 1 41 := ⟨by decide +kernel, rfl⟩
def f_X8_gatherNormals_L7 (v1 : Int32) : Nat → Int32 → Mem → (Int32 → Mem → Option Ret) → Option Ret
  | 0, _, _, _ => none
  | k7 + 1, v2, M, K7 => if (M.1 2 8) ≤ v2 then (K7 v2 M) else (gV v2 60 (jn (α := Mem → Option Ret) (fun (M3 : Mem) => f_X8_gatherNormals_L7 v1 k7 (v2 + (1 : Int32)) M3 K7) (fun J2 => if (M.1 17 v2.toNatClampNeg) = v1 then (bE (f_X8_normalOf v2 M) (fun r5 M4 => bE (f_X8_putInOrder r5 M4) (fun r7 M6 => J2 M6))) else (J2 M))))
set_option maxRecDepth 100000 in
theorem f_X8_gatherNormals_L7_ok {l : Launch} {g : Cx} (v1 : Int32)  {r : Int32} {Mr : Mem} : ∀ (k : Nat) (v2 : Int32) (M : Mem) (K7 : Int32 → Mem → Option Ret), f_X8_gatherNormals_L7 v1 k v2 M K7 = some (r, Mr) → (∀ (v2 : Int32) (M : Mem), K7 v2 M = some (r, Mr) → AT l g RX8 cX8_gatherNormals 3 none (rmM 2 43) (PV r Mr) 40 [some (.ref (g.1 2)), some (.int v1), some (.int v2)] [] M) → AT l g RX8 cX8_gatherNormals 3 none (rmM 2 43) (PV r Mr) 7 [some (.ref (g.1 2)), some (.int v1), some (.int v2)] [] M
  | 0, v2, M, K7, h, hK7 => by cases h
  | k7 + 1, v2, M, K7, h, hK7 => by
    have ih7 := f_X8_gatherNormals_L7_ok (l := l) (g := g) v1 (r := r) (Mr := Mr) k7
    rw [f_X8_gatherNormals_L7] at h
    refine A_iload_n dX8_gatherNormals_7 rfl ?_
    refine A_aload_n dX8_gatherNormals_8 rfl ?_
    refine A_getf dX8_gatherNormals_9 fw_X8_41 ob2 rfl ?_
    refine A_icmp_ge dX8_gatherNormals_12 (fun hc => ?_) (fun hc => ?_)
    · have h := gT_go hc h
      exact A_le (lvLe_s (lvLe_s (lvLe_s lvLe_0))) (hK7 _ _ h)
    · have h := gF_go hc h
      refine A_aload_n dX8_gatherNormals_15 rfl ?_
      refine A_getf dX8_gatherNormals_16 fw_X8_18 ob2 rfl ?_
      refine A_iload_n dX8_gatherNormals_19 rfl ?_
      obtain ⟨hg, h⟩ := gV_go h
      refine A_iald dX8_gatherNormals_20 ia17 hg ?_
      refine A_iload_n dX8_gatherNormals_21 rfl ?_
      obtain ⟨J2, hJ2, h⟩ := jn_go h
      have JJ2 : ∀ (M3 : Mem), J2 M3 = some (r, Mr) → AT l g RX8 cX8_gatherNormals 3 none (rmM 2 43) (PV r Mr) 34 [some (.ref (g.1 2)), some (.int v1), some (.int v2)] [] M3 := by
        intro M3 h
        rw [hJ2] at h
        refine A_iinc2 (d := 1) dX8_gatherNormals_34 (by decide) (by decide) rfl ?_
        refine A_goto dX8_gatherNormals_37 ?_
        exact A_le (lvLe_s (lvLe_s (lvLe_s lvLe_0))) (ih7 _ _ K7 h hK7)
      refine A_icmp_ne dX8_gatherNormals_22 (fun hc => ?_) (fun hc => ?_)
      · have h := gF_go hc h
        exact A_le (lvLe_s (lvLe_s (lvLe_s lvLe_0))) (JJ2 _ h)
      · have h := gT_go hc h
        refine A_aload_n dX8_gatherNormals_25 rfl ?_
        refine A_aload_n dX8_gatherNormals_26 rfl ?_
        refine A_iload_n dX8_gatherNormals_27 rfl ?_
        obtain ⟨r5, M4, h1, h⟩ := bE_go h
        refine A_cVi1 dX8_gatherNormals_28 ml_X8_84 mb_X8_normalOf mi_X8_normalOf ob2 rfl rfl ⟨Nat.le_of_ble_eq_true rfl, Nat.le_of_ble_eq_true rfl⟩ (Nat.le_of_ble_eq_true rfl) (ok_X8_normalOf h1) ?_
        obtain ⟨r7, M6, h1, h⟩ := bE_go h
        refine A_cVv1 dX8_gatherNormals_31 ml_X8_87 mb_X8_putInOrder mi_X8_putInOrder ob2 rfl rfl ⟨Nat.le_of_ble_eq_true rfl, Nat.le_of_ble_eq_true rfl⟩ (Nat.le_of_ble_eq_true rfl) (ok_X8_putInOrder h1) ?_
        exact A_le (lvLe_s (lvLe_s (lvLe_s lvLe_0))) (JJ2 _ h)
def f_X8_gatherNormals (v1 : Int32) (M : Mem) : Option Ret := bM (up2 M 2 10 (0 : Int32)) (fun M1 => f_X8_gatherNormals_L7 v1 FU (0 : Int32) M1 (fun w8 M9 => some (0, M9)))
set_option maxRecDepth 100000 in
theorem ok_X8_gatherNormals {l : Launch} {g : Cx} {v1 : Int32} {M : Mem} {r : Int32} {Mr : Mem} (h : f_X8_gatherNormals v1 M = some (r, Mr)) : CT l g yX8_gatherNormals cX8_gatherNormals 3 none 2 43 [.ref (g.1 2), .int v1] M (PV r Mr) := by
  refine CT_of (lv := [some (.ref (g.1 2)), some (.int v1), none]) (by decide) rfl (Nat.le_of_ble_eq_true rfl) ?_
  unfold f_X8_gatherNormals at h
  refine A_aload_n dX8_gatherNormals_0 rfl ?_
  refine A_iconst (v := 0) dX8_gatherNormals_1 (by decide) ?_
  refine A_putf dX8_gatherNormals_2 pw_X8_72 ob2 pf2_10 (Nat.le_of_ble_eq_true rfl) (bM_go h (fun M1 h => ?_))
  refine A_iconst (v := 0) dX8_gatherNormals_5 (by decide) ?_
  refine A_istoren2 dX8_gatherNormals_6 (by decide) rfl ?_
  refine f_X8_gatherNormals_L7_ok _ FU _ _ _ h (fun w8 M9 h => ?_)
  exact A_vret dX8_gatherNormals_40 (pV_go h)
-- BenchTimes$Watch.keepNormals
theorem dX8_keepNormals_0 : di cX8_keepNormals 0 (.aload_n 0) 1 1 := ⟨by decide +kernel, rfl⟩
theorem dX8_keepNormals_1 : di cX8_keepNormals 1 (.getfield 72) 3 4 := ⟨by decide +kernel, rfl⟩
theorem dX8_keepNormals_4 : dj cX8_keepNormals 4 (.ifCond .ne) 7 11 := ⟨7, by decide +kernel, rfl, rfl⟩
theorem dX8_keepNormals_7 : di cX8_keepNormals 7 (.iconst 0) 1 8 := ⟨by decide +kernel, rfl⟩
theorem dX8_keepNormals_8 : dj cX8_keepNormals 8 .goto 11 24 := ⟨16, by decide +kernel, rfl, rfl⟩
theorem dX8_keepNormals_11 : di cX8_keepNormals 11 (.aload_n 0) 1 12 := ⟨by decide +kernel, rfl⟩
theorem dX8_keepNormals_12 : di cX8_keepNormals 12 (.getfield 30) 3 15 := ⟨by decide +kernel, rfl⟩
theorem dX8_keepNormals_15 : di cX8_keepNormals 15 (.aload_n 0) 1 16 := ⟨by decide +kernel, rfl⟩
theorem dX8_keepNormals_16 : di cX8_keepNormals 16 (.getfield 72) 3 19 := ⟨by decide +kernel, rfl⟩
theorem dX8_keepNormals_19 : di cX8_keepNormals 19 (.iconst 1) 1 20 := ⟨by decide +kernel, rfl⟩
theorem dX8_keepNormals_20 : di cX8_keepNormals 20 (.isub) 1 21 := ⟨by decide +kernel, rfl⟩
theorem dX8_keepNormals_21 : di cX8_keepNormals 21 (.iconst 2) 1 22 := ⟨by decide +kernel, rfl⟩
theorem dX8_keepNormals_22 : di cX8_keepNormals 22 (.idiv) 1 23 := ⟨by decide +kernel, rfl⟩
theorem dX8_keepNormals_23 : di cX8_keepNormals 23 (.iaload) 1 24 := ⟨by decide +kernel, rfl⟩
theorem dX8_keepNormals_24 : di cX8_keepNormals 24 (.istore_n 1) 1 25 := ⟨by decide +kernel, rfl⟩
theorem dX8_keepNormals_25 : di cX8_keepNormals 25 (.iconst 0) 1 26 := ⟨by decide +kernel, rfl⟩
theorem dX8_keepNormals_26 : di cX8_keepNormals 26 (.istore_n 2) 1 27 := ⟨by decide +kernel, rfl⟩
theorem dX8_keepNormals_27 : di cX8_keepNormals 27 (.aload_n 0) 1 28 := ⟨by decide +kernel, rfl⟩
theorem dX8_keepNormals_28 : di cX8_keepNormals 28 (.iconst 0) 1 29 := ⟨by decide +kernel, rfl⟩
theorem dX8_keepNormals_29 : di cX8_keepNormals 29 (.putfield 75) 3 32 := ⟨by decide +kernel, rfl⟩
theorem dX8_keepNormals_32 : di cX8_keepNormals 32 (.iconst 0) 1 33 := ⟨by decide +kernel, rfl⟩
theorem dX8_keepNormals_33 : di cX8_keepNormals 33 (.istore_n 3) 1 34 := ⟨by decide +kernel, rfl⟩
theorem dX8_keepNormals_34 : di cX8_keepNormals 34 (.iload_n 3) 1 35 := ⟨by decide +kernel, rfl⟩
theorem dX8_keepNormals_35 : di cX8_keepNormals 35 (.aload_n 0) 1 36 := ⟨by decide +kernel, rfl⟩
theorem dX8_keepNormals_36 : di cX8_keepNormals 36 (.getfield 72) 3 39 := ⟨by decide +kernel, rfl⟩
theorem dX8_keepNormals_39 : dj cX8_keepNormals 39 (.if_icmp .ge) 42 118 := ⟨79, by decide +kernel, rfl, rfl⟩
theorem dX8_keepNormals_42 : di cX8_keepNormals 42 (.aload_n 0) 1 43 := ⟨by decide +kernel, rfl⟩
theorem dX8_keepNormals_43 : di cX8_keepNormals 43 (.getfield 30) 3 46 := ⟨by decide +kernel, rfl⟩
theorem dX8_keepNormals_46 : di cX8_keepNormals 46 (.iload_n 3) 1 47 := ⟨by decide +kernel, rfl⟩
theorem dX8_keepNormals_47 : di cX8_keepNormals 47 (.iaload) 1 48 := ⟨by decide +kernel, rfl⟩
theorem dX8_keepNormals_48 : di cX8_keepNormals 48 (.iload_n 1) 1 49 := ⟨by decide +kernel, rfl⟩
theorem dX8_keepNormals_49 : di cX8_keepNormals 49 (.isub) 1 50 := ⟨by decide +kernel, rfl⟩
theorem dX8_keepNormals_50 : di cX8_keepNormals 50 (.invokestatic 90) 3 53 := ⟨by decide +kernel, rfl⟩
theorem dX8_keepNormals_53 : di cX8_keepNormals 53 (.iload_n 1) 1 54 := ⟨by decide +kernel, rfl⟩
theorem dX8_keepNormals_54 : di cX8_keepNormals 54 (.iconst 4) 1 55 := ⟨by decide +kernel, rfl⟩
theorem dX8_keepNormals_55 : di cX8_keepNormals 55 (.idiv) 1 56 := ⟨by decide +kernel, rfl⟩
theorem dX8_keepNormals_56 : dj cX8_keepNormals 56 (.if_icmp .gt) 59 112 := ⟨56, by decide +kernel, rfl, rfl⟩
theorem dX8_keepNormals_59 : di cX8_keepNormals 59 (.aload_n 0) 1 60 := ⟨by decide +kernel, rfl⟩
theorem dX8_keepNormals_60 : di cX8_keepNormals 60 (.aload_n 0) 1 61 := ⟨by decide +kernel, rfl⟩
theorem dX8_keepNormals_61 : di cX8_keepNormals 61 (.getfield 75) 3 64 := ⟨by decide +kernel, rfl⟩
theorem dX8_keepNormals_64 : dj cX8_keepNormals 64 (.ifCond .ne) 67 76 := ⟨12, by decide +kernel, rfl, rfl⟩
theorem dX8_keepNormals_67 : di cX8_keepNormals 67 (.aload_n 0) 1 68 := ⟨by decide +kernel, rfl⟩
theorem dX8_keepNormals_68 : di cX8_keepNormals 68 (.getfield 30) 3 71 := ⟨by decide +kernel, rfl⟩
theorem dX8_keepNormals_71 : di cX8_keepNormals 71 (.iload_n 3) 1 72 := ⟨by decide +kernel, rfl⟩
theorem dX8_keepNormals_72 : di cX8_keepNormals 72 (.iaload) 1 73 := ⟨by decide +kernel, rfl⟩
theorem dX8_keepNormals_73 : dj cX8_keepNormals 73 .goto 76 80 := ⟨7, by decide +kernel, rfl, rfl⟩
theorem dX8_keepNormals_76 : di cX8_keepNormals 76 (.aload_n 0) 1 77 := ⟨by decide +kernel, rfl⟩
theorem dX8_keepNormals_77 : di cX8_keepNormals 77 (.getfield 78) 3 80 := ⟨by decide +kernel, rfl⟩
theorem dX8_keepNormals_80 : di cX8_keepNormals 80 (.putfield 78) 3 83 := ⟨by decide +kernel, rfl⟩
theorem dX8_keepNormals_83 : di cX8_keepNormals 83 (.aload_n 0) 1 84 := ⟨by decide +kernel, rfl⟩
theorem dX8_keepNormals_84 : di cX8_keepNormals 84 (.aload_n 0) 1 85 := ⟨by decide +kernel, rfl⟩
theorem dX8_keepNormals_85 : di cX8_keepNormals 85 (.getfield 30) 3 88 := ⟨by decide +kernel, rfl⟩
theorem dX8_keepNormals_88 : di cX8_keepNormals 88 (.iload_n 3) 1 89 := ⟨by decide +kernel, rfl⟩
theorem dX8_keepNormals_89 : di cX8_keepNormals 89 (.iaload) 1 90 := ⟨by decide +kernel, rfl⟩
theorem dX8_keepNormals_90 : di cX8_keepNormals 90 (.putfield 81) 3 93 := ⟨by decide +kernel, rfl⟩
theorem dX8_keepNormals_93 : di cX8_keepNormals 93 (.iload_n 2) 1 94 := ⟨by decide +kernel, rfl⟩
theorem dX8_keepNormals_94 : di cX8_keepNormals 94 (.aload_n 0) 1 95 := ⟨by decide +kernel, rfl⟩
theorem dX8_keepNormals_95 : di cX8_keepNormals 95 (.getfield 30) 3 98 := ⟨by decide +kernel, rfl⟩
theorem dX8_keepNormals_98 : di cX8_keepNormals 98 (.iload_n 3) 1 99 := ⟨by decide +kernel, rfl⟩
theorem dX8_keepNormals_99 : di cX8_keepNormals 99 (.iaload) 1 100 := ⟨by decide +kernel, rfl⟩
theorem dX8_keepNormals_100 : di cX8_keepNormals 100 (.iadd) 1 101 := ⟨by decide +kernel, rfl⟩
theorem dX8_keepNormals_101 : di cX8_keepNormals 101 (.istore_n 2) 1 102 := ⟨by decide +kernel, rfl⟩
theorem dX8_keepNormals_102 : di cX8_keepNormals 102 (.aload_n 0) 1 103 := ⟨by decide +kernel, rfl⟩
theorem dX8_keepNormals_103 : di cX8_keepNormals 103 (.dup) 1 104 := ⟨by decide +kernel, rfl⟩
theorem dX8_keepNormals_104 : di cX8_keepNormals 104 (.getfield 75) 3 107 := ⟨by decide +kernel, rfl⟩
theorem dX8_keepNormals_107 : di cX8_keepNormals 107 (.iconst 1) 1 108 := ⟨by decide +kernel, rfl⟩
theorem dX8_keepNormals_108 : di cX8_keepNormals 108 (.iadd) 1 109 := ⟨by decide +kernel, rfl⟩
theorem dX8_keepNormals_109 : di cX8_keepNormals 109 (.putfield 75) 3 112 := ⟨by decide +kernel, rfl⟩
theorem dX8_keepNormals_112 : di cX8_keepNormals 112 (.iinc 3 1) 3 115 := ⟨by decide +kernel, rfl⟩
theorem dX8_keepNormals_115 : dj cX8_keepNormals 115 .goto 118 34 := ⟨-81, by decide +kernel, rfl, rfl⟩
theorem dX8_keepNormals_118 : di cX8_keepNormals 118 (.aload_n 0) 1 119 := ⟨by decide +kernel, rfl⟩
theorem dX8_keepNormals_119 : di cX8_keepNormals 119 (.aload_n 0) 1 120 := ⟨by decide +kernel, rfl⟩
theorem dX8_keepNormals_120 : di cX8_keepNormals 120 (.getfield 75) 3 123 := ⟨by decide +kernel, rfl⟩
theorem dX8_keepNormals_123 : dj cX8_keepNormals 123 (.ifCond .ne) 126 130 := ⟨7, by decide +kernel, rfl, rfl⟩
theorem dX8_keepNormals_126 : di cX8_keepNormals 126 (.iconst 0) 1 127 := ⟨by decide +kernel, rfl⟩
theorem dX8_keepNormals_127 : dj cX8_keepNormals 127 .goto 130 136 := ⟨9, by decide +kernel, rfl, rfl⟩
theorem dX8_keepNormals_130 : di cX8_keepNormals 130 (.iload_n 2) 1 131 := ⟨by decide +kernel, rfl⟩
theorem dX8_keepNormals_131 : di cX8_keepNormals 131 (.aload_n 0) 1 132 := ⟨by decide +kernel, rfl⟩
theorem dX8_keepNormals_132 : di cX8_keepNormals 132 (.getfield 75) 3 135 := ⟨by decide +kernel, rfl⟩
theorem dX8_keepNormals_135 : di cX8_keepNormals 135 (.idiv) 1 136 := ⟨by decide +kernel, rfl⟩
theorem dX8_keepNormals_136 : di cX8_keepNormals 136 (.putfield 61) 3 139 := ⟨by decide +kernel, rfl⟩
theorem dX8_keepNormals_139 : di cX8_keepNormals 139 (.return_) 1 140 := ⟨by decide +kernel, rfl⟩
def f_X8_keepNormals_L34 (v1 : Int32) : Nat → Int32 → Int32 → Mem → (Int32 → Int32 → Mem → Option Ret) → Option Ret
  | 0, _, _, _, _ => none
  | k34 + 1, v2, v3, M, K34 => if (M.1 2 10) ≤ v3 then (K34 v2 v3 M) else (gV v3 60 (jn (α := Int32 → Mem → Option Ret) (fun (y5 : Int32) (M6 : Mem) => f_X8_keepNormals_L34 v1 k34 y5 (v3 + (1 : Int32)) M6 K34) (fun J4 => if (v1 / (4 : Int32)) < (if 0 ≤ ((M.1 21 v3.toNatClampNeg) - v1) then ((M.1 21 v3.toNatClampNeg) - v1) else 0 - ((M.1 21 v3.toNatClampNeg) - v1)) then (J4 v2 M) else (jn (α := Int32 → Option Ret) (fun (z8 : Int32) => bM (up2 M 2 14 z8) (fun M9 => gV v3 60 (bM (up2 M9 2 15 (M9.1 21 v3.toNatClampNeg)) (fun M10 => gV v3 60 (bI (v2 + (M10.1 21 v3.toNatClampNeg)) (fun x11 => bM (up2 M10 2 11 ((M10.1 2 11) + (1 : Int32))) (fun M12 => J4 x11 M12))))))) (fun J7 => if (M.1 2 11) = 0 then (gV v3 60 (J7 (M.1 21 v3.toNatClampNeg))) else (J7 (M.1 2 14)))))))
set_option maxRecDepth 100000 in
theorem f_X8_keepNormals_L34_ok {l : Launch} {g : Cx} (v1 : Int32)  {r : Int32} {Mr : Mem} : ∀ (k : Nat) (v2 : Int32) (v3 : Int32) (M : Mem) (K34 : Int32 → Int32 → Mem → Option Ret), f_X8_keepNormals_L34 v1 k v2 v3 M K34 = some (r, Mr) → (∀ (v2 : Int32) (v3 : Int32) (M : Mem), K34 v2 v3 M = some (r, Mr) → AT l g RX8 cX8_keepNormals 4 none (rmM 1 20) (PV r Mr) 118 [some (.ref (g.1 2)), some (.int v1), some (.int v2), some (.int v3)] [] M) → AT l g RX8 cX8_keepNormals 4 none (rmM 1 20) (PV r Mr) 34 [some (.ref (g.1 2)), some (.int v1), some (.int v2), some (.int v3)] [] M
  | 0, v2, v3, M, K34, h, hK34 => by cases h
  | k34 + 1, v2, v3, M, K34, h, hK34 => by
    have ih34 := f_X8_keepNormals_L34_ok (l := l) (g := g) v1 (r := r) (Mr := Mr) k34
    rw [f_X8_keepNormals_L34] at h
    refine A_iload_n dX8_keepNormals_34 rfl ?_
    refine A_aload_n dX8_keepNormals_35 rfl ?_
    refine A_getf dX8_keepNormals_36 fw_X8_72 ob2 rfl ?_
    refine A_icmp_ge dX8_keepNormals_39 (fun hc => ?_) (fun hc => ?_)
    · have h := gT_go hc h
      exact A_le (lvLe_s (lvLe_s (lvLe_s (lvLe_s lvLe_0)))) (hK34 _ _ _ h)
    · have h := gF_go hc h
      refine A_aload_n dX8_keepNormals_42 rfl ?_
      refine A_getf dX8_keepNormals_43 fw_X8_30 ob2 rfl ?_
      refine A_iload_n dX8_keepNormals_46 rfl ?_
      obtain ⟨hg, h⟩ := gV_go h
      refine A_iald dX8_keepNormals_47 ia21 hg ?_
      refine A_iload_n dX8_keepNormals_48 rfl ?_
      refine A_isub dX8_keepNormals_49 ?_
      refine A_mabs dX8_keepNormals_50 ml_X8_90 (Nat.le_of_ble_eq_true rfl) (Nat.le_of_ble_eq_true rfl) ?_
      refine A_iload_n dX8_keepNormals_53 rfl ?_
      refine A_iconst (v := 4) dX8_keepNormals_54 (by decide) ?_
      refine A_idiv dX8_keepNormals_55 (by decide) ?_
      obtain ⟨J4, hJ4, h⟩ := jn_go h
      have JJ4 : ∀ (y5 : Int32) (M6 : Mem), J4 y5 M6 = some (r, Mr) → AT l g RX8 cX8_keepNormals 4 none (rmM 1 20) (PV r Mr) 112 [some (.ref (g.1 2)), some (.int v1), some (.int y5), some (.int v3)] [] M6 := by
        intro y5 M6 h
        rw [hJ4] at h
        refine A_iinc3 (d := 1) dX8_keepNormals_112 (by decide) (by decide) rfl ?_
        refine A_goto dX8_keepNormals_115 ?_
        exact A_le (lvLe_s (lvLe_s (lvLe_s (lvLe_s lvLe_0)))) (ih34 _ _ _ K34 h hK34)
      refine A_icmp_gt dX8_keepNormals_56 (fun hc => ?_) (fun hc => ?_)
      · have h := gT_go hc h
        exact A_le (lvLe_s (lvLe_s (lvLe_s (lvLe_s lvLe_0)))) (JJ4 _ _ h)
      · have h := gF_go hc h
        refine A_aload_n dX8_keepNormals_59 rfl ?_
        refine A_aload_n dX8_keepNormals_60 rfl ?_
        refine A_getf dX8_keepNormals_61 fw_X8_75 ob2 rfl ?_
        obtain ⟨J7, hJ7, h⟩ := jn_go h
        have JJ7 : ∀ (z8 : Int32), J7 z8 = some (r, Mr) → AT l g RX8 cX8_keepNormals 4 none (rmM 1 20) (PV r Mr) 80 [some (.ref (g.1 2)), some (.int v1), some (.int v2), some (.int v3)] [.int z8, .ref (g.1 2)] M := by
          intro z8 h
          rw [hJ7] at h
          refine A_putf dX8_keepNormals_80 pw_X8_78 ob2 pf2_14 (Nat.le_of_ble_eq_true rfl) (bM_go h (fun M9 h => ?_))
          refine A_aload_n dX8_keepNormals_83 rfl ?_
          refine A_aload_n dX8_keepNormals_84 rfl ?_
          refine A_getf dX8_keepNormals_85 fw_X8_30 ob2 rfl ?_
          refine A_iload_n dX8_keepNormals_88 rfl ?_
          obtain ⟨hg, h⟩ := gV_go h
          refine A_iald dX8_keepNormals_89 ia21 hg ?_
          refine A_putf dX8_keepNormals_90 pw_X8_81 ob2 pf2_15 (Nat.le_of_ble_eq_true rfl) (bM_go h (fun M10 h => ?_))
          refine A_iload_n dX8_keepNormals_93 rfl ?_
          refine A_aload_n dX8_keepNormals_94 rfl ?_
          refine A_getf dX8_keepNormals_95 fw_X8_30 ob2 rfl ?_
          refine A_iload_n dX8_keepNormals_98 rfl ?_
          obtain ⟨hg, h⟩ := gV_go h
          refine A_iald dX8_keepNormals_99 ia21 hg ?_
          refine A_iadd dX8_keepNormals_100 ?_
          refine A_istoren2 dX8_keepNormals_101 (by decide) rfl (bI_go h (G := fun z => AT l g RX8 cX8_keepNormals 4 none (rmM 1 20) (PV r Mr) 102 [some (.ref (g.1 2)), some (.int v1), some (.int z), some (.int v3)] [] M10) (fun x11 h => ?_))
          refine A_aload_n dX8_keepNormals_102 rfl ?_
          refine A_dup dX8_keepNormals_103 rfl ?_
          refine A_getf dX8_keepNormals_104 fw_X8_75 ob2 rfl ?_
          refine A_iconst (v := 1) dX8_keepNormals_107 (by decide) ?_
          refine A_iadd dX8_keepNormals_108 ?_
          refine A_putf dX8_keepNormals_109 pw_X8_75 ob2 pf2_11 (Nat.le_of_ble_eq_true rfl) (bM_go h (fun M12 h => ?_))
          exact A_le (lvLe_s (lvLe_s (lvLe_s (lvLe_s lvLe_0)))) (JJ4 _ _ h)
        refine A_if_ne dX8_keepNormals_64 (fun hc => ?_) (fun hc => ?_)
        · have h := gF_go hc h
          refine A_aload_n dX8_keepNormals_76 rfl ?_
          refine A_getf dX8_keepNormals_77 fw_X8_78 ob2 rfl ?_
          exact A_le (lvLe_s (lvLe_s (lvLe_s (lvLe_s lvLe_0)))) (JJ7 _ h)
        · have h := gT_go hc h
          refine A_aload_n dX8_keepNormals_67 rfl ?_
          refine A_getf dX8_keepNormals_68 fw_X8_30 ob2 rfl ?_
          refine A_iload_n dX8_keepNormals_71 rfl ?_
          obtain ⟨hg, h⟩ := gV_go h
          refine A_iald dX8_keepNormals_72 ia21 hg ?_
          refine A_goto dX8_keepNormals_73 ?_
          exact A_le (lvLe_s (lvLe_s (lvLe_s (lvLe_s lvLe_0)))) (JJ7 _ h)
def f_X8_keepNormals  (M : Mem) : Option Ret := jn (α := Int32 → Option Ret) (fun (z2 : Int32) => bM (up2 M 2 11 (0 : Int32)) (fun M3 => f_X8_keepNormals_L34 z2 FU (0 : Int32) (0 : Int32) M3 (fun w13 w14 M15 => jn (α := Int32 → Option Ret) (fun (z17 : Int32) => bM (up2 M15 2 12 z17) (fun M18 => some (0, M18))) (fun J16 => if (M15.1 2 11) = 0 then (J16 (0 : Int32)) else (gN (M15.1 2 11) (J16 (w13 / (M15.1 2 11)))))))) (fun J1 => if (M.1 2 10) = 0 then (J1 (0 : Int32)) else (gV (((M.1 2 10) - (1 : Int32)) / (2 : Int32)) 60 (J1 (M.1 21 (((M.1 2 10) - (1 : Int32)) / (2 : Int32)).toNatClampNeg))))
set_option maxRecDepth 100000 in
theorem ok_X8_keepNormals {l : Launch} {g : Cx}  {M : Mem} {r : Int32} {Mr : Mem} (h : f_X8_keepNormals  M = some (r, Mr)) : CT l g yX8_keepNormals cX8_keepNormals 4 none 1 20 [.ref (g.1 2)] M (PV r Mr) := by
  refine CT_of (lv := [some (.ref (g.1 2)), none, none, none]) (by decide) rfl (Nat.le_of_ble_eq_true rfl) ?_
  unfold f_X8_keepNormals at h
  refine A_aload_n dX8_keepNormals_0 rfl ?_
  refine A_getf dX8_keepNormals_1 fw_X8_72 ob2 rfl ?_
  obtain ⟨J1, hJ1, h⟩ := jn_go h
  have JJ1 : ∀ (z2 : Int32), J1 z2 = some (r, Mr) → AT l g RX8 cX8_keepNormals 4 none (rmM 1 20) (PV r Mr) 24 [some (.ref (g.1 2)), none, none, none] [.int z2] M := by
    intro z2 h
    rw [hJ1] at h
    refine A_istoren1 dX8_keepNormals_24 (by decide) rfl ?_
    refine A_iconst (v := 0) dX8_keepNormals_25 (by decide) ?_
    refine A_istoren2 dX8_keepNormals_26 (by decide) rfl ?_
    refine A_aload_n dX8_keepNormals_27 rfl ?_
    refine A_iconst (v := 0) dX8_keepNormals_28 (by decide) ?_
    refine A_putf dX8_keepNormals_29 pw_X8_75 ob2 pf2_11 (Nat.le_of_ble_eq_true rfl) (bM_go h (fun M3 h => ?_))
    refine A_iconst (v := 0) dX8_keepNormals_32 (by decide) ?_
    refine A_istoren3 dX8_keepNormals_33 (by decide) rfl ?_
    refine f_X8_keepNormals_L34_ok _ FU _ _ _ _ h (fun w13 w14 M15 h => ?_)
    refine A_aload_n dX8_keepNormals_118 rfl ?_
    refine A_aload_n dX8_keepNormals_119 rfl ?_
    refine A_getf dX8_keepNormals_120 fw_X8_75 ob2 rfl ?_
    obtain ⟨J16, hJ16, h⟩ := jn_go h
    have JJ16 : ∀ (z17 : Int32), J16 z17 = some (r, Mr) → AT l g RX8 cX8_keepNormals 4 none (rmM 1 20) (PV r Mr) 136 [some (.ref (g.1 2)), some (.int z2), some (.int w13), some (.int w14)] [.int z17, .ref (g.1 2)] M15 := by
      intro z17 h
      rw [hJ16] at h
      refine A_putf dX8_keepNormals_136 pw_X8_61 ob2 pf2_12 (Nat.le_of_ble_eq_true rfl) (bM_go h (fun M18 h => ?_))
      exact A_vret dX8_keepNormals_139 (pV_go h)
    refine A_if_ne dX8_keepNormals_123 (fun hc => ?_) (fun hc => ?_)
    · have h := gF_go hc h
      refine A_iload_n dX8_keepNormals_130 rfl ?_
      refine A_aload_n dX8_keepNormals_131 rfl ?_
      refine A_getf dX8_keepNormals_132 fw_X8_75 ob2 rfl ?_
      obtain ⟨hg, h⟩ := gN_go h
      refine A_idiv dX8_keepNormals_135 hg ?_
      exact A_le (lvLe_s (lvLe_s (lvLe_s (lvLe_s lvLe_0)))) (JJ16 _ h)
    · have h := gT_go hc h
      refine A_iconst (v := 0) dX8_keepNormals_126 (by decide) ?_
      refine A_goto dX8_keepNormals_127 ?_
      exact A_le (lvLe_s (lvLe_s (lvLe_s (lvLe_s lvLe_0)))) (JJ16 _ h)
  refine A_if_ne dX8_keepNormals_4 (fun hc => ?_) (fun hc => ?_)
  · have h := gF_go hc h
    refine A_aload_n dX8_keepNormals_11 rfl ?_
    refine A_getf dX8_keepNormals_12 fw_X8_30 ob2 rfl ?_
    refine A_aload_n dX8_keepNormals_15 rfl ?_
    refine A_getf dX8_keepNormals_16 fw_X8_72 ob2 rfl ?_
    refine A_iconst (v := 1) dX8_keepNormals_19 (by decide) ?_
    refine A_isub dX8_keepNormals_20 ?_
    refine A_iconst (v := 2) dX8_keepNormals_21 (by decide) ?_
    refine A_idiv dX8_keepNormals_22 (by decide) ?_
    obtain ⟨hg, h⟩ := gV_go h
    refine A_iald dX8_keepNormals_23 ia21 hg ?_
    exact A_le (lvLe_s (lvLe_n (lvLe_n (lvLe_n lvLe_0)))) (JJ1 _ h)
  · have h := gT_go hc h
    refine A_iconst (v := 0) dX8_keepNormals_7 (by decide) ?_
    refine A_goto dX8_keepNormals_8 ?_
    exact A_le (lvLe_s (lvLe_n (lvLe_n (lvLe_n lvLe_0)))) (JJ1 _ h)
-- BenchTimes$Watch.study
theorem dX8_study_0 : di cX8_study 0 (.aload_n 0) 1 1 := ⟨by decide +kernel, rfl⟩
theorem dX8_study_1 : di cX8_study 1 (.iload_n 1) 1 2 := ⟨by decide +kernel, rfl⟩
theorem dX8_study_2 : di cX8_study 2 (.invokevirtual 54) 3 5 := ⟨by decide +kernel, rfl⟩
theorem dX8_study_5 : di cX8_study 5 (.aload_n 0) 1 6 := ⟨by decide +kernel, rfl⟩
theorem dX8_study_6 : di cX8_study 6 (.invokevirtual 58) 3 9 := ⟨by decide +kernel, rfl⟩
theorem dX8_study_9 : di cX8_study 9 (.aload_n 0) 1 10 := ⟨by decide +kernel, rfl⟩
theorem dX8_study_10 : di cX8_study 10 (.getfield 61) 3 13 := ⟨by decide +kernel, rfl⟩
theorem dX8_study_13 : di cX8_study 13 (.bipush 100) 2 15 := ⟨by decide +kernel, rfl⟩
theorem dX8_study_15 : di cX8_study 15 (.aload_n 0) 1 16 := ⟨by decide +kernel, rfl⟩
theorem dX8_study_16 : di cX8_study 16 (.getfield 33) 3 19 := ⟨by decide +kernel, rfl⟩
theorem dX8_study_19 : di cX8_study 19 (.iload_n 1) 1 20 := ⟨by decide +kernel, rfl⟩
theorem dX8_study_20 : di cX8_study 20 (.invokevirtual 64) 3 23 := ⟨by decide +kernel, rfl⟩
theorem dX8_study_23 : di cX8_study 23 (.iadd) 1 24 := ⟨by decide +kernel, rfl⟩
theorem dX8_study_24 : di cX8_study 24 (.imul) 1 25 := ⟨by decide +kernel, rfl⟩
theorem dX8_study_25 : di cX8_study 25 (.istore_n 2) 1 26 := ⟨by decide +kernel, rfl⟩
theorem dX8_study_26 : di cX8_study 26 (.aload_n 0) 1 27 := ⟨by decide +kernel, rfl⟩
theorem dX8_study_27 : di cX8_study 27 (.iload_n 2) 1 28 := ⟨by decide +kernel, rfl⟩
theorem dX8_study_28 : di cX8_study 28 (.bipush 100) 2 30 := ⟨by decide +kernel, rfl⟩
theorem dX8_study_30 : di cX8_study 30 (.idiv) 1 31 := ⟨by decide +kernel, rfl⟩
theorem dX8_study_31 : di cX8_study 31 (.iload_n 2) 1 32 := ⟨by decide +kernel, rfl⟩
theorem dX8_study_32 : di cX8_study 32 (.bipush 100) 2 34 := ⟨by decide +kernel, rfl⟩
theorem dX8_study_34 : di cX8_study 34 (.irem) 1 35 := ⟨by decide +kernel, rfl⟩
theorem dX8_study_35 : dj cX8_study 35 (.ifCond .ne) 38 42 := ⟨7, by decide +kernel, rfl, rfl⟩
theorem dX8_study_38 : di cX8_study 38 (.iconst 0) 1 39 := ⟨by decide +kernel, rfl⟩
theorem dX8_study_39 : dj cX8_study 39 .goto 42 43 := ⟨4, by decide +kernel, rfl, rfl⟩
theorem dX8_study_42 : di cX8_study 42 (.iconst 1) 1 43 := ⟨by decide +kernel, rfl⟩
theorem dX8_study_43 : di cX8_study 43 (.iadd) 1 44 := ⟨by decide +kernel, rfl⟩
theorem dX8_study_44 : di cX8_study 44 (.putfield 69) 3 47 := ⟨by decide +kernel, rfl⟩
theorem dX8_study_47 : di cX8_study 47 (.return_) 1 48 := ⟨by decide +kernel, rfl⟩
def f_X8_study (v1 : Int32) (M : Mem) : Option Ret := bE (f_X8_gatherNormals v1 M) (fun r2 M1 => bE (f_X8_keepNormals M1) (fun r4 M3 => bE (f_X1_allowanceOf v1 M3) (fun r6 M5 => bI ((M3.1 2 12) * ((100 : Int32) + r6)) (fun x7 => jn (α := Int32 → Option Ret) (fun (z9 : Int32) => bM (up2 M5 2 13 ((x7 / (100 : Int32)) + z9)) (fun M10 => some (0, M10))) (fun J8 => if (x7 - x7 / (100 : Int32) * (100 : Int32)) = 0 then (J8 (0 : Int32)) else (J8 (1 : Int32)))))))
set_option maxRecDepth 100000 in
theorem ok_X8_study {l : Launch} {g : Cx} {v1 : Int32} {M : Mem} {r : Int32} {Mr : Mem} (h : f_X8_study v1 M = some (r, Mr)) : CT l g yX8_study cX8_study 3 none 3 65 [.ref (g.1 2), .int v1] M (PV r Mr) := by
  refine CT_of (lv := [some (.ref (g.1 2)), some (.int v1), none]) (by decide) rfl (Nat.le_of_ble_eq_true rfl) ?_
  unfold f_X8_study at h
  refine A_aload_n dX8_study_0 rfl ?_
  refine A_iload_n dX8_study_1 rfl ?_
  obtain ⟨r2, M1, h1, h⟩ := bE_go h
  refine A_cVv1 dX8_study_2 ml_X8_54 mb_X8_gatherNormals mi_X8_gatherNormals ob2 rfl rfl ⟨Nat.le_of_ble_eq_true rfl, Nat.le_of_ble_eq_true rfl⟩ (Nat.le_of_ble_eq_true rfl) (ok_X8_gatherNormals h1) ?_
  refine A_aload_n dX8_study_5 rfl ?_
  obtain ⟨r4, M3, h1, h⟩ := bE_go h
  refine A_cVv0 dX8_study_6 ml_X8_58 mb_X8_keepNormals mi_X8_keepNormals ob2 rfl rfl ⟨Nat.le_of_ble_eq_true rfl, Nat.le_of_ble_eq_true rfl⟩ (Nat.le_of_ble_eq_true rfl) (ok_X8_keepNormals h1) ?_
  refine A_aload_n dX8_study_9 rfl ?_
  refine A_getf dX8_study_10 fw_X8_61 ob2 rfl ?_
  refine A_bipush (v := 100) dX8_study_13 (by decide) ?_
  refine A_aload_n dX8_study_15 rfl ?_
  refine A_getf dX8_study_16 fw_X8_33 ob2 rfl ?_
  refine A_iload_n dX8_study_19 rfl ?_
  obtain ⟨r6, M5, h1, h⟩ := bE_go h
  refine A_cVi1 dX8_study_20 ml_X8_64 mb_X1_allowanceOf mi_X1_allowanceOf ob1 rfl rfl ⟨Nat.le_of_ble_eq_true rfl, Nat.le_of_ble_eq_true rfl⟩ (Nat.le_of_ble_eq_true rfl) (ok_X1_allowanceOf h1) ?_
  refine A_iadd dX8_study_23 ?_
  refine A_imul dX8_study_24 ?_
  refine A_istoren2 dX8_study_25 (by decide) rfl (bI_go h (G := fun z => AT l g RX8 cX8_study 3 none (rmM 3 65) (PV r Mr) 26 [some (.ref (g.1 2)), some (.int v1), some (.int z)] [] M5) (fun x7 h => ?_))
  refine A_aload_n dX8_study_26 rfl ?_
  refine A_iload_n dX8_study_27 rfl ?_
  refine A_bipush (v := 100) dX8_study_28 (by decide) ?_
  refine A_idiv dX8_study_30 (by decide) ?_
  refine A_iload_n dX8_study_31 rfl ?_
  refine A_bipush (v := 100) dX8_study_32 (by decide) ?_
  refine A_irem dX8_study_34 (by decide) ?_
  obtain ⟨J8, hJ8, h⟩ := jn_go h
  have JJ8 : ∀ (z9 : Int32), J8 z9 = some (r, Mr) → AT l g RX8 cX8_study 3 none (rmM 3 65) (PV r Mr) 43 [some (.ref (g.1 2)), some (.int v1), some (.int x7)] [.int z9, .int (x7 / (100 : Int32)), .ref (g.1 2)] M5 := by
    intro z9 h
    rw [hJ8] at h
    refine A_iadd dX8_study_43 ?_
    refine A_putf dX8_study_44 pw_X8_69 ob2 pf2_13 (Nat.le_of_ble_eq_true rfl) (bM_go h (fun M10 h => ?_))
    exact A_vret dX8_study_47 (pV_go h)
  refine A_if_ne dX8_study_35 (fun hc => ?_) (fun hc => ?_)
  · have h := gF_go hc h
    refine A_iconst (v := 1) dX8_study_42 (by decide) ?_
    exact A_le (lvLe_s (lvLe_s (lvLe_s lvLe_0))) (JJ8 _ h)
  · have h := gT_go hc h
    refine A_iconst (v := 0) dX8_study_38 (by decide) ?_
    refine A_goto dX8_study_39 ?_
    exact A_le (lvLe_s (lvLe_s (lvLe_s lvLe_0))) (JJ8 _ h)
-- BenchTimes$Watch.studied
theorem dX8_studied_0 : di cX8_studied 0 (.iload_n 1) 1 1 := ⟨by decide +kernel, rfl⟩
theorem dX8_studied_1 : dts cX8_studied 1 (1) (5) 61 [36, 41, 46, 51, 56] := ⟨60, #[35, 40, 45, 50, 55], 35, by decide +kernel, rfl, by decide +kernel⟩
theorem dX8_studied_36 : di cX8_studied 36 (.aload_n 0) 1 37 := ⟨by decide +kernel, rfl⟩
theorem dX8_studied_37 : di cX8_studied 37 (.getfield 72) 3 40 := ⟨by decide +kernel, rfl⟩
theorem dX8_studied_40 : di cX8_studied 40 (.ireturn) 1 41 := ⟨by decide +kernel, rfl⟩
theorem dX8_studied_41 : di cX8_studied 41 (.aload_n 0) 1 42 := ⟨by decide +kernel, rfl⟩
theorem dX8_studied_42 : di cX8_studied 42 (.getfield 75) 3 45 := ⟨by decide +kernel, rfl⟩
theorem dX8_studied_45 : di cX8_studied 45 (.ireturn) 1 46 := ⟨by decide +kernel, rfl⟩
theorem dX8_studied_46 : di cX8_studied 46 (.aload_n 0) 1 47 := ⟨by decide +kernel, rfl⟩
theorem dX8_studied_47 : di cX8_studied 47 (.getfield 61) 3 50 := ⟨by decide +kernel, rfl⟩
theorem dX8_studied_50 : di cX8_studied 50 (.ireturn) 1 51 := ⟨by decide +kernel, rfl⟩
theorem dX8_studied_51 : di cX8_studied 51 (.aload_n 0) 1 52 := ⟨by decide +kernel, rfl⟩
theorem dX8_studied_52 : di cX8_studied 52 (.getfield 69) 3 55 := ⟨by decide +kernel, rfl⟩
theorem dX8_studied_55 : di cX8_studied 55 (.ireturn) 1 56 := ⟨by decide +kernel, rfl⟩
theorem dX8_studied_56 : di cX8_studied 56 (.aload_n 0) 1 57 := ⟨by decide +kernel, rfl⟩
theorem dX8_studied_57 : di cX8_studied 57 (.getfield 78) 3 60 := ⟨by decide +kernel, rfl⟩
theorem dX8_studied_60 : di cX8_studied 60 (.ireturn) 1 61 := ⟨by decide +kernel, rfl⟩
theorem dX8_studied_61 : di cX8_studied 61 (.aload_n 0) 1 62 := ⟨by decide +kernel, rfl⟩
theorem dX8_studied_62 : di cX8_studied 62 (.getfield 81) 3 65 := ⟨by decide +kernel, rfl⟩
theorem dX8_studied_65 : di cX8_studied 65 (.ireturn) 1 66 := ⟨by decide +kernel, rfl⟩
def f_X8_studied (v1 : Int32) (M : Mem) : Option Ret := if v1 = (1 : Int32) then (some (M.1 2 10, M)) else (if v1 = (2 : Int32) then (some (M.1 2 11, M)) else (if v1 = (3 : Int32) then (some (M.1 2 12, M)) else (if v1 = (4 : Int32) then (some (M.1 2 13, M)) else (if v1 = (5 : Int32) then (some (M.1 2 14, M)) else (some (M.1 2 15, M))))))
set_option maxRecDepth 100000 in
theorem ok_X8_studied {l : Launch} {g : Cx} {v1 : Int32} {M : Mem} {r : Int32} {Mr : Mem} (h : f_X8_studied v1 M = some (r, Mr)) : CT l g yX8_studied cX8_studied 2 (some .int) 0 0 [.ref (g.1 2), .int v1] M (PI r Mr) := by
  refine CT_of (lv := [some (.ref (g.1 2)), some (.int v1)]) (by decide) rfl (Nat.le_of_ble_eq_true rfl) ?_
  unfold f_X8_studied at h
  refine A_iload_n dX8_studied_0 rfl ?_
  by_cases hc0 : v1 = (1 : Int32)
  · have h := gT_go hc0 h
    refine A_tsIn (k0 := 0) dX8_studied_1 (by rw [hc0]; decide) rfl ?_
    refine A_aload_n dX8_studied_36 rfl ?_
    refine A_getf dX8_studied_37 fw_X8_72 ob2 rfl ?_
    exact A_iret dX8_studied_40 (pI_go h)
  have h := gF_go hc0 h
  by_cases hc1 : v1 = (2 : Int32)
  · have h := gT_go hc1 h
    refine A_tsIn (k0 := 1) dX8_studied_1 (by rw [hc1]; decide) rfl ?_
    refine A_aload_n dX8_studied_41 rfl ?_
    refine A_getf dX8_studied_42 fw_X8_75 ob2 rfl ?_
    exact A_iret dX8_studied_45 (pI_go h)
  have h := gF_go hc1 h
  by_cases hc2 : v1 = (3 : Int32)
  · have h := gT_go hc2 h
    refine A_tsIn (k0 := 2) dX8_studied_1 (by rw [hc2]; decide) rfl ?_
    refine A_aload_n dX8_studied_46 rfl ?_
    refine A_getf dX8_studied_47 fw_X8_61 ob2 rfl ?_
    exact A_iret dX8_studied_50 (pI_go h)
  have h := gF_go hc2 h
  by_cases hc3 : v1 = (4 : Int32)
  · have h := gT_go hc3 h
    refine A_tsIn (k0 := 3) dX8_studied_1 (by rw [hc3]; decide) rfl ?_
    refine A_aload_n dX8_studied_51 rfl ?_
    refine A_getf dX8_studied_52 fw_X8_69 ob2 rfl ?_
    exact A_iret dX8_studied_55 (pI_go h)
  have h := gF_go hc3 h
  by_cases hc4 : v1 = (5 : Int32)
  · have h := gT_go hc4 h
    refine A_tsIn (k0 := 4) dX8_studied_1 (by rw [hc4]; decide) rfl ?_
    refine A_aload_n dX8_studied_56 rfl ?_
    refine A_getf dX8_studied_57 fw_X8_78 ob2 rfl ?_
    exact A_iret dX8_studied_60 (pI_go h)
  have h := gF_go hc4 h
  refine A_tsOut dX8_studied_1 (tsw_out (fun k h1 h2 => ?_)) ?_
  · rcases (show k = 1 ∨ k = 2 ∨ k = 3 ∨ k = 4 ∨ k = 5 by omega) with rfl | rfl | rfl | rfl | rfl
    · exact hc0
    · exact hc1
    · exact hc2
    · exact hc3
    · exact hc4
  · refine A_aload_n dX8_studied_61 rfl ?_
    refine A_getf dX8_studied_62 fw_X8_81 ob2 rfl ?_
    exact A_iret dX8_studied_65 (pI_go h)
-- BenchTimes$Rates.make
theorem dX4_make_0 : di cX4_make 0 (.aload_n 0) 1 1 := ⟨by decide +kernel, rfl⟩
theorem dX4_make_1 : di cX4_make 1 (.iload_n 1) 1 2 := ⟨by decide +kernel, rfl⟩
theorem dX4_make_2 : di cX4_make 2 (.invokevirtual 62) 3 5 := ⟨by decide +kernel, rfl⟩
theorem dX4_make_5 : di cX4_make 5 (.istore_n 3) 1 6 := ⟨by decide +kernel, rfl⟩
theorem dX4_make_6 : di cX4_make 6 (.iconst 0) 1 7 := ⟨by decide +kernel, rfl⟩
theorem dX4_make_7 : di cX4_make 7 (.istore 4) 2 9 := ⟨by decide +kernel, rfl⟩
theorem dX4_make_9 : di cX4_make 9 (.iconst 0) 1 10 := ⟨by decide +kernel, rfl⟩
theorem dX4_make_10 : di cX4_make 10 (.istore 5) 2 12 := ⟨by decide +kernel, rfl⟩
theorem dX4_make_12 : di cX4_make 12 (.iload 5) 2 14 := ⟨by decide +kernel, rfl⟩
theorem dX4_make_14 : di cX4_make 14 (.aload_n 0) 1 15 := ⟨by decide +kernel, rfl⟩
theorem dX4_make_15 : di cX4_make 15 (.getfield 26) 3 18 := ⟨by decide +kernel, rfl⟩
theorem dX4_make_18 : di cX4_make 18 (.iload_n 1) 1 19 := ⟨by decide +kernel, rfl⟩
theorem dX4_make_19 : di cX4_make 19 (.invokevirtual 38) 3 22 := ⟨by decide +kernel, rfl⟩
theorem dX4_make_22 : dj cX4_make 22 (.if_icmp .ge) 25 123 := ⟨101, by decide +kernel, rfl, rfl⟩
theorem dX4_make_25 : di cX4_make 25 (.iload_n 3) 1 26 := ⟨by decide +kernel, rfl⟩
theorem dX4_make_26 : di cX4_make 26 (.iconst (-1)) 1 27 := ⟨by decide +kernel, rfl⟩
theorem dX4_make_27 : dj cX4_make 27 (.if_icmp .eq) 30 43 := ⟨16, by decide +kernel, rfl, rfl⟩
theorem dX4_make_30 : di cX4_make 30 (.aload_n 0) 1 31 := ⟨by decide +kernel, rfl⟩
theorem dX4_make_31 : di cX4_make 31 (.getfield 26) 3 34 := ⟨by decide +kernel, rfl⟩
theorem dX4_make_34 : di cX4_make 34 (.iload_n 1) 1 35 := ⟨by decide +kernel, rfl⟩
theorem dX4_make_35 : di cX4_make 35 (.iload 5) 2 37 := ⟨by decide +kernel, rfl⟩
theorem dX4_make_37 : di cX4_make 37 (.invokevirtual 42) 3 40 := ⟨by decide +kernel, rfl⟩
theorem dX4_make_40 : dj cX4_make 40 (.ifCond .eq) 43 73 := ⟨33, by decide +kernel, rfl, rfl⟩
theorem dX4_make_43 : di cX4_make 43 (.aload_n 0) 1 44 := ⟨by decide +kernel, rfl⟩
theorem dX4_make_44 : di cX4_make 44 (.getfield 30) 3 47 := ⟨by decide +kernel, rfl⟩
theorem dX4_make_47 : di cX4_make 47 (.aload_n 0) 1 48 := ⟨by decide +kernel, rfl⟩
theorem dX4_make_48 : di cX4_make 48 (.getfield 26) 3 51 := ⟨by decide +kernel, rfl⟩
theorem dX4_make_51 : di cX4_make 51 (.iload_n 1) 1 52 := ⟨by decide +kernel, rfl⟩
theorem dX4_make_52 : di cX4_make 52 (.iload 5) 2 54 := ⟨by decide +kernel, rfl⟩
theorem dX4_make_54 : di cX4_make 54 (.invokevirtual 53) 3 57 := ⟨by decide +kernel, rfl⟩
theorem dX4_make_57 : di cX4_make 57 (.invokevirtual 65) 3 60 := ⟨by decide +kernel, rfl⟩
theorem dX4_make_60 : di cX4_make 60 (.aload_n 0) 1 61 := ⟨by decide +kernel, rfl⟩
theorem dX4_make_61 : di cX4_make 61 (.getfield 30) 3 64 := ⟨by decide +kernel, rfl⟩
theorem dX4_make_64 : di cX4_make 64 (.iconst 4) 1 65 := ⟨by decide +kernel, rfl⟩
theorem dX4_make_65 : di cX4_make 65 (.invokevirtual 69) 3 68 := ⟨by decide +kernel, rfl⟩
theorem dX4_make_68 : di cX4_make 68 (.istore 6) 2 70 := ⟨by decide +kernel, rfl⟩
theorem dX4_make_70 : dj cX4_make 70 .goto 73 82 := ⟨12, by decide +kernel, rfl, rfl⟩
theorem dX4_make_73 : di cX4_make 73 (.aload_n 0) 1 74 := ⟨by decide +kernel, rfl⟩
theorem dX4_make_74 : di cX4_make 74 (.iload_n 3) 1 75 := ⟨by decide +kernel, rfl⟩
theorem dX4_make_75 : di cX4_make 75 (.iload 5) 2 77 := ⟨by decide +kernel, rfl⟩
theorem dX4_make_77 : di cX4_make 77 (.invokevirtual 46) 3 80 := ⟨by decide +kernel, rfl⟩
theorem dX4_make_80 : di cX4_make 80 (.istore 6) 2 82 := ⟨by decide +kernel, rfl⟩
theorem dX4_make_82 : di cX4_make 82 (.aload_n 0) 1 83 := ⟨by decide +kernel, rfl⟩
theorem dX4_make_83 : di cX4_make 83 (.getfield 23) 3 86 := ⟨by decide +kernel, rfl⟩
theorem dX4_make_86 : di cX4_make 86 (.aload_n 0) 1 87 := ⟨by decide +kernel, rfl⟩
theorem dX4_make_87 : di cX4_make 87 (.getfield 34) 3 90 := ⟨by decide +kernel, rfl⟩
theorem dX4_make_90 : di cX4_make 90 (.bipush 6) 2 92 := ⟨by decide +kernel, rfl⟩
theorem dX4_make_92 : di cX4_make 92 (.imul) 1 93 := ⟨by decide +kernel, rfl⟩
theorem dX4_make_93 : di cX4_make 93 (.iload 5) 2 95 := ⟨by decide +kernel, rfl⟩
theorem dX4_make_95 : di cX4_make 95 (.iadd) 1 96 := ⟨by decide +kernel, rfl⟩
theorem dX4_make_96 : di cX4_make 96 (.iload 6) 2 98 := ⟨by decide +kernel, rfl⟩
theorem dX4_make_98 : di cX4_make 98 (.iastore) 1 99 := ⟨by decide +kernel, rfl⟩
theorem dX4_make_99 : di cX4_make 99 (.iload 4) 2 101 := ⟨by decide +kernel, rfl⟩
theorem dX4_make_101 : di cX4_make 101 (.iload 6) 2 103 := ⟨by decide +kernel, rfl⟩
theorem dX4_make_103 : di cX4_make 103 (.aload_n 0) 1 104 := ⟨by decide +kernel, rfl⟩
theorem dX4_make_104 : di cX4_make 104 (.getfield 26) 3 107 := ⟨by decide +kernel, rfl⟩
theorem dX4_make_107 : di cX4_make 107 (.iload_n 1) 1 108 := ⟨by decide +kernel, rfl⟩
theorem dX4_make_108 : di cX4_make 108 (.iload 5) 2 110 := ⟨by decide +kernel, rfl⟩
theorem dX4_make_110 : di cX4_make 110 (.invokevirtual 50) 3 113 := ⟨by decide +kernel, rfl⟩
theorem dX4_make_113 : di cX4_make 113 (.imul) 1 114 := ⟨by decide +kernel, rfl⟩
theorem dX4_make_114 : di cX4_make 114 (.iadd) 1 115 := ⟨by decide +kernel, rfl⟩
theorem dX4_make_115 : di cX4_make 115 (.istore 4) 2 117 := ⟨by decide +kernel, rfl⟩
theorem dX4_make_117 : di cX4_make 117 (.iinc 5 1) 3 120 := ⟨by decide +kernel, rfl⟩
theorem dX4_make_120 : dj cX4_make 120 .goto 123 12 := ⟨-108, by decide +kernel, rfl, rfl⟩
theorem dX4_make_123 : di cX4_make 123 (.aload_n 0) 1 124 := ⟨by decide +kernel, rfl⟩
theorem dX4_make_124 : di cX4_make 124 (.getfield 26) 3 127 := ⟨by decide +kernel, rfl⟩
theorem dX4_make_127 : di cX4_make 127 (.iload_n 1) 1 128 := ⟨by decide +kernel, rfl⟩
theorem dX4_make_128 : di cX4_make 128 (.invokevirtual 72) 3 131 := ⟨by decide +kernel, rfl⟩
theorem dX4_make_131 : di cX4_make 131 (.aload_n 0) 1 132 := ⟨by decide +kernel, rfl⟩
theorem dX4_make_132 : di cX4_make 132 (.getfield 11) 3 135 := ⟨by decide +kernel, rfl⟩
theorem dX4_make_135 : di cX4_make 135 (.aload_n 0) 1 136 := ⟨by decide +kernel, rfl⟩
theorem dX4_make_136 : di cX4_make 136 (.getfield 34) 3 139 := ⟨by decide +kernel, rfl⟩
theorem dX4_make_139 : di cX4_make 139 (.iload_n 1) 1 140 := ⟨by decide +kernel, rfl⟩
theorem dX4_make_140 : di cX4_make 140 (.iastore) 1 141 := ⟨by decide +kernel, rfl⟩
theorem dX4_make_141 : di cX4_make 141 (.aload_n 0) 1 142 := ⟨by decide +kernel, rfl⟩
theorem dX4_make_142 : di cX4_make 142 (.getfield 15) 3 145 := ⟨by decide +kernel, rfl⟩
theorem dX4_make_145 : di cX4_make 145 (.aload_n 0) 1 146 := ⟨by decide +kernel, rfl⟩
theorem dX4_make_146 : di cX4_make 146 (.getfield 34) 3 149 := ⟨by decide +kernel, rfl⟩
theorem dX4_make_149 : di cX4_make 149 (.iload_n 2) 1 150 := ⟨by decide +kernel, rfl⟩
theorem dX4_make_150 : di cX4_make 150 (.iastore) 1 151 := ⟨by decide +kernel, rfl⟩
theorem dX4_make_151 : di cX4_make 151 (.aload_n 0) 1 152 := ⟨by decide +kernel, rfl⟩
theorem dX4_make_152 : di cX4_make 152 (.getfield 18) 3 155 := ⟨by decide +kernel, rfl⟩
theorem dX4_make_155 : di cX4_make 155 (.aload_n 0) 1 156 := ⟨by decide +kernel, rfl⟩
theorem dX4_make_156 : di cX4_make 156 (.getfield 34) 3 159 := ⟨by decide +kernel, rfl⟩
theorem dX4_make_159 : di cX4_make 159 (.iload 4) 2 161 := ⟨by decide +kernel, rfl⟩
theorem dX4_make_161 : di cX4_make 161 (.iastore) 1 162 := ⟨by decide +kernel, rfl⟩
theorem dX4_make_162 : di cX4_make 162 (.aload_n 0) 1 163 := ⟨by decide +kernel, rfl⟩
theorem dX4_make_163 : di cX4_make 163 (.dup) 1 164 := ⟨by decide +kernel, rfl⟩
theorem dX4_make_164 : di cX4_make 164 (.getfield 34) 3 167 := ⟨by decide +kernel, rfl⟩
theorem dX4_make_167 : di cX4_make 167 (.iconst 1) 1 168 := ⟨by decide +kernel, rfl⟩
theorem dX4_make_168 : di cX4_make 168 (.iadd) 1 169 := ⟨by decide +kernel, rfl⟩
theorem dX4_make_169 : di cX4_make 169 (.putfield 34) 3 172 := ⟨by decide +kernel, rfl⟩
theorem dX4_make_172 : di cX4_make 172 (.iload 4) 2 174 := ⟨by decide +kernel, rfl⟩
theorem dX4_make_174 : di cX4_make 174 (.ireturn) 1 175 := ⟨by decide +kernel, rfl⟩
def f_X4_make_L12 (v1 : Int32) (v2 : Int32) (v3 : Int32) : Nat → Int32 → Int32 → Mem → (Int32 → Int32 → Mem → Option Ret) → Option Ret
  | 0, _, _, _, _ => none
  | k12 + 1, v4, v5, M, K12 => bE (f_X2_partMany v1 M) (fun r4 M3 => if r4 ≤ v5 then (K12 v4 v5 M3) else (jn (α := Int32 → Mem → Option Ret) (fun (y6 : Int32) (M7 : Mem) => gV (((M7.1 4 6) * (6 : Int32)) + v5) 240 (bM (up2 M7 29 (((M7.1 4 6) * (6 : Int32)) + v5).toNatClampNeg y6) (fun M8 => bE (f_X2_oftenAt v1 v5 M8) (fun r10 M9 => bI (v4 + (y6 * r10)) (fun x11 => f_X4_make_L12 v1 v2 v3 k12 x11 (v5 + (1 : Int32)) M9 K12))))) (fun J5 => if v3 = (-1 : Int32) then (bE (f_X2_elementAt v1 v5 M3) (fun r13 M12 => bE (f_X8_study r13 M12) (fun r15 M14 => bE (f_X8_studied (4 : Int32) M14) (fun r17 M16 => J5 r17 M16)))) else (bE (f_X2_isMarked v1 v5 M3) (fun r19 M18 => if r19 = 0 then (bE (f_X4_worthOf v3 v5 M18) (fun r21 M20 => J5 r21 M20)) else (bE (f_X2_elementAt v1 v5 M18) (fun r23 M22 => bE (f_X8_study r23 M22) (fun r25 M24 => bE (f_X8_studied (4 : Int32) M24) (fun r27 M26 => J5 r27 M26)))))))))
set_option maxRecDepth 100000 in
theorem f_X4_make_L12_ok {l : Launch} {g : Cx} (v1 : Int32) (v2 : Int32) (v3 : Int32)  {r : Int32} {Mr : Mem} : ∀ (k : Nat) (v4 : Int32) (v5 : Int32) (M : Mem) (K12 : Int32 → Int32 → Mem → Option Ret), f_X4_make_L12 v1 v2 v3 k v4 v5 M K12 = some (r, Mr) → (∀ (v4 : Int32) (v5 : Int32) (M : Mem), K12 v4 v5 M = some (r, Mr) → AT l g RX4 cX4_make 7 (some .int) (rmM 4 87) (PI r Mr) 123 [some (.ref (g.1 4)), some (.int v1), some (.int v2), some (.int v3), some (.int v4), some (.int v5), none] [] M) → AT l g RX4 cX4_make 7 (some .int) (rmM 4 87) (PI r Mr) 12 [some (.ref (g.1 4)), some (.int v1), some (.int v2), some (.int v3), some (.int v4), some (.int v5), none] [] M
  | 0, v4, v5, M, K12, h, hK12 => by cases h
  | k12 + 1, v4, v5, M, K12, h, hK12 => by
    have ih12 := f_X4_make_L12_ok (l := l) (g := g) v1 v2 v3 (r := r) (Mr := Mr) k12
    rw [f_X4_make_L12] at h
    refine A_iload dX4_make_12 rfl ?_
    refine A_aload_n dX4_make_14 rfl ?_
    refine A_getf dX4_make_15 fw_X4_26 ob4 rfl ?_
    refine A_iload_n dX4_make_18 rfl ?_
    obtain ⟨r4, M3, h1, h⟩ := bE_go h
    refine A_cVi1 dX4_make_19 ml_X4_38 mb_X2_partMany mi_X2_partMany ob3 rfl rfl ⟨Nat.le_of_ble_eq_true rfl, Nat.le_of_ble_eq_true rfl⟩ (Nat.le_of_ble_eq_true rfl) (ok_X2_partMany h1) ?_
    refine A_icmp_ge dX4_make_22 (fun hc => ?_) (fun hc => ?_)
    · have h := gT_go hc h
      exact A_le (lvLe_s (lvLe_s (lvLe_s (lvLe_s (lvLe_s (lvLe_s (lvLe_n lvLe_0))))))) (hK12 _ _ _ h)
    · have h := gF_go hc h
      refine A_iload_n dX4_make_25 rfl ?_
      refine A_iconst (v := -1) dX4_make_26 (by decide) ?_
      obtain ⟨J5, hJ5, h⟩ := jn_go h
      have JJ5 : ∀ (y6 : Int32) (M7 : Mem), J5 y6 M7 = some (r, Mr) → AT l g RX4 cX4_make 7 (some .int) (rmM 4 87) (PI r Mr) 82 [some (.ref (g.1 4)), some (.int v1), some (.int v2), some (.int v3), some (.int v4), some (.int v5), some (.int y6)] [] M7 := by
        intro y6 M7 h
        rw [hJ5] at h
        refine A_aload_n dX4_make_82 rfl ?_
        refine A_getf dX4_make_83 fw_X4_23 ob4 rfl ?_
        refine A_aload_n dX4_make_86 rfl ?_
        refine A_getf dX4_make_87 fw_X4_34 ob4 rfl ?_
        refine A_bipush (v := 6) dX4_make_90 (by decide) ?_
        refine A_imul dX4_make_92 ?_
        refine A_iload dX4_make_93 rfl ?_
        refine A_iadd dX4_make_95 ?_
        refine A_iload dX4_make_96 rfl ?_
        obtain ⟨hg, h⟩ := gV_go h
        refine A_iast dX4_make_98 ia29 hg (bM_go h (fun M8 h => ?_))
        refine A_iload dX4_make_99 rfl ?_
        refine A_iload dX4_make_101 rfl ?_
        refine A_aload_n dX4_make_103 rfl ?_
        refine A_getf dX4_make_104 fw_X4_26 ob4 rfl ?_
        refine A_iload_n dX4_make_107 rfl ?_
        refine A_iload dX4_make_108 rfl ?_
        obtain ⟨r10, M9, h1, h⟩ := bE_go h
        refine A_cVi2 dX4_make_110 ml_X4_50 mb_X2_oftenAt mi_X2_oftenAt ob3 rfl rfl ⟨Nat.le_of_ble_eq_true rfl, Nat.le_of_ble_eq_true rfl⟩ (Nat.le_of_ble_eq_true rfl) (ok_X2_oftenAt h1) ?_
        refine A_imul dX4_make_113 ?_
        refine A_iadd dX4_make_114 ?_
        refine A_istore4 dX4_make_115 (by decide) rfl (bI_go h (G := fun z => AT l g RX4 cX4_make 7 (some .int) (rmM 4 87) (PI r Mr) 117 [some (.ref (g.1 4)), some (.int v1), some (.int v2), some (.int v3), some (.int z), some (.int v5), some (.int y6)] [] M9) (fun x11 h => ?_))
        refine A_iinc5 (d := 1) dX4_make_117 (by decide) (by decide) rfl ?_
        refine A_goto dX4_make_120 ?_
        exact A_le (lvLe_s (lvLe_s (lvLe_s (lvLe_s (lvLe_s (lvLe_s (lvLe_n lvLe_0))))))) (ih12 _ _ _ K12 h hK12)
      refine A_icmp_eq dX4_make_27 (fun hc => ?_) (fun hc => ?_)
      · have h := gT_go hc h
        refine A_aload_n dX4_make_43 rfl ?_
        refine A_getf dX4_make_44 fw_X4_30 ob4 rfl ?_
        refine A_aload_n dX4_make_47 rfl ?_
        refine A_getf dX4_make_48 fw_X4_26 ob4 rfl ?_
        refine A_iload_n dX4_make_51 rfl ?_
        refine A_iload dX4_make_52 rfl ?_
        obtain ⟨r13, M12, h1, h⟩ := bE_go h
        refine A_cVi2 dX4_make_54 ml_X4_53 mb_X2_elementAt mi_X2_elementAt ob3 rfl rfl ⟨Nat.le_of_ble_eq_true rfl, Nat.le_of_ble_eq_true rfl⟩ (Nat.le_of_ble_eq_true rfl) (ok_X2_elementAt h1) ?_
        obtain ⟨r15, M14, h1, h⟩ := bE_go h
        refine A_cVv1 dX4_make_57 ml_X4_65 mb_X8_study mi_X8_study ob2 rfl rfl ⟨Nat.le_of_ble_eq_true rfl, Nat.le_of_ble_eq_true rfl⟩ (Nat.le_of_ble_eq_true rfl) (ok_X8_study h1) ?_
        refine A_aload_n dX4_make_60 rfl ?_
        refine A_getf dX4_make_61 fw_X4_30 ob4 rfl ?_
        refine A_iconst (v := 4) dX4_make_64 (by decide) ?_
        obtain ⟨r17, M16, h1, h⟩ := bE_go h
        refine A_cVi1 dX4_make_65 ml_X4_69 mb_X8_studied mi_X8_studied ob2 rfl rfl ⟨Nat.le_of_ble_eq_true rfl, Nat.le_of_ble_eq_true rfl⟩ (Nat.le_of_ble_eq_true rfl) (ok_X8_studied h1) ?_
        refine A_istore6 dX4_make_68 (by decide) rfl ?_
        refine A_goto dX4_make_70 ?_
        exact A_le (lvLe_s (lvLe_s (lvLe_s (lvLe_s (lvLe_s (lvLe_s (lvLe_s lvLe_0))))))) (JJ5 _ _ h)
      · have h := gF_go hc h
        refine A_aload_n dX4_make_30 rfl ?_
        refine A_getf dX4_make_31 fw_X4_26 ob4 rfl ?_
        refine A_iload_n dX4_make_34 rfl ?_
        refine A_iload dX4_make_35 rfl ?_
        obtain ⟨r19, M18, h1, h⟩ := bE_go h
        refine A_cVi2 dX4_make_37 ml_X4_42 mb_X2_isMarked mi_X2_isMarked ob3 rfl rfl ⟨Nat.le_of_ble_eq_true rfl, Nat.le_of_ble_eq_true rfl⟩ (Nat.le_of_ble_eq_true rfl) (ok_X2_isMarked h1) ?_
        refine A_if_eq dX4_make_40 (fun hc => ?_) (fun hc => ?_)
        · have h := gT_go hc h
          refine A_aload_n dX4_make_73 rfl ?_
          refine A_iload_n dX4_make_74 rfl ?_
          refine A_iload dX4_make_75 rfl ?_
          obtain ⟨r21, M20, h1, h⟩ := bE_go h
          refine A_cVi2 dX4_make_77 ml_X4_46 mb_X4_worthOf mi_X4_worthOf ob4 rfl rfl ⟨Nat.le_of_ble_eq_true rfl, Nat.le_of_ble_eq_true rfl⟩ (Nat.le_of_ble_eq_true rfl) (ok_X4_worthOf h1) ?_
          refine A_istore6 dX4_make_80 (by decide) rfl ?_
          exact A_le (lvLe_s (lvLe_s (lvLe_s (lvLe_s (lvLe_s (lvLe_s (lvLe_s lvLe_0))))))) (JJ5 _ _ h)
        · have h := gF_go hc h
          refine A_aload_n dX4_make_43 rfl ?_
          refine A_getf dX4_make_44 fw_X4_30 ob4 rfl ?_
          refine A_aload_n dX4_make_47 rfl ?_
          refine A_getf dX4_make_48 fw_X4_26 ob4 rfl ?_
          refine A_iload_n dX4_make_51 rfl ?_
          refine A_iload dX4_make_52 rfl ?_
          obtain ⟨r23, M22, h1, h⟩ := bE_go h
          refine A_cVi2 dX4_make_54 ml_X4_53 mb_X2_elementAt mi_X2_elementAt ob3 rfl rfl ⟨Nat.le_of_ble_eq_true rfl, Nat.le_of_ble_eq_true rfl⟩ (Nat.le_of_ble_eq_true rfl) (ok_X2_elementAt h1) ?_
          obtain ⟨r25, M24, h1, h⟩ := bE_go h
          refine A_cVv1 dX4_make_57 ml_X4_65 mb_X8_study mi_X8_study ob2 rfl rfl ⟨Nat.le_of_ble_eq_true rfl, Nat.le_of_ble_eq_true rfl⟩ (Nat.le_of_ble_eq_true rfl) (ok_X8_study h1) ?_
          refine A_aload_n dX4_make_60 rfl ?_
          refine A_getf dX4_make_61 fw_X4_30 ob4 rfl ?_
          refine A_iconst (v := 4) dX4_make_64 (by decide) ?_
          obtain ⟨r27, M26, h1, h⟩ := bE_go h
          refine A_cVi1 dX4_make_65 ml_X4_69 mb_X8_studied mi_X8_studied ob2 rfl rfl ⟨Nat.le_of_ble_eq_true rfl, Nat.le_of_ble_eq_true rfl⟩ (Nat.le_of_ble_eq_true rfl) (ok_X8_studied h1) ?_
          refine A_istore6 dX4_make_68 (by decide) rfl ?_
          refine A_goto dX4_make_70 ?_
          exact A_le (lvLe_s (lvLe_s (lvLe_s (lvLe_s (lvLe_s (lvLe_s (lvLe_s lvLe_0))))))) (JJ5 _ _ h)
def f_X4_make (v1 : Int32) (v2 : Int32) (M : Mem) : Option Ret := bE (f_X4_latestOf v1 M) (fun r2 M1 => f_X4_make_L12 v1 v2 r2 FU (0 : Int32) (0 : Int32) M1 (fun w28 w29 M30 => bE (f_X2_clearMarks v1 M30) (fun r32 M31 => gV (M31.1 4 6) 40 (bM (up2 M31 26 (M31.1 4 6).toNatClampNeg v1) (fun M33 => gV (M33.1 4 6) 40 (bM (up2 M33 27 (M33.1 4 6).toNatClampNeg v2) (fun M34 => gV (M34.1 4 6) 40 (bM (up2 M34 28 (M34.1 4 6).toNatClampNeg w28) (fun M35 => bM (up2 M35 4 6 ((M35.1 4 6) + (1 : Int32))) (fun M36 => some (w28, M36)))))))))))
set_option maxRecDepth 100000 in
theorem ok_X4_make {l : Launch} {g : Cx} {v1 : Int32} {v2 : Int32} {M : Mem} {r : Int32} {Mr : Mem} (h : f_X4_make v1 v2 M = some (r, Mr)) : CT l g yX4_make cX4_make 7 (some .int) 4 87 [.ref (g.1 4), .int v1, .int v2] M (PI r Mr) := by
  refine CT_of (lv := [some (.ref (g.1 4)), some (.int v1), some (.int v2), none, none, none, none]) (by decide) rfl (Nat.le_of_ble_eq_true rfl) ?_
  unfold f_X4_make at h
  refine A_aload_n dX4_make_0 rfl ?_
  refine A_iload_n dX4_make_1 rfl ?_
  obtain ⟨r2, M1, h1, h⟩ := bE_go h
  refine A_cVi1 dX4_make_2 ml_X4_62 mb_X4_latestOf mi_X4_latestOf ob4 rfl rfl ⟨Nat.le_of_ble_eq_true rfl, Nat.le_of_ble_eq_true rfl⟩ (Nat.le_of_ble_eq_true rfl) (ok_X4_latestOf h1) ?_
  refine A_istoren3 dX4_make_5 (by decide) rfl ?_
  refine A_iconst (v := 0) dX4_make_6 (by decide) ?_
  refine A_istore4 dX4_make_7 (by decide) rfl ?_
  refine A_iconst (v := 0) dX4_make_9 (by decide) ?_
  refine A_istore5 dX4_make_10 (by decide) rfl ?_
  refine f_X4_make_L12_ok _ _ _ FU _ _ _ _ h (fun w28 w29 M30 h => ?_)
  refine A_aload_n dX4_make_123 rfl ?_
  refine A_getf dX4_make_124 fw_X4_26 ob4 rfl ?_
  refine A_iload_n dX4_make_127 rfl ?_
  obtain ⟨r32, M31, h1, h⟩ := bE_go h
  refine A_cVv1 dX4_make_128 ml_X4_72 mb_X2_clearMarks mi_X2_clearMarks ob3 rfl rfl ⟨Nat.le_of_ble_eq_true rfl, Nat.le_of_ble_eq_true rfl⟩ (Nat.le_of_ble_eq_true rfl) (ok_X2_clearMarks h1) ?_
  refine A_aload_n dX4_make_131 rfl ?_
  refine A_getf dX4_make_132 fw_X4_11 ob4 rfl ?_
  refine A_aload_n dX4_make_135 rfl ?_
  refine A_getf dX4_make_136 fw_X4_34 ob4 rfl ?_
  refine A_iload_n dX4_make_139 rfl ?_
  obtain ⟨hg, h⟩ := gV_go h
  refine A_iast dX4_make_140 ia26 hg (bM_go h (fun M33 h => ?_))
  refine A_aload_n dX4_make_141 rfl ?_
  refine A_getf dX4_make_142 fw_X4_15 ob4 rfl ?_
  refine A_aload_n dX4_make_145 rfl ?_
  refine A_getf dX4_make_146 fw_X4_34 ob4 rfl ?_
  refine A_iload_n dX4_make_149 rfl ?_
  obtain ⟨hg, h⟩ := gV_go h
  refine A_iast dX4_make_150 ia27 hg (bM_go h (fun M34 h => ?_))
  refine A_aload_n dX4_make_151 rfl ?_
  refine A_getf dX4_make_152 fw_X4_18 ob4 rfl ?_
  refine A_aload_n dX4_make_155 rfl ?_
  refine A_getf dX4_make_156 fw_X4_34 ob4 rfl ?_
  refine A_iload dX4_make_159 rfl ?_
  obtain ⟨hg, h⟩ := gV_go h
  refine A_iast dX4_make_161 ia28 hg (bM_go h (fun M35 h => ?_))
  refine A_aload_n dX4_make_162 rfl ?_
  refine A_dup dX4_make_163 rfl ?_
  refine A_getf dX4_make_164 fw_X4_34 ob4 rfl ?_
  refine A_iconst (v := 1) dX4_make_167 (by decide) ?_
  refine A_iadd dX4_make_168 ?_
  refine A_putf dX4_make_169 pw_X4_34 ob4 pf4_6 (Nat.le_of_ble_eq_true rfl) (bM_go h (fun M36 h => ?_))
  refine A_iload dX4_make_172 rfl ?_
  exact A_iret dX4_make_174 (pI_go h)
-- BenchTimes$Rules.byteMany
theorem dX5_byteMany_0 : di cX5_byteMany 0 (.aload_n 0) 1 1 := ⟨by decide +kernel, rfl⟩
theorem dX5_byteMany_1 : di cX5_byteMany 1 (.getfield 21) 3 4 := ⟨by decide +kernel, rfl⟩
theorem dX5_byteMany_4 : di cX5_byteMany 4 (.ireturn) 1 5 := ⟨by decide +kernel, rfl⟩
def f_X5_byteMany  (M : Mem) : Option Ret := some (M.1 5 3, M)
set_option maxRecDepth 100000 in
theorem ok_X5_byteMany {l : Launch} {g : Cx}  {M : Mem} {r : Int32} {Mr : Mem} (h : f_X5_byteMany  M = some (r, Mr)) : CT l g yX5_byteMany cX5_byteMany 1 (some .int) 0 0 [.ref (g.1 5)] M (PI r Mr) := by
  refine CT_of (lv := [some (.ref (g.1 5))]) (by decide) rfl (Nat.le_of_ble_eq_true rfl) ?_
  unfold f_X5_byteMany at h
  refine A_aload_n dX5_byteMany_0 rfl ?_
  refine A_getf dX5_byteMany_1 fw_X5_21 ob5 rfl ?_
  exact A_iret dX5_byteMany_4 (pI_go h)
-- BenchTimes$Rules.isFullOfBytes
theorem dX5_isFullOfBytes_0 : di cX5_isFullOfBytes 0 (.aload_n 0) 1 1 := ⟨by decide +kernel, rfl⟩
theorem dX5_isFullOfBytes_1 : di cX5_isFullOfBytes 1 (.getfield 21) 3 4 := ⟨by decide +kernel, rfl⟩
theorem dX5_isFullOfBytes_4 : di cX5_isFullOfBytes 4 (.bipush 60) 2 6 := ⟨by decide +kernel, rfl⟩
theorem dX5_isFullOfBytes_6 : dj cX5_isFullOfBytes 6 (.if_icmp .lt) 9 13 := ⟨7, by decide +kernel, rfl, rfl⟩
theorem dX5_isFullOfBytes_9 : di cX5_isFullOfBytes 9 (.iconst 1) 1 10 := ⟨by decide +kernel, rfl⟩
theorem dX5_isFullOfBytes_10 : dj cX5_isFullOfBytes 10 .goto 13 14 := ⟨4, by decide +kernel, rfl, rfl⟩
theorem dX5_isFullOfBytes_13 : di cX5_isFullOfBytes 13 (.iconst 0) 1 14 := ⟨by decide +kernel, rfl⟩
theorem dX5_isFullOfBytes_14 : di cX5_isFullOfBytes 14 (.ireturn) 1 15 := ⟨by decide +kernel, rfl⟩
def f_X5_isFullOfBytes  (M : Mem) : Option Ret := jn (α := Int32 → Option Ret) (fun (z2 : Int32) => gZ z2 (some (z2, M))) (fun J1 => if (M.1 5 3) < (60 : Int32) then (J1 (0 : Int32)) else (J1 (1 : Int32)))
set_option maxRecDepth 100000 in
theorem ok_X5_isFullOfBytes {l : Launch} {g : Cx}  {M : Mem} {r : Int32} {Mr : Mem} (h : f_X5_isFullOfBytes  M = some (r, Mr)) : CT l g yX5_isFullOfBytes cX5_isFullOfBytes 1 (some .boolean) 0 0 [.ref (g.1 5)] M (PI r Mr) := by
  refine CT_of (lv := [some (.ref (g.1 5))]) (by decide) rfl (Nat.le_of_ble_eq_true rfl) ?_
  unfold f_X5_isFullOfBytes at h
  refine A_aload_n dX5_isFullOfBytes_0 rfl ?_
  refine A_getf dX5_isFullOfBytes_1 fw_X5_21 ob5 rfl ?_
  refine A_bipush (v := 60) dX5_isFullOfBytes_4 (by decide) ?_
  obtain ⟨J1, hJ1, h⟩ := jn_go h
  have JJ1 : ∀ (z2 : Int32), J1 z2 = some (r, Mr) → AT l g RX5 cX5_isFullOfBytes 1 (some .boolean) (rmM 0 0) (PI r Mr) 14 [some (.ref (g.1 5))] [.int z2] M := by
    intro z2 h
    rw [hJ1] at h
    obtain ⟨hg, h⟩ := gZ_go h
    exact A_zret dX5_isFullOfBytes_14 hg (pI_go h)
  refine A_icmp_lt dX5_isFullOfBytes_6 (fun hc => ?_) (fun hc => ?_)
  · have h := gT_go hc h
    refine A_iconst (v := 0) dX5_isFullOfBytes_13 (by decide) ?_
    exact A_le (lvLe_s lvLe_0) (JJ1 _ h)
  · have h := gF_go hc h
    refine A_iconst (v := 1) dX5_isFullOfBytes_9 (by decide) ?_
    refine A_goto dX5_isFullOfBytes_10 ?_
    exact A_le (lvLe_s lvLe_0) (JJ1 _ h)
-- BenchTimes$Rules.addByte
theorem dX5_addByte_0 : di cX5_addByte 0 (.aload_n 0) 1 1 := ⟨by decide +kernel, rfl⟩
theorem dX5_addByte_1 : di cX5_addByte 1 (.getfield 18) 3 4 := ⟨by decide +kernel, rfl⟩
theorem dX5_addByte_4 : di cX5_addByte 4 (.aload_n 0) 1 5 := ⟨by decide +kernel, rfl⟩
theorem dX5_addByte_5 : di cX5_addByte 5 (.getfield 21) 3 8 := ⟨by decide +kernel, rfl⟩
theorem dX5_addByte_8 : di cX5_addByte 8 (.iload_n 1) 1 9 := ⟨by decide +kernel, rfl⟩
theorem dX5_addByte_9 : di cX5_addByte 9 (.iastore) 1 10 := ⟨by decide +kernel, rfl⟩
theorem dX5_addByte_10 : di cX5_addByte 10 (.aload_n 0) 1 11 := ⟨by decide +kernel, rfl⟩
theorem dX5_addByte_11 : di cX5_addByte 11 (.dup) 1 12 := ⟨by decide +kernel, rfl⟩
theorem dX5_addByte_12 : di cX5_addByte 12 (.getfield 21) 3 15 := ⟨by decide +kernel, rfl⟩
theorem dX5_addByte_15 : di cX5_addByte 15 (.iconst 1) 1 16 := ⟨by decide +kernel, rfl⟩
theorem dX5_addByte_16 : di cX5_addByte 16 (.iadd) 1 17 := ⟨by decide +kernel, rfl⟩
theorem dX5_addByte_17 : di cX5_addByte 17 (.putfield 21) 3 20 := ⟨by decide +kernel, rfl⟩
theorem dX5_addByte_20 : di cX5_addByte 20 (.aload_n 0) 1 21 := ⟨by decide +kernel, rfl⟩
theorem dX5_addByte_21 : di cX5_addByte 21 (.getfield 21) 3 24 := ⟨by decide +kernel, rfl⟩
theorem dX5_addByte_24 : di cX5_addByte 24 (.ireturn) 1 25 := ⟨by decide +kernel, rfl⟩
def f_X5_addByte (v1 : Int32) (M : Mem) : Option Ret := gV (M.1 5 3) 60 (bM (up2 M 32 (M.1 5 3).toNatClampNeg v1) (fun M1 => bM (up2 M1 5 3 ((M1.1 5 3) + (1 : Int32))) (fun M2 => some (M2.1 5 3, M2))))
set_option maxRecDepth 100000 in
theorem ok_X5_addByte {l : Launch} {g : Cx} {v1 : Int32} {M : Mem} {r : Int32} {Mr : Mem} (h : f_X5_addByte v1 M = some (r, Mr)) : CT l g yX5_addByte cX5_addByte 2 (some .int) 0 0 [.ref (g.1 5), .int v1] M (PI r Mr) := by
  refine CT_of (lv := [some (.ref (g.1 5)), some (.int v1)]) (by decide) rfl (Nat.le_of_ble_eq_true rfl) ?_
  unfold f_X5_addByte at h
  refine A_aload_n dX5_addByte_0 rfl ?_
  refine A_getf dX5_addByte_1 fw_X5_18 ob5 rfl ?_
  refine A_aload_n dX5_addByte_4 rfl ?_
  refine A_getf dX5_addByte_5 fw_X5_21 ob5 rfl ?_
  refine A_iload_n dX5_addByte_8 rfl ?_
  obtain ⟨hg, h⟩ := gV_go h
  refine A_iast dX5_addByte_9 ia32 hg (bM_go h (fun M1 h => ?_))
  refine A_aload_n dX5_addByte_10 rfl ?_
  refine A_dup dX5_addByte_11 rfl ?_
  refine A_getf dX5_addByte_12 fw_X5_21 ob5 rfl ?_
  refine A_iconst (v := 1) dX5_addByte_15 (by decide) ?_
  refine A_iadd dX5_addByte_16 ?_
  refine A_putf dX5_addByte_17 pw_X5_21 ob5 pf5_3 (Nat.le_of_ble_eq_true rfl) (bM_go h (fun M2 h => ?_))
  refine A_aload_n dX5_addByte_20 rfl ?_
  refine A_getf dX5_addByte_21 fw_X5_21 ob5 rfl ?_
  exact A_iret dX5_addByte_24 (pI_go h)
-- BenchTimes$Rules.alikeWith
theorem dX5_alikeWith_0 : di cX5_alikeWith 0 (.iconst 0) 1 1 := ⟨by decide +kernel, rfl⟩
theorem dX5_alikeWith_1 : di cX5_alikeWith 1 (.istore_n 2) 1 2 := ⟨by decide +kernel, rfl⟩
theorem dX5_alikeWith_2 : di cX5_alikeWith 2 (.iload_n 2) 1 3 := ⟨by decide +kernel, rfl⟩
theorem dX5_alikeWith_3 : di cX5_alikeWith 3 (.aload_n 1) 1 4 := ⟨by decide +kernel, rfl⟩
theorem dX5_alikeWith_4 : di cX5_alikeWith 4 (.invokevirtual 66) 3 7 := ⟨by decide +kernel, rfl⟩
theorem dX5_alikeWith_7 : dj cX5_alikeWith 7 (.if_icmp .ge) 10 48 := ⟨41, by decide +kernel, rfl, rfl⟩
theorem dX5_alikeWith_10 : di cX5_alikeWith 10 (.aload_n 0) 1 11 := ⟨by decide +kernel, rfl⟩
theorem dX5_alikeWith_11 : di cX5_alikeWith 11 (.getfield 33) 3 14 := ⟨by decide +kernel, rfl⟩
theorem dX5_alikeWith_14 : di cX5_alikeWith 14 (.iload_n 2) 1 15 := ⟨by decide +kernel, rfl⟩
theorem dX5_alikeWith_15 : di cX5_alikeWith 15 (.iadd) 1 16 := ⟨by decide +kernel, rfl⟩
theorem dX5_alikeWith_16 : di cX5_alikeWith 16 (.aload_n 0) 1 17 := ⟨by decide +kernel, rfl⟩
theorem dX5_alikeWith_17 : di cX5_alikeWith 17 (.getfield 21) 3 20 := ⟨by decide +kernel, rfl⟩
theorem dX5_alikeWith_20 : dj cX5_alikeWith 20 (.if_icmp .ge) 23 48 := ⟨28, by decide +kernel, rfl, rfl⟩
theorem dX5_alikeWith_23 : di cX5_alikeWith 23 (.aload_n 0) 1 24 := ⟨by decide +kernel, rfl⟩
theorem dX5_alikeWith_24 : di cX5_alikeWith 24 (.getfield 18) 3 27 := ⟨by decide +kernel, rfl⟩
theorem dX5_alikeWith_27 : di cX5_alikeWith 27 (.aload_n 0) 1 28 := ⟨by decide +kernel, rfl⟩
theorem dX5_alikeWith_28 : di cX5_alikeWith 28 (.getfield 33) 3 31 := ⟨by decide +kernel, rfl⟩
theorem dX5_alikeWith_31 : di cX5_alikeWith 31 (.iload_n 2) 1 32 := ⟨by decide +kernel, rfl⟩
theorem dX5_alikeWith_32 : di cX5_alikeWith 32 (.iadd) 1 33 := ⟨by decide +kernel, rfl⟩
theorem dX5_alikeWith_33 : di cX5_alikeWith 33 (.iaload) 1 34 := ⟨by decide +kernel, rfl⟩
theorem dX5_alikeWith_34 : di cX5_alikeWith 34 (.aload_n 1) 1 35 := ⟨by decide +kernel, rfl⟩
theorem dX5_alikeWith_35 : di cX5_alikeWith 35 (.iload_n 2) 1 36 := ⟨by decide +kernel, rfl⟩
theorem dX5_alikeWith_36 : di cX5_alikeWith 36 (.invokevirtual 76) 3 39 := ⟨by decide +kernel, rfl⟩
theorem dX5_alikeWith_39 : dj cX5_alikeWith 39 (.if_icmp .ne) 42 48 := ⟨9, by decide +kernel, rfl, rfl⟩
theorem dX5_alikeWith_42 : di cX5_alikeWith 42 (.iinc 2 1) 3 45 := ⟨by decide +kernel, rfl⟩
theorem dX5_alikeWith_45 : dj cX5_alikeWith 45 .goto 48 2 := ⟨-43, by decide +kernel, rfl, rfl⟩
theorem dX5_alikeWith_48 : di cX5_alikeWith 48 (.iload_n 2) 1 49 := ⟨by decide +kernel, rfl⟩
theorem dX5_alikeWith_49 : di cX5_alikeWith 49 (.ireturn) 1 50 := ⟨by decide +kernel, rfl⟩
def f_X5_alikeWith_L2 (w : Nat) : Nat → Int32 → Mem → (Int32 → Mem → Option Ret) → Option Ret
  | 0, _, _, _ => none
  | k2 + 1, v2, M, K2 => bE (f_J0_length_8abf5 w M) (fun r2 M1 => if r2 ≤ v2 then (K2 v2 M1) else (if (M1.1 5 3) ≤ ((M1.1 5 4) + v2) then (K2 v2 M1) else (gV ((M1.1 5 4) + v2) 60 (bE (f_J0_charAt_5068e w v2 M1) (fun r4 M3 => if (M1.1 32 ((M1.1 5 4) + v2).toNatClampNeg) = r4 then (f_X5_alikeWith_L2 w k2 (v2 + (1 : Int32)) M3 K2) else (K2 v2 M3))))))
set_option maxRecDepth 100000 in
theorem f_X5_alikeWith_L2_ok {l : Launch} {g : Cx} (w : Nat) (hw : w < 5) {r : Int32} {Mr : Mem} : ∀ (k : Nat) (v2 : Int32) (M : Mem) (K2 : Int32 → Mem → Option Ret), f_X5_alikeWith_L2 w k v2 M K2 = some (r, Mr) → (∀ (v2 : Int32) (M : Mem), K2 v2 M = some (r, Mr) → AT l g RX5 cX5_alikeWith 3 (some .int) (rmM 5 106) (PI r Mr) 48 [some (.ref (g.1 5)), some (.ref (g.2.2.2.2.1 w)), some (.int v2)] [] M) → AT l g RX5 cX5_alikeWith 3 (some .int) (rmM 5 106) (PI r Mr) 2 [some (.ref (g.1 5)), some (.ref (g.2.2.2.2.1 w)), some (.int v2)] [] M
  | 0, v2, M, K2, h, hK2 => by cases h
  | k2 + 1, v2, M, K2, h, hK2 => by
    have ih2 := f_X5_alikeWith_L2_ok (l := l) (g := g) w hw (r := r) (Mr := Mr) k2
    rw [f_X5_alikeWith_L2] at h
    refine A_iload_n dX5_alikeWith_2 rfl ?_
    refine A_aload_n dX5_alikeWith_3 rfl ?_
    obtain ⟨r2, M1, h1, h⟩ := bE_go h
    refine A_cVs0 hw rfl dX5_alikeWith_4 ml_X5_66 mb_J0_length_8abf5 mi_J0_length_8abf5 ⟨Nat.le_of_ble_eq_true rfl, Nat.le_of_ble_eq_true rfl⟩ (Nat.le_of_ble_eq_true rfl) (ok_J0_length_8abf5 hw h1) ?_
    refine A_icmp_ge dX5_alikeWith_7 (fun hc => ?_) (fun hc => ?_)
    · have h := gT_go hc h
      exact A_le (lvLe_s (lvLe_s (lvLe_s lvLe_0))) (hK2 _ _ h)
    · have h := gF_go hc h
      refine A_aload_n dX5_alikeWith_10 rfl ?_
      refine A_getf dX5_alikeWith_11 fw_X5_33 ob5 rfl ?_
      refine A_iload_n dX5_alikeWith_14 rfl ?_
      refine A_iadd dX5_alikeWith_15 ?_
      refine A_aload_n dX5_alikeWith_16 rfl ?_
      refine A_getf dX5_alikeWith_17 fw_X5_21 ob5 rfl ?_
      refine A_icmp_ge dX5_alikeWith_20 (fun hc => ?_) (fun hc => ?_)
      · have h := gT_go hc h
        exact A_le (lvLe_s (lvLe_s (lvLe_s lvLe_0))) (hK2 _ _ h)
      · have h := gF_go hc h
        refine A_aload_n dX5_alikeWith_23 rfl ?_
        refine A_getf dX5_alikeWith_24 fw_X5_18 ob5 rfl ?_
        refine A_aload_n dX5_alikeWith_27 rfl ?_
        refine A_getf dX5_alikeWith_28 fw_X5_33 ob5 rfl ?_
        refine A_iload_n dX5_alikeWith_31 rfl ?_
        refine A_iadd dX5_alikeWith_32 ?_
        obtain ⟨hg, h⟩ := gV_go h
        refine A_iald dX5_alikeWith_33 ia32 hg ?_
        refine A_aload_n dX5_alikeWith_34 rfl ?_
        refine A_iload_n dX5_alikeWith_35 rfl ?_
        obtain ⟨r4, M3, h1, h⟩ := bE_go h
        refine A_cVs1 hw rfl dX5_alikeWith_36 ml_X5_76 mb_J0_charAt_5068e mi_J0_charAt_5068e ⟨Nat.le_of_ble_eq_true rfl, Nat.le_of_ble_eq_true rfl⟩ (Nat.le_of_ble_eq_true rfl) (ok_J0_charAt_5068e hw h1) ?_
        refine A_icmp_ne dX5_alikeWith_39 (fun hc => ?_) (fun hc => ?_)
        · have h := gF_go hc h
          exact A_le (lvLe_s (lvLe_s (lvLe_s lvLe_0))) (hK2 _ _ h)
        · have h := gT_go hc h
          refine A_iinc2 (d := 1) dX5_alikeWith_42 (by decide) (by decide) rfl ?_
          refine A_goto dX5_alikeWith_45 ?_
          exact A_le (lvLe_s (lvLe_s (lvLe_s lvLe_0))) (ih2 _ _ K2 h hK2)
def f_X5_alikeWith (w : Nat) (M : Mem) : Option Ret := f_X5_alikeWith_L2 w FU (0 : Int32) M (fun w5 M6 => some (w5, M6))
set_option maxRecDepth 100000 in
theorem ok_X5_alikeWith {l : Launch} {g : Cx} {w : Nat} {M : Mem} {r : Int32} {Mr : Mem} (hw : w < 5) (h : f_X5_alikeWith w M = some (r, Mr)) : CT l g yX5_alikeWith cX5_alikeWith 3 (some .int) 5 106 [.ref (g.1 5), .ref (g.2.2.2.2.1 w)] M (PI r Mr) := by
  refine CT_of (lv := [some (.ref (g.1 5)), some (.ref (g.2.2.2.2.1 w)), none]) (by decide) rfl (Nat.le_of_ble_eq_true rfl) ?_
  unfold f_X5_alikeWith at h
  refine A_iconst (v := 0) dX5_alikeWith_0 (by decide) ?_
  refine A_istoren2 dX5_alikeWith_1 (by decide) rfl ?_
  refine f_X5_alikeWith_L2_ok _ hw FU _ _ _ h (fun w5 M6 h => ?_)
  refine A_iload_n dX5_alikeWith_48 rfl ?_
  exact A_iret dX5_alikeWith_49 (pI_go h)
-- BenchTimes$Rules.readWord
theorem dX5_readWord_0 : di cX5_readWord 0 (.iconst 0) 1 1 := ⟨by decide +kernel, rfl⟩
theorem dX5_readWord_1 : di cX5_readWord 1 (.istore_n 1) 1 2 := ⟨by decide +kernel, rfl⟩
theorem dX5_readWord_2 : di cX5_readWord 2 (.iconst 0) 1 3 := ⟨by decide +kernel, rfl⟩
theorem dX5_readWord_3 : di cX5_readWord 3 (.istore_n 2) 1 4 := ⟨by decide +kernel, rfl⟩
theorem dX5_readWord_4 : di cX5_readWord 4 (.iload_n 2) 1 5 := ⟨by decide +kernel, rfl⟩
theorem dX5_readWord_5 : di cX5_readWord 5 (.iconst 5) 1 6 := ⟨by decide +kernel, rfl⟩
theorem dX5_readWord_6 : dj cX5_readWord 6 (.if_icmp .ge) 9 66 := ⟨60, by decide +kernel, rfl, rfl⟩
theorem dX5_readWord_9 : di cX5_readWord 9 (.aload_n 0) 1 10 := ⟨by decide +kernel, rfl⟩
theorem dX5_readWord_10 : di cX5_readWord 10 (.getfield 15) 3 13 := ⟨by decide +kernel, rfl⟩
theorem dX5_readWord_13 : di cX5_readWord 13 (.iload_n 2) 1 14 := ⟨by decide +kernel, rfl⟩
theorem dX5_readWord_14 : di cX5_readWord 14 (.iaload) 1 15 := ⟨by decide +kernel, rfl⟩
theorem dX5_readWord_15 : di cX5_readWord 15 (.iconst (-1)) 1 16 := ⟨by decide +kernel, rfl⟩
theorem dX5_readWord_16 : dj cX5_readWord 16 (.if_icmp .ne) 19 60 := ⟨44, by decide +kernel, rfl, rfl⟩
theorem dX5_readWord_19 : di cX5_readWord 19 (.iload_n 2) 1 20 := ⟨by decide +kernel, rfl⟩
theorem dX5_readWord_20 : di cX5_readWord 20 (.invokestatic 58) 3 23 := ⟨by decide +kernel, rfl⟩
theorem dX5_readWord_23 : di cX5_readWord 23 (.astore_n 3) 1 24 := ⟨by decide +kernel, rfl⟩
theorem dX5_readWord_24 : di cX5_readWord 24 (.aload_n 0) 1 25 := ⟨by decide +kernel, rfl⟩
theorem dX5_readWord_25 : di cX5_readWord 25 (.aload_n 3) 1 26 := ⟨by decide +kernel, rfl⟩
theorem dX5_readWord_26 : di cX5_readWord 26 (.invokevirtual 62) 3 29 := ⟨by decide +kernel, rfl⟩
theorem dX5_readWord_29 : di cX5_readWord 29 (.istore 4) 2 31 := ⟨by decide +kernel, rfl⟩
theorem dX5_readWord_31 : di cX5_readWord 31 (.iload 4) 2 33 := ⟨by decide +kernel, rfl⟩
theorem dX5_readWord_33 : di cX5_readWord 33 (.aload_n 3) 1 34 := ⟨by decide +kernel, rfl⟩
theorem dX5_readWord_34 : di cX5_readWord 34 (.invokevirtual 66) 3 37 := ⟨by decide +kernel, rfl⟩
theorem dX5_readWord_37 : dj cX5_readWord 37 (.if_icmp .ne) 40 53 := ⟨16, by decide +kernel, rfl, rfl⟩
theorem dX5_readWord_40 : di cX5_readWord 40 (.aload_n 0) 1 41 := ⟨by decide +kernel, rfl⟩
theorem dX5_readWord_41 : di cX5_readWord 41 (.dup) 1 42 := ⟨by decide +kernel, rfl⟩
theorem dX5_readWord_42 : di cX5_readWord 42 (.getfield 33) 3 45 := ⟨by decide +kernel, rfl⟩
theorem dX5_readWord_45 : di cX5_readWord 45 (.iload 4) 2 47 := ⟨by decide +kernel, rfl⟩
theorem dX5_readWord_47 : di cX5_readWord 47 (.iadd) 1 48 := ⟨by decide +kernel, rfl⟩
theorem dX5_readWord_48 : di cX5_readWord 48 (.putfield 33) 3 51 := ⟨by decide +kernel, rfl⟩
theorem dX5_readWord_51 : di cX5_readWord 51 (.iload_n 2) 1 52 := ⟨by decide +kernel, rfl⟩
theorem dX5_readWord_52 : di cX5_readWord 52 (.ireturn) 1 53 := ⟨by decide +kernel, rfl⟩
theorem dX5_readWord_53 : di cX5_readWord 53 (.iload_n 1) 1 54 := ⟨by decide +kernel, rfl⟩
theorem dX5_readWord_54 : di cX5_readWord 54 (.iload 4) 2 56 := ⟨by decide +kernel, rfl⟩
theorem dX5_readWord_56 : di cX5_readWord 56 (.invokestatic 70) 3 59 := ⟨by decide +kernel, rfl⟩
theorem dX5_readWord_59 : di cX5_readWord 59 (.istore_n 1) 1 60 := ⟨by decide +kernel, rfl⟩
theorem dX5_readWord_60 : di cX5_readWord 60 (.iinc 2 1) 3 63 := ⟨by decide +kernel, rfl⟩
theorem dX5_readWord_63 : dj cX5_readWord 63 .goto 66 4 := ⟨-59, by decide +kernel, rfl, rfl⟩
theorem dX5_readWord_66 : di cX5_readWord 66 (.aload_n 0) 1 67 := ⟨by decide +kernel, rfl⟩
theorem dX5_readWord_67 : di cX5_readWord 67 (.dup) 1 68 := ⟨by decide +kernel, rfl⟩
theorem dX5_readWord_68 : di cX5_readWord 68 (.getfield 33) 3 71 := ⟨by decide +kernel, rfl⟩
theorem dX5_readWord_71 : di cX5_readWord 71 (.iload_n 1) 1 72 := ⟨by decide +kernel, rfl⟩
theorem dX5_readWord_72 : di cX5_readWord 72 (.iadd) 1 73 := ⟨by decide +kernel, rfl⟩
theorem dX5_readWord_73 : di cX5_readWord 73 (.putfield 33) 3 76 := ⟨by decide +kernel, rfl⟩
theorem dX5_readWord_76 : di cX5_readWord 76 (.iconst (-1)) 1 77 := ⟨by decide +kernel, rfl⟩
theorem dX5_readWord_77 : di cX5_readWord 77 (.ireturn) 1 78 := ⟨by decide +kernel, rfl⟩
def f_X5_readWord_L4  : Nat → Int32 → Int32 → Mem → (Int32 → Int32 → Mem → Option Ret) → Option Ret
  | 0, _, _, _, _ => none
  | k4 + 1, v1, v2, M, K4 => if (5 : Int32) ≤ v2 then (K4 v1 v2 M) else (gV v2 5 (if (M.1 31 v2.toNatClampNeg) = (-1 : Int32) then (bE (f_X5_wordOf v2 M) (fun r2 M1 => gV r2 5 (bE (f_X5_alikeWith (r2.toNatClampNeg) M1) (fun r4 M3 => bE (f_J0_length_8abf5 (r2.toNatClampNeg) M3) (fun r6 M5 => if r4 = r6 then (bM (up2 M5 5 4 ((M5.1 5 4) + r4)) (fun M8 => some (v2, M8))) else (bI (if v1 < r4 then r4 else v1) (fun x7 => f_X5_readWord_L4  k4 x7 (v2 + (1 : Int32)) M5 K4))))))) else (f_X5_readWord_L4  k4 v1 (v2 + (1 : Int32)) M K4)))
set_option maxRecDepth 100000 in
theorem f_X5_readWord_L4_ok {l : Launch} {g : Cx}   {r : Int32} {Mr : Mem} : ∀ (k : Nat) (v1 : Int32) (v2 : Int32) (M : Mem) (K4 : Int32 → Int32 → Mem → Option Ret), f_X5_readWord_L4  k v1 v2 M K4 = some (r, Mr) → (∀ (v1 : Int32) (v2 : Int32) (M : Mem), K4 v1 v2 M = some (r, Mr) → AT l g RX5 cX5_readWord 5 (some .int) (rmM 6 128) (PI r Mr) 66 [some (.ref (g.1 5)), some (.int v1), some (.int v2), none, none] [] M) → AT l g RX5 cX5_readWord 5 (some .int) (rmM 6 128) (PI r Mr) 4 [some (.ref (g.1 5)), some (.int v1), some (.int v2), none, none] [] M
  | 0, v1, v2, M, K4, h, hK4 => by cases h
  | k4 + 1, v1, v2, M, K4, h, hK4 => by
    have ih4 := f_X5_readWord_L4_ok (l := l) (g := g)  (r := r) (Mr := Mr) k4
    rw [f_X5_readWord_L4] at h
    refine A_iload_n dX5_readWord_4 rfl ?_
    refine A_iconst (v := 5) dX5_readWord_5 (by decide) ?_
    refine A_icmp_ge dX5_readWord_6 (fun hc => ?_) (fun hc => ?_)
    · have h := gT_go hc h
      exact A_le (lvLe_s (lvLe_s (lvLe_s (lvLe_n (lvLe_n lvLe_0))))) (hK4 _ _ _ h)
    · have h := gF_go hc h
      refine A_aload_n dX5_readWord_9 rfl ?_
      refine A_getf dX5_readWord_10 fw_X5_15 ob5 rfl ?_
      refine A_iload_n dX5_readWord_13 rfl ?_
      obtain ⟨hg, h⟩ := gV_go h
      refine A_iald dX5_readWord_14 ia31 hg ?_
      refine A_iconst (v := -1) dX5_readWord_15 (by decide) ?_
      refine A_icmp_ne dX5_readWord_16 (fun hc => ?_) (fun hc => ?_)
      · have h := gF_go hc h
        refine A_iinc2 (d := 1) dX5_readWord_60 (by decide) (by decide) rfl ?_
        refine A_goto dX5_readWord_63 ?_
        exact A_le (lvLe_s (lvLe_s (lvLe_s (lvLe_n (lvLe_n lvLe_0))))) (ih4 _ _ _ K4 h hK4)
      · have h := gT_go hc h
        refine A_iload_n dX5_readWord_19 rfl ?_
        obtain ⟨r2, M1, h1, h⟩ := bE_go h
        obtain ⟨hs, h⟩ := gV_go h
        refine A_callS1 dX5_readWord_20 ml_X5_58 mb_X5_wordOf ms_X5_wordOf ⟨Nat.le_of_ble_eq_true rfl, Nat.le_of_ble_eq_true rfl⟩ (Nat.le_of_ble_eq_true rfl) (ok_X5_wordOf h1) (fun v Mx e => ?_)
        rw [e.1, e.2]
        show AT l g RX5 cX5_readWord 5 (some .int) (rmM 6 128) (PI r Mr) 23 [some (.ref (g.1 5)), some (.int v1), some (.int v2), none, none] [.ref (g.2.2.2.2.1 (r2.toNatClampNeg))] M1
        refine A_astoren3 dX5_readWord_23 (by decide) rfl ?_
        refine A_aload_n dX5_readWord_24 rfl ?_
        refine A_aload_n dX5_readWord_25 rfl ?_
        obtain ⟨r4, M3, h1, h⟩ := bE_go h
        refine A_cVi1 dX5_readWord_26 ml_X5_62 mb_X5_alikeWith mi_X5_alikeWith ob5 rfl rfl ⟨Nat.le_of_ble_eq_true rfl, Nat.le_of_ble_eq_true rfl⟩ (Nat.le_of_ble_eq_true rfl) (ok_X5_alikeWith (vp_lt hs) h1) ?_
        refine A_istore4 dX5_readWord_29 (by decide) rfl ?_
        refine A_iload dX5_readWord_31 rfl ?_
        refine A_aload_n dX5_readWord_33 rfl ?_
        obtain ⟨r6, M5, h1, h⟩ := bE_go h
        refine A_cVs0 (vp_lt hs) rfl dX5_readWord_34 ml_X5_66 mb_J0_length_8abf5 mi_J0_length_8abf5 ⟨Nat.le_of_ble_eq_true rfl, Nat.le_of_ble_eq_true rfl⟩ (Nat.le_of_ble_eq_true rfl) (ok_J0_length_8abf5 (vp_lt hs) h1) ?_
        refine A_icmp_ne dX5_readWord_37 (fun hc => ?_) (fun hc => ?_)
        · have h := gF_go hc h
          refine A_iload_n dX5_readWord_53 rfl ?_
          refine A_iload dX5_readWord_54 rfl ?_
          refine A_mmax dX5_readWord_56 ml_X5_70 (Nat.le_of_ble_eq_true rfl) (Nat.le_of_ble_eq_true rfl) ?_
          refine A_istoren1 dX5_readWord_59 (by decide) rfl (bI_go h (G := fun z => AT l g RX5 cX5_readWord 5 (some .int) (rmM 6 128) (PI r Mr) 60 [some (.ref (g.1 5)), some (.int z), some (.int v2), some (.ref (g.2.2.2.2.1 (r2.toNatClampNeg))), some (.int r4)] [] M5) (fun x7 h => ?_))
          refine A_iinc2 (d := 1) dX5_readWord_60 (by decide) (by decide) rfl ?_
          refine A_goto dX5_readWord_63 ?_
          exact A_le (lvLe_s (lvLe_s (lvLe_s (lvLe_n (lvLe_n lvLe_0))))) (ih4 _ _ _ K4 h hK4)
        · have h := gT_go hc h
          refine A_aload_n dX5_readWord_40 rfl ?_
          refine A_dup dX5_readWord_41 rfl ?_
          refine A_getf dX5_readWord_42 fw_X5_33 ob5 rfl ?_
          refine A_iload dX5_readWord_45 rfl ?_
          refine A_iadd dX5_readWord_47 ?_
          refine A_putf dX5_readWord_48 pw_X5_33 ob5 pf5_4 (Nat.le_of_ble_eq_true rfl) (bM_go h (fun M8 h => ?_))
          refine A_iload_n dX5_readWord_51 rfl ?_
          exact A_iret dX5_readWord_52 (pI_go h)
def f_X5_readWord  (M : Mem) : Option Ret := f_X5_readWord_L4  FU (0 : Int32) (0 : Int32) M (fun w9 w10 M11 => bM (up2 M11 5 4 ((M11.1 5 4) + w9)) (fun M12 => some ((-1 : Int32), M12)))
set_option maxRecDepth 100000 in
theorem ok_X5_readWord {l : Launch} {g : Cx}  {M : Mem} {r : Int32} {Mr : Mem} (h : f_X5_readWord  M = some (r, Mr)) : CT l g yX5_readWord cX5_readWord 5 (some .int) 6 128 [.ref (g.1 5)] M (PI r Mr) := by
  refine CT_of (lv := [some (.ref (g.1 5)), none, none, none, none]) (by decide) rfl (Nat.le_of_ble_eq_true rfl) ?_
  unfold f_X5_readWord at h
  refine A_iconst (v := 0) dX5_readWord_0 (by decide) ?_
  refine A_istoren1 dX5_readWord_1 (by decide) rfl ?_
  refine A_iconst (v := 0) dX5_readWord_2 (by decide) ?_
  refine A_istoren2 dX5_readWord_3 (by decide) rfl ?_
  refine f_X5_readWord_L4_ok  FU _ _ _ _ h (fun w9 w10 M11 h => ?_)
  refine A_aload_n dX5_readWord_66 rfl ?_
  refine A_dup dX5_readWord_67 rfl ?_
  refine A_getf dX5_readWord_68 fw_X5_33 ob5 rfl ?_
  refine A_iload_n dX5_readWord_71 rfl ?_
  refine A_iadd dX5_readWord_72 ?_
  refine A_putf dX5_readWord_73 pw_X5_33 ob5 pf5_4 (Nat.le_of_ble_eq_true rfl) (bM_go h (fun M12 h => ?_))
  refine A_iconst (v := -1) dX5_readWord_76 (by decide) ?_
  exact A_iret dX5_readWord_77 (pI_go h)
-- BenchTimes$Rules.readSign
theorem dX5_readSign_0 : di cX5_readSign 0 (.aload_n 0) 1 1 := ⟨by decide +kernel, rfl⟩
theorem dX5_readSign_1 : di cX5_readSign 1 (.getfield 33) 3 4 := ⟨by decide +kernel, rfl⟩
theorem dX5_readSign_4 : di cX5_readSign 4 (.aload_n 0) 1 5 := ⟨by decide +kernel, rfl⟩
theorem dX5_readSign_5 : di cX5_readSign 5 (.getfield 21) 3 8 := ⟨by decide +kernel, rfl⟩
theorem dX5_readSign_8 : dj cX5_readSign 8 (.if_icmp .ge) 11 24 := ⟨16, by decide +kernel, rfl, rfl⟩
theorem dX5_readSign_11 : di cX5_readSign 11 (.aload_n 0) 1 12 := ⟨by decide +kernel, rfl⟩
theorem dX5_readSign_12 : di cX5_readSign 12 (.getfield 18) 3 15 := ⟨by decide +kernel, rfl⟩
theorem dX5_readSign_15 : di cX5_readSign 15 (.aload_n 0) 1 16 := ⟨by decide +kernel, rfl⟩
theorem dX5_readSign_16 : di cX5_readSign 16 (.getfield 33) 3 19 := ⟨by decide +kernel, rfl⟩
theorem dX5_readSign_19 : di cX5_readSign 19 (.iaload) 1 20 := ⟨by decide +kernel, rfl⟩
theorem dX5_readSign_20 : di cX5_readSign 20 (.iload_n 1) 1 21 := ⟨by decide +kernel, rfl⟩
theorem dX5_readSign_21 : dj cX5_readSign 21 (.if_icmp .eq) 24 26 := ⟨5, by decide +kernel, rfl, rfl⟩
theorem dX5_readSign_24 : di cX5_readSign 24 (.iconst 0) 1 25 := ⟨by decide +kernel, rfl⟩
theorem dX5_readSign_25 : di cX5_readSign 25 (.ireturn) 1 26 := ⟨by decide +kernel, rfl⟩
theorem dX5_readSign_26 : di cX5_readSign 26 (.aload_n 0) 1 27 := ⟨by decide +kernel, rfl⟩
theorem dX5_readSign_27 : di cX5_readSign 27 (.dup) 1 28 := ⟨by decide +kernel, rfl⟩
theorem dX5_readSign_28 : di cX5_readSign 28 (.getfield 33) 3 31 := ⟨by decide +kernel, rfl⟩
theorem dX5_readSign_31 : di cX5_readSign 31 (.iconst 1) 1 32 := ⟨by decide +kernel, rfl⟩
theorem dX5_readSign_32 : di cX5_readSign 32 (.iadd) 1 33 := ⟨by decide +kernel, rfl⟩
theorem dX5_readSign_33 : di cX5_readSign 33 (.putfield 33) 3 36 := ⟨by decide +kernel, rfl⟩
theorem dX5_readSign_36 : di cX5_readSign 36 (.iconst 1) 1 37 := ⟨by decide +kernel, rfl⟩
theorem dX5_readSign_37 : di cX5_readSign 37 (.ireturn) 1 38 := ⟨by decide +kernel, rfl⟩
def f_X5_readSign (v1 : Int32) (M : Mem) : Option Ret := if (M.1 5 3) ≤ (M.1 5 4) then (some ((0 : Int32), M)) else (gV (M.1 5 4) 60 (if (M.1 32 (M.1 5 4).toNatClampNeg) = v1 then (bM (up2 M 5 4 ((M.1 5 4) + (1 : Int32))) (fun M1 => some ((1 : Int32), M1))) else (some ((0 : Int32), M))))
set_option maxRecDepth 100000 in
theorem ok_X5_readSign {l : Launch} {g : Cx} {v1 : Int32} {M : Mem} {r : Int32} {Mr : Mem} (h : f_X5_readSign v1 M = some (r, Mr)) : CT l g yX5_readSign cX5_readSign 2 (some .boolean) 0 0 [.ref (g.1 5), .int v1] M (PI r Mr) := by
  refine CT_of (lv := [some (.ref (g.1 5)), some (.int v1)]) (by decide) rfl (Nat.le_of_ble_eq_true rfl) ?_
  unfold f_X5_readSign at h
  refine A_aload_n dX5_readSign_0 rfl ?_
  refine A_getf dX5_readSign_1 fw_X5_33 ob5 rfl ?_
  refine A_aload_n dX5_readSign_4 rfl ?_
  refine A_getf dX5_readSign_5 fw_X5_21 ob5 rfl ?_
  refine A_icmp_ge dX5_readSign_8 (fun hc => ?_) (fun hc => ?_)
  · have h := gT_go hc h
    refine A_iconst (v := 0) dX5_readSign_24 (by decide) ?_
    exact A_zret dX5_readSign_25 (by decide) (pI_go h)
  · have h := gF_go hc h
    refine A_aload_n dX5_readSign_11 rfl ?_
    refine A_getf dX5_readSign_12 fw_X5_18 ob5 rfl ?_
    refine A_aload_n dX5_readSign_15 rfl ?_
    refine A_getf dX5_readSign_16 fw_X5_33 ob5 rfl ?_
    obtain ⟨hg, h⟩ := gV_go h
    refine A_iald dX5_readSign_19 ia32 hg ?_
    refine A_iload_n dX5_readSign_20 rfl ?_
    refine A_icmp_eq dX5_readSign_21 (fun hc => ?_) (fun hc => ?_)
    · have h := gT_go hc h
      refine A_aload_n dX5_readSign_26 rfl ?_
      refine A_dup dX5_readSign_27 rfl ?_
      refine A_getf dX5_readSign_28 fw_X5_33 ob5 rfl ?_
      refine A_iconst (v := 1) dX5_readSign_31 (by decide) ?_
      refine A_iadd dX5_readSign_32 ?_
      refine A_putf dX5_readSign_33 pw_X5_33 ob5 pf5_4 (Nat.le_of_ble_eq_true rfl) (bM_go h (fun M1 h => ?_))
      refine A_iconst (v := 1) dX5_readSign_36 (by decide) ?_
      exact A_zret dX5_readSign_37 (by decide) (pI_go h)
    · have h := gF_go hc h
      refine A_iconst (v := 0) dX5_readSign_24 (by decide) ?_
      exact A_zret dX5_readSign_25 (by decide) (pI_go h)
-- BenchTimes$Rules.readNumber
theorem dX5_readNumber_0 : di cX5_readNumber 0 (.iconst (-1)) 1 1 := ⟨by decide +kernel, rfl⟩
theorem dX5_readNumber_1 : di cX5_readNumber 1 (.istore_n 1) 1 2 := ⟨by decide +kernel, rfl⟩
theorem dX5_readNumber_2 : di cX5_readNumber 2 (.iconst 0) 1 3 := ⟨by decide +kernel, rfl⟩
theorem dX5_readNumber_3 : di cX5_readNumber 3 (.istore_n 2) 1 4 := ⟨by decide +kernel, rfl⟩
theorem dX5_readNumber_4 : di cX5_readNumber 4 (.iload_n 2) 1 5 := ⟨by decide +kernel, rfl⟩
theorem dX5_readNumber_5 : di cX5_readNumber 5 (.iconst 3) 1 6 := ⟨by decide +kernel, rfl⟩
theorem dX5_readNumber_6 : dj cX5_readNumber 6 (.if_icmp .ge) 9 79 := ⟨73, by decide +kernel, rfl, rfl⟩
theorem dX5_readNumber_9 : di cX5_readNumber 9 (.aload_n 0) 1 10 := ⟨by decide +kernel, rfl⟩
theorem dX5_readNumber_10 : di cX5_readNumber 10 (.getfield 33) 3 13 := ⟨by decide +kernel, rfl⟩
theorem dX5_readNumber_13 : di cX5_readNumber 13 (.aload_n 0) 1 14 := ⟨by decide +kernel, rfl⟩
theorem dX5_readNumber_14 : di cX5_readNumber 14 (.getfield 21) 3 17 := ⟨by decide +kernel, rfl⟩
theorem dX5_readNumber_17 : dj cX5_readNumber 17 (.if_icmp .ge) 20 79 := ⟨62, by decide +kernel, rfl, rfl⟩
theorem dX5_readNumber_20 : di cX5_readNumber 20 (.aload_n 0) 1 21 := ⟨by decide +kernel, rfl⟩
theorem dX5_readNumber_21 : di cX5_readNumber 21 (.getfield 18) 3 24 := ⟨by decide +kernel, rfl⟩
theorem dX5_readNumber_24 : di cX5_readNumber 24 (.aload_n 0) 1 25 := ⟨by decide +kernel, rfl⟩
theorem dX5_readNumber_25 : di cX5_readNumber 25 (.getfield 33) 3 28 := ⟨by decide +kernel, rfl⟩
theorem dX5_readNumber_28 : di cX5_readNumber 28 (.iaload) 1 29 := ⟨by decide +kernel, rfl⟩
theorem dX5_readNumber_29 : di cX5_readNumber 29 (.bipush 48) 2 31 := ⟨by decide +kernel, rfl⟩
theorem dX5_readNumber_31 : di cX5_readNumber 31 (.bipush 57) 2 33 := ⟨by decide +kernel, rfl⟩
theorem dX5_readNumber_33 : di cX5_readNumber 33 (.invokestatic 80) 3 36 := ⟨by decide +kernel, rfl⟩
theorem dX5_readNumber_36 : dj cX5_readNumber 36 (.ifCond .ne) 39 41 := ⟨5, by decide +kernel, rfl, rfl⟩
theorem dX5_readNumber_39 : di cX5_readNumber 39 (.iload_n 1) 1 40 := ⟨by decide +kernel, rfl⟩
theorem dX5_readNumber_40 : di cX5_readNumber 40 (.ireturn) 1 41 := ⟨by decide +kernel, rfl⟩
theorem dX5_readNumber_41 : di cX5_readNumber 41 (.iload_n 1) 1 42 := ⟨by decide +kernel, rfl⟩
theorem dX5_readNumber_42 : di cX5_readNumber 42 (.iconst 0) 1 43 := ⟨by decide +kernel, rfl⟩
theorem dX5_readNumber_43 : di cX5_readNumber 43 (.invokestatic 70) 3 46 := ⟨by decide +kernel, rfl⟩
theorem dX5_readNumber_46 : di cX5_readNumber 46 (.bipush 10) 2 48 := ⟨by decide +kernel, rfl⟩
theorem dX5_readNumber_48 : di cX5_readNumber 48 (.imul) 1 49 := ⟨by decide +kernel, rfl⟩
theorem dX5_readNumber_49 : di cX5_readNumber 49 (.aload_n 0) 1 50 := ⟨by decide +kernel, rfl⟩
theorem dX5_readNumber_50 : di cX5_readNumber 50 (.getfield 18) 3 53 := ⟨by decide +kernel, rfl⟩
theorem dX5_readNumber_53 : di cX5_readNumber 53 (.aload_n 0) 1 54 := ⟨by decide +kernel, rfl⟩
theorem dX5_readNumber_54 : di cX5_readNumber 54 (.getfield 33) 3 57 := ⟨by decide +kernel, rfl⟩
theorem dX5_readNumber_57 : di cX5_readNumber 57 (.iaload) 1 58 := ⟨by decide +kernel, rfl⟩
theorem dX5_readNumber_58 : di cX5_readNumber 58 (.iadd) 1 59 := ⟨by decide +kernel, rfl⟩
theorem dX5_readNumber_59 : di cX5_readNumber 59 (.bipush 48) 2 61 := ⟨by decide +kernel, rfl⟩
theorem dX5_readNumber_61 : di cX5_readNumber 61 (.isub) 1 62 := ⟨by decide +kernel, rfl⟩
theorem dX5_readNumber_62 : di cX5_readNumber 62 (.istore_n 1) 1 63 := ⟨by decide +kernel, rfl⟩
theorem dX5_readNumber_63 : di cX5_readNumber 63 (.aload_n 0) 1 64 := ⟨by decide +kernel, rfl⟩
theorem dX5_readNumber_64 : di cX5_readNumber 64 (.dup) 1 65 := ⟨by decide +kernel, rfl⟩
theorem dX5_readNumber_65 : di cX5_readNumber 65 (.getfield 33) 3 68 := ⟨by decide +kernel, rfl⟩
theorem dX5_readNumber_68 : di cX5_readNumber 68 (.iconst 1) 1 69 := ⟨by decide +kernel, rfl⟩
theorem dX5_readNumber_69 : di cX5_readNumber 69 (.iadd) 1 70 := ⟨by decide +kernel, rfl⟩
theorem dX5_readNumber_70 : di cX5_readNumber 70 (.putfield 33) 3 73 := ⟨by decide +kernel, rfl⟩
theorem dX5_readNumber_73 : di cX5_readNumber 73 (.iinc 2 1) 3 76 := ⟨by decide +kernel, rfl⟩
theorem dX5_readNumber_76 : dj cX5_readNumber 76 .goto 79 4 := ⟨-72, by decide +kernel, rfl, rfl⟩
theorem dX5_readNumber_79 : di cX5_readNumber 79 (.iload_n 1) 1 80 := ⟨by decide +kernel, rfl⟩
theorem dX5_readNumber_80 : di cX5_readNumber 80 (.ireturn) 1 81 := ⟨by decide +kernel, rfl⟩
def f_X5_readNumber_L4  : Nat → Int32 → Int32 → Mem → (Int32 → Int32 → Mem → Option Ret) → Option Ret
  | 0, _, _, _, _ => none
  | k4 + 1, v1, v2, M, K4 => if (3 : Int32) ≤ v2 then (K4 v1 v2 M) else (if (M.1 5 3) ≤ (M.1 5 4) then (K4 v1 v2 M) else (gV (M.1 5 4) 60 (bE (f_X10_isWithin (M.1 32 (M.1 5 4).toNatClampNeg) (48 : Int32) (57 : Int32) M) (fun r2 M1 => if r2 = 0 then (some (v1, M1)) else (gV (M1.1 5 4) 60 (bI ((((if v1 < (0 : Int32) then (0 : Int32) else v1) * (10 : Int32)) + (M1.1 32 (M1.1 5 4).toNatClampNeg)) - (48 : Int32)) (fun x3 => bM (up2 M1 5 4 ((M1.1 5 4) + (1 : Int32))) (fun M4 => f_X5_readNumber_L4  k4 x3 (v2 + (1 : Int32)) M4 K4))))))))
set_option maxRecDepth 100000 in
theorem f_X5_readNumber_L4_ok {l : Launch} {g : Cx}   {r : Int32} {Mr : Mem} : ∀ (k : Nat) (v1 : Int32) (v2 : Int32) (M : Mem) (K4 : Int32 → Int32 → Mem → Option Ret), f_X5_readNumber_L4  k v1 v2 M K4 = some (r, Mr) → (∀ (v1 : Int32) (v2 : Int32) (M : Mem), K4 v1 v2 M = some (r, Mr) → AT l g RX5 cX5_readNumber 3 (some .int) (rmM 1 22) (PI r Mr) 79 [some (.ref (g.1 5)), some (.int v1), some (.int v2)] [] M) → AT l g RX5 cX5_readNumber 3 (some .int) (rmM 1 22) (PI r Mr) 4 [some (.ref (g.1 5)), some (.int v1), some (.int v2)] [] M
  | 0, v1, v2, M, K4, h, hK4 => by cases h
  | k4 + 1, v1, v2, M, K4, h, hK4 => by
    have ih4 := f_X5_readNumber_L4_ok (l := l) (g := g)  (r := r) (Mr := Mr) k4
    rw [f_X5_readNumber_L4] at h
    refine A_iload_n dX5_readNumber_4 rfl ?_
    refine A_iconst (v := 3) dX5_readNumber_5 (by decide) ?_
    refine A_icmp_ge dX5_readNumber_6 (fun hc => ?_) (fun hc => ?_)
    · have h := gT_go hc h
      exact A_le (lvLe_s (lvLe_s (lvLe_s lvLe_0))) (hK4 _ _ _ h)
    · have h := gF_go hc h
      refine A_aload_n dX5_readNumber_9 rfl ?_
      refine A_getf dX5_readNumber_10 fw_X5_33 ob5 rfl ?_
      refine A_aload_n dX5_readNumber_13 rfl ?_
      refine A_getf dX5_readNumber_14 fw_X5_21 ob5 rfl ?_
      refine A_icmp_ge dX5_readNumber_17 (fun hc => ?_) (fun hc => ?_)
      · have h := gT_go hc h
        exact A_le (lvLe_s (lvLe_s (lvLe_s lvLe_0))) (hK4 _ _ _ h)
      · have h := gF_go hc h
        refine A_aload_n dX5_readNumber_20 rfl ?_
        refine A_getf dX5_readNumber_21 fw_X5_18 ob5 rfl ?_
        refine A_aload_n dX5_readNumber_24 rfl ?_
        refine A_getf dX5_readNumber_25 fw_X5_33 ob5 rfl ?_
        obtain ⟨hg, h⟩ := gV_go h
        refine A_iald dX5_readNumber_28 ia32 hg ?_
        refine A_bipush (v := 48) dX5_readNumber_29 (by decide) ?_
        refine A_bipush (v := 57) dX5_readNumber_31 (by decide) ?_
        obtain ⟨r2, M1, h1, h⟩ := bE_go h
        refine A_cNi3 dX5_readNumber_33 nl_X5_80 mb_X10_isWithin ms_X10_isWithin ⟨Nat.le_of_ble_eq_true rfl, Nat.le_of_ble_eq_true rfl⟩ (Nat.le_of_ble_eq_true rfl) (ok_X10_isWithin h1) ?_
        refine A_if_ne dX5_readNumber_36 (fun hc => ?_) (fun hc => ?_)
        · have h := gF_go hc h
          refine A_iload_n dX5_readNumber_41 rfl ?_
          refine A_iconst (v := 0) dX5_readNumber_42 (by decide) ?_
          refine A_mmax dX5_readNumber_43 ml_X5_70 (Nat.le_of_ble_eq_true rfl) (Nat.le_of_ble_eq_true rfl) ?_
          refine A_bipush (v := 10) dX5_readNumber_46 (by decide) ?_
          refine A_imul dX5_readNumber_48 ?_
          refine A_aload_n dX5_readNumber_49 rfl ?_
          refine A_getf dX5_readNumber_50 fw_X5_18 ob5 rfl ?_
          refine A_aload_n dX5_readNumber_53 rfl ?_
          refine A_getf dX5_readNumber_54 fw_X5_33 ob5 rfl ?_
          obtain ⟨hg, h⟩ := gV_go h
          refine A_iald dX5_readNumber_57 ia32 hg ?_
          refine A_iadd dX5_readNumber_58 ?_
          refine A_bipush (v := 48) dX5_readNumber_59 (by decide) ?_
          refine A_isub dX5_readNumber_61 ?_
          refine A_istoren1 dX5_readNumber_62 (by decide) rfl (bI_go h (G := fun z => AT l g RX5 cX5_readNumber 3 (some .int) (rmM 1 22) (PI r Mr) 63 [some (.ref (g.1 5)), some (.int z), some (.int v2)] [] M1) (fun x3 h => ?_))
          refine A_aload_n dX5_readNumber_63 rfl ?_
          refine A_dup dX5_readNumber_64 rfl ?_
          refine A_getf dX5_readNumber_65 fw_X5_33 ob5 rfl ?_
          refine A_iconst (v := 1) dX5_readNumber_68 (by decide) ?_
          refine A_iadd dX5_readNumber_69 ?_
          refine A_putf dX5_readNumber_70 pw_X5_33 ob5 pf5_4 (Nat.le_of_ble_eq_true rfl) (bM_go h (fun M4 h => ?_))
          refine A_iinc2 (d := 1) dX5_readNumber_73 (by decide) (by decide) rfl ?_
          refine A_goto dX5_readNumber_76 ?_
          exact A_le (lvLe_s (lvLe_s (lvLe_s lvLe_0))) (ih4 _ _ _ K4 h hK4)
        · have h := gT_go hc h
          refine A_iload_n dX5_readNumber_39 rfl ?_
          exact A_iret dX5_readNumber_40 (pI_go h)
def f_X5_readNumber  (M : Mem) : Option Ret := f_X5_readNumber_L4  FU (-1 : Int32) (0 : Int32) M (fun w5 w6 M7 => some (w5, M7))
set_option maxRecDepth 100000 in
theorem ok_X5_readNumber {l : Launch} {g : Cx}  {M : Mem} {r : Int32} {Mr : Mem} (h : f_X5_readNumber  M = some (r, Mr)) : CT l g yX5_readNumber cX5_readNumber 3 (some .int) 1 22 [.ref (g.1 5)] M (PI r Mr) := by
  refine CT_of (lv := [some (.ref (g.1 5)), none, none]) (by decide) rfl (Nat.le_of_ble_eq_true rfl) ?_
  unfold f_X5_readNumber at h
  refine A_iconst (v := -1) dX5_readNumber_0 (by decide) ?_
  refine A_istoren1 dX5_readNumber_1 (by decide) rfl ?_
  refine A_iconst (v := 0) dX5_readNumber_2 (by decide) ?_
  refine A_istoren2 dX5_readNumber_3 (by decide) rfl ?_
  refine f_X5_readNumber_L4_ok  FU _ _ _ _ h (fun w5 w6 M7 h => ?_)
  refine A_iload_n dX5_readNumber_79 rfl ?_
  exact A_iret dX5_readNumber_80 (pI_go h)
-- BenchTimes$Rules.readClause
theorem dX5_readClause_0 : di cX5_readClause 0 (.aload_n 0) 1 1 := ⟨by decide +kernel, rfl⟩
theorem dX5_readClause_1 : di cX5_readClause 1 (.invokevirtual 45) 3 4 := ⟨by decide +kernel, rfl⟩
theorem dX5_readClause_4 : di cX5_readClause 4 (.istore_n 1) 1 5 := ⟨by decide +kernel, rfl⟩
theorem dX5_readClause_5 : di cX5_readClause 5 (.iload_n 1) 1 6 := ⟨by decide +kernel, rfl⟩
theorem dX5_readClause_6 : di cX5_readClause 6 (.iconst (-1)) 1 7 := ⟨by decide +kernel, rfl⟩
theorem dX5_readClause_7 : dj cX5_readClause 7 (.if_icmp .eq) 10 19 := ⟨12, by decide +kernel, rfl, rfl⟩
theorem dX5_readClause_10 : di cX5_readClause 10 (.aload_n 0) 1 11 := ⟨by decide +kernel, rfl⟩
theorem dX5_readClause_11 : di cX5_readClause 11 (.bipush 32) 2 13 := ⟨by decide +kernel, rfl⟩
theorem dX5_readClause_13 : di cX5_readClause 13 (.invokevirtual 48) 3 16 := ⟨by decide +kernel, rfl⟩
theorem dX5_readClause_16 : dj cX5_readClause 16 (.ifCond .ne) 19 21 := ⟨5, by decide +kernel, rfl, rfl⟩
theorem dX5_readClause_19 : di cX5_readClause 19 (.iconst 0) 1 20 := ⟨by decide +kernel, rfl⟩
theorem dX5_readClause_20 : di cX5_readClause 20 (.ireturn) 1 21 := ⟨by decide +kernel, rfl⟩
theorem dX5_readClause_21 : di cX5_readClause 21 (.aload_n 0) 1 22 := ⟨by decide +kernel, rfl⟩
theorem dX5_readClause_22 : di cX5_readClause 22 (.invokevirtual 52) 3 25 := ⟨by decide +kernel, rfl⟩
theorem dX5_readClause_25 : di cX5_readClause 25 (.istore_n 2) 1 26 := ⟨by decide +kernel, rfl⟩
theorem dX5_readClause_26 : di cX5_readClause 26 (.iload_n 2) 1 27 := ⟨by decide +kernel, rfl⟩
theorem dX5_readClause_27 : di cX5_readClause 27 (.iconst (-1)) 1 28 := ⟨by decide +kernel, rfl⟩
theorem dX5_readClause_28 : dj cX5_readClause 28 (.if_icmp .eq) 31 49 := ⟨21, by decide +kernel, rfl, rfl⟩
theorem dX5_readClause_31 : di cX5_readClause 31 (.iload_n 2) 1 32 := ⟨by decide +kernel, rfl⟩
theorem dX5_readClause_32 : di cX5_readClause 32 (.getstatic 55) 3 35 := ⟨by decide +kernel, rfl⟩
theorem dX5_readClause_35 : di cX5_readClause 35 (.iload_n 1) 1 36 := ⟨by decide +kernel, rfl⟩
theorem dX5_readClause_36 : di cX5_readClause 36 (.iaload) 1 37 := ⟨by decide +kernel, rfl⟩
theorem dX5_readClause_37 : dj cX5_readClause 37 (.if_icmp .gt) 40 49 := ⟨12, by decide +kernel, rfl, rfl⟩
theorem dX5_readClause_40 : di cX5_readClause 40 (.aload_n 0) 1 41 := ⟨by decide +kernel, rfl⟩
theorem dX5_readClause_41 : di cX5_readClause 41 (.bipush 59) 2 43 := ⟨by decide +kernel, rfl⟩
theorem dX5_readClause_43 : di cX5_readClause 43 (.invokevirtual 48) 3 46 := ⟨by decide +kernel, rfl⟩
theorem dX5_readClause_46 : dj cX5_readClause 46 (.ifCond .ne) 49 51 := ⟨5, by decide +kernel, rfl, rfl⟩
theorem dX5_readClause_49 : di cX5_readClause 49 (.iconst 0) 1 50 := ⟨by decide +kernel, rfl⟩
theorem dX5_readClause_50 : di cX5_readClause 50 (.ireturn) 1 51 := ⟨by decide +kernel, rfl⟩
theorem dX5_readClause_51 : di cX5_readClause 51 (.aload_n 0) 1 52 := ⟨by decide +kernel, rfl⟩
theorem dX5_readClause_52 : di cX5_readClause 52 (.getfield 15) 3 55 := ⟨by decide +kernel, rfl⟩
theorem dX5_readClause_55 : di cX5_readClause 55 (.iload_n 1) 1 56 := ⟨by decide +kernel, rfl⟩
theorem dX5_readClause_56 : di cX5_readClause 56 (.iload_n 2) 1 57 := ⟨by decide +kernel, rfl⟩
theorem dX5_readClause_57 : di cX5_readClause 57 (.iastore) 1 58 := ⟨by decide +kernel, rfl⟩
theorem dX5_readClause_58 : di cX5_readClause 58 (.iconst 1) 1 59 := ⟨by decide +kernel, rfl⟩
theorem dX5_readClause_59 : di cX5_readClause 59 (.ireturn) 1 60 := ⟨by decide +kernel, rfl⟩
def f_X5_readClause  (M : Mem) : Option Ret := bE (f_X5_readWord M) (fun r2 M1 => if r2 = (-1 : Int32) then (some ((0 : Int32), M1)) else (bE (f_X5_readSign (32 : Int32) M1) (fun r4 M3 => if r4 = 0 then (some ((0 : Int32), M3)) else (bE (f_X5_readNumber M3) (fun r6 M5 => if r6 = (-1 : Int32) then (some ((0 : Int32), M5)) else (gV r2 5 (if (tbG r2.toNatClampNeg) < r6 then (some ((0 : Int32), M5)) else (bE (f_X5_readSign (59 : Int32) M5) (fun r8 M7 => if r8 = 0 then (some ((0 : Int32), M7)) else (gV r2 5 (bM (up2 M7 31 r2.toNatClampNeg r6) (fun M9 => some ((1 : Int32), M9)))))))))))))
set_option maxRecDepth 100000 in
theorem ok_X5_readClause {l : Launch} {g : Cx}  {M : Mem} {r : Int32} {Mr : Mem} (h : f_X5_readClause  M = some (r, Mr)) : CT l g yX5_readClause cX5_readClause 3 (some .boolean) 7 152 [.ref (g.1 5)] M (PI r Mr) := by
  refine CT_of (lv := [some (.ref (g.1 5)), none, none]) (by decide) rfl (Nat.le_of_ble_eq_true rfl) ?_
  unfold f_X5_readClause at h
  refine A_aload_n dX5_readClause_0 rfl ?_
  obtain ⟨r2, M1, h1, h⟩ := bE_go h
  refine A_cVi0 dX5_readClause_1 ml_X5_45 mb_X5_readWord mi_X5_readWord ob5 rfl rfl ⟨Nat.le_of_ble_eq_true rfl, Nat.le_of_ble_eq_true rfl⟩ (Nat.le_of_ble_eq_true rfl) (ok_X5_readWord h1) ?_
  refine A_istoren1 dX5_readClause_4 (by decide) rfl ?_
  refine A_iload_n dX5_readClause_5 rfl ?_
  refine A_iconst (v := -1) dX5_readClause_6 (by decide) ?_
  refine A_icmp_eq dX5_readClause_7 (fun hc => ?_) (fun hc => ?_)
  · have h := gT_go hc h
    refine A_iconst (v := 0) dX5_readClause_19 (by decide) ?_
    exact A_zret dX5_readClause_20 (by decide) (pI_go h)
  · have h := gF_go hc h
    refine A_aload_n dX5_readClause_10 rfl ?_
    refine A_bipush (v := 32) dX5_readClause_11 (by decide) ?_
    obtain ⟨r4, M3, h1, h⟩ := bE_go h
    refine A_cVi1 dX5_readClause_13 ml_X5_48 mb_X5_readSign mi_X5_readSign ob5 rfl rfl ⟨Nat.le_of_ble_eq_true rfl, Nat.le_of_ble_eq_true rfl⟩ (Nat.le_of_ble_eq_true rfl) (ok_X5_readSign h1) ?_
    refine A_if_ne dX5_readClause_16 (fun hc => ?_) (fun hc => ?_)
    · have h := gF_go hc h
      refine A_aload_n dX5_readClause_21 rfl ?_
      obtain ⟨r6, M5, h1, h⟩ := bE_go h
      refine A_cVi0 dX5_readClause_22 ml_X5_52 mb_X5_readNumber mi_X5_readNumber ob5 rfl rfl ⟨Nat.le_of_ble_eq_true rfl, Nat.le_of_ble_eq_true rfl⟩ (Nat.le_of_ble_eq_true rfl) (ok_X5_readNumber h1) ?_
      refine A_istoren2 dX5_readClause_25 (by decide) rfl ?_
      refine A_iload_n dX5_readClause_26 rfl ?_
      refine A_iconst (v := -1) dX5_readClause_27 (by decide) ?_
      refine A_icmp_eq dX5_readClause_28 (fun hc => ?_) (fun hc => ?_)
      · have h := gT_go hc h
        refine A_iconst (v := 0) dX5_readClause_49 (by decide) ?_
        exact A_zret dX5_readClause_50 (by decide) (pI_go h)
      · have h := gF_go hc h
        refine A_iload_n dX5_readClause_31 rfl ?_
        refine A_gets dX5_readClause_32 sl_X5_55 (fun _ _ _ hst => hst.2.1.1) ?_
        refine A_iload_n dX5_readClause_35 rfl ?_
        obtain ⟨hg, h⟩ := gV_go h
        refine A_tald (f := tbG) dX5_readClause_36 (fun _ _ _ hst => hst.2.1.2) hg ?_
        refine A_icmp_gt dX5_readClause_37 (fun hc => ?_) (fun hc => ?_)
        · have h := gT_go hc h
          refine A_iconst (v := 0) dX5_readClause_49 (by decide) ?_
          exact A_zret dX5_readClause_50 (by decide) (pI_go h)
        · have h := gF_go hc h
          refine A_aload_n dX5_readClause_40 rfl ?_
          refine A_bipush (v := 59) dX5_readClause_41 (by decide) ?_
          obtain ⟨r8, M7, h1, h⟩ := bE_go h
          refine A_cVi1 dX5_readClause_43 ml_X5_48 mb_X5_readSign mi_X5_readSign ob5 rfl rfl ⟨Nat.le_of_ble_eq_true rfl, Nat.le_of_ble_eq_true rfl⟩ (Nat.le_of_ble_eq_true rfl) (ok_X5_readSign h1) ?_
          refine A_if_ne dX5_readClause_46 (fun hc => ?_) (fun hc => ?_)
          · have h := gF_go hc h
            refine A_aload_n dX5_readClause_51 rfl ?_
            refine A_getf dX5_readClause_52 fw_X5_15 ob5 rfl ?_
            refine A_iload_n dX5_readClause_55 rfl ?_
            refine A_iload_n dX5_readClause_56 rfl ?_
            obtain ⟨hg, h⟩ := gV_go h
            refine A_iast dX5_readClause_57 ia31 hg (bM_go h (fun M9 h => ?_))
            refine A_iconst (v := 1) dX5_readClause_58 (by decide) ?_
            exact A_zret dX5_readClause_59 (by decide) (pI_go h)
          · have h := gT_go hc h
            refine A_iconst (v := 0) dX5_readClause_49 (by decide) ?_
            exact A_zret dX5_readClause_50 (by decide) (pI_go h)
    · have h := gT_go hc h
      refine A_iconst (v := 0) dX5_readClause_19 (by decide) ?_
      exact A_zret dX5_readClause_20 (by decide) (pI_go h)
