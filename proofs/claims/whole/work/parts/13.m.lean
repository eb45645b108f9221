-- BenchTimes$Rules.readClauses
theorem dX5_readClauses_0 : di cX5_readClauses 0 (.aload_n 0) 1 1 := ⟨by decide +kernel, rfl⟩
theorem dX5_readClauses_1 : di cX5_readClauses 1 (.getfield 15) 3 4 := ⟨by decide +kernel, rfl⟩
theorem dX5_readClauses_4 : di cX5_readClauses 4 (.iconst (-1)) 1 5 := ⟨by decide +kernel, rfl⟩
theorem dX5_readClauses_5 : di cX5_readClauses 5 (.invokestatic 36) 3 8 := ⟨by decide +kernel, rfl⟩
theorem dX5_readClauses_8 : di cX5_readClauses 8 (.aload_n 0) 1 9 := ⟨by decide +kernel, rfl⟩
theorem dX5_readClauses_9 : di cX5_readClauses 9 (.iconst 0) 1 10 := ⟨by decide +kernel, rfl⟩
theorem dX5_readClauses_10 : di cX5_readClauses 10 (.putfield 33) 3 13 := ⟨by decide +kernel, rfl⟩
theorem dX5_readClauses_13 : di cX5_readClauses 13 (.iconst 0) 1 14 := ⟨by decide +kernel, rfl⟩
theorem dX5_readClauses_14 : di cX5_readClauses 14 (.istore_n 1) 1 15 := ⟨by decide +kernel, rfl⟩
theorem dX5_readClauses_15 : di cX5_readClauses 15 (.iload_n 1) 1 16 := ⟨by decide +kernel, rfl⟩
theorem dX5_readClauses_16 : di cX5_readClauses 16 (.iconst 5) 1 17 := ⟨by decide +kernel, rfl⟩
theorem dX5_readClauses_17 : dj cX5_readClauses 17 (.if_icmp .gt) 20 46 := ⟨29, by decide +kernel, rfl, rfl⟩
theorem dX5_readClauses_20 : di cX5_readClauses 20 (.aload_n 0) 1 21 := ⟨by decide +kernel, rfl⟩
theorem dX5_readClauses_21 : di cX5_readClauses 21 (.getfield 33) 3 24 := ⟨by decide +kernel, rfl⟩
theorem dX5_readClauses_24 : di cX5_readClauses 24 (.aload_n 0) 1 25 := ⟨by decide +kernel, rfl⟩
theorem dX5_readClauses_25 : di cX5_readClauses 25 (.getfield 21) 3 28 := ⟨by decide +kernel, rfl⟩
theorem dX5_readClauses_28 : dj cX5_readClauses 28 (.if_icmp .ge) 31 46 := ⟨18, by decide +kernel, rfl, rfl⟩
theorem dX5_readClauses_31 : di cX5_readClauses 31 (.aload_n 0) 1 32 := ⟨by decide +kernel, rfl⟩
theorem dX5_readClauses_32 : di cX5_readClauses 32 (.invokevirtual 42) 3 35 := ⟨by decide +kernel, rfl⟩
theorem dX5_readClauses_35 : dj cX5_readClauses 35 (.ifCond .ne) 38 40 := ⟨5, by decide +kernel, rfl, rfl⟩
theorem dX5_readClauses_38 : di cX5_readClauses 38 (.iconst 0) 1 39 := ⟨by decide +kernel, rfl⟩
theorem dX5_readClauses_39 : di cX5_readClauses 39 (.ireturn) 1 40 := ⟨by decide +kernel, rfl⟩
theorem dX5_readClauses_40 : di cX5_readClauses 40 (.iinc 1 1) 3 43 := ⟨by decide +kernel, rfl⟩
theorem dX5_readClauses_43 : dj cX5_readClauses 43 .goto 46 15 := ⟨-28, by decide +kernel, rfl, rfl⟩
theorem dX5_readClauses_46 : di cX5_readClauses 46 (.iconst 1) 1 47 := ⟨by decide +kernel, rfl⟩
theorem dX5_readClauses_47 : di cX5_readClauses 47 (.ireturn) 1 48 := ⟨by decide +kernel, rfl⟩
def f_X5_readClauses_L15  : Nat → Int32 → Mem → (Int32 → Mem → Option Ret) → Option Ret
  | 0, _, _, _ => none
  | k15 + 1, v1, M, K15 => if (5 : Int32) < v1 then (K15 v1 M) else (if (M.1 5 3) ≤ (M.1 5 4) then (K15 v1 M) else (bE (f_X5_readClause M) (fun r5 M4 => if r5 = 0 then (some ((0 : Int32), M4)) else (f_X5_readClauses_L15  k15 (v1 + (1 : Int32)) M4 K15))))
set_option maxRecDepth 100000 in
theorem f_X5_readClauses_L15_ok {l : Launch} {g : Cx}   {r : Int32} {Mr : Mem} : ∀ (k : Nat) (v1 : Int32) (M : Mem) (K15 : Int32 → Mem → Option Ret), f_X5_readClauses_L15  k v1 M K15 = some (r, Mr) → (∀ (v1 : Int32) (M : Mem), K15 v1 M = some (r, Mr) → AT l g RX5 cX5_readClauses 2 (some .boolean) (rmM 8 174) (PI r Mr) 46 [some (.ref (g.1 5)), some (.int v1)] [] M) → AT l g RX5 cX5_readClauses 2 (some .boolean) (rmM 8 174) (PI r Mr) 15 [some (.ref (g.1 5)), some (.int v1)] [] M
  | 0, v1, M, K15, h, hK15 => by cases h
  | k15 + 1, v1, M, K15, h, hK15 => by
    have ih15 := f_X5_readClauses_L15_ok (l := l) (g := g)  (r := r) (Mr := Mr) k15
    rw [f_X5_readClauses_L15] at h
    refine A_iload_n dX5_readClauses_15 rfl ?_
    refine A_iconst (v := 5) dX5_readClauses_16 (by decide) ?_
    refine A_icmp_gt dX5_readClauses_17 (fun hc => ?_) (fun hc => ?_)
    · have h := gT_go hc h
      exact A_le (lvLe_s (lvLe_s lvLe_0)) (hK15 _ _ h)
    · have h := gF_go hc h
      refine A_aload_n dX5_readClauses_20 rfl ?_
      refine A_getf dX5_readClauses_21 fw_X5_33 ob5 rfl ?_
      refine A_aload_n dX5_readClauses_24 rfl ?_
      refine A_getf dX5_readClauses_25 fw_X5_21 ob5 rfl ?_
      refine A_icmp_ge dX5_readClauses_28 (fun hc => ?_) (fun hc => ?_)
      · have h := gT_go hc h
        exact A_le (lvLe_s (lvLe_s lvLe_0)) (hK15 _ _ h)
      · have h := gF_go hc h
        refine A_aload_n dX5_readClauses_31 rfl ?_
        obtain ⟨r5, M4, h1, h⟩ := bE_go h
        refine A_cVi0 dX5_readClauses_32 ml_X5_42 mb_X5_readClause mi_X5_readClause ob5 rfl rfl ⟨Nat.le_of_ble_eq_true rfl, Nat.le_of_ble_eq_true rfl⟩ (Nat.le_of_ble_eq_true rfl) (ok_X5_readClause h1) ?_
        refine A_if_ne dX5_readClauses_35 (fun hc => ?_) (fun hc => ?_)
        · have h := gF_go hc h
          refine A_iinc1 (d := 1) dX5_readClauses_40 (by decide) (by decide) rfl ?_
          refine A_goto dX5_readClauses_43 ?_
          exact A_le (lvLe_s (lvLe_s lvLe_0)) (ih15 _ _ K15 h hK15)
        · have h := gT_go hc h
          refine A_iconst (v := 0) dX5_readClauses_38 (by decide) ?_
          exact A_zret dX5_readClauses_39 (by decide) (pI_go h)
def f_X5_readClauses  (M : Mem) : Option Ret := bE (f_J7_fill_53178 31 5 (-1 : Int32) M) (fun r2 M1 => bM (up2 M1 5 4 (0 : Int32)) (fun M3 => f_X5_readClauses_L15  FU (0 : Int32) M3 (fun w6 M7 => some ((1 : Int32), M7))))
set_option maxRecDepth 100000 in
theorem ok_X5_readClauses {l : Launch} {g : Cx}  {M : Mem} {r : Int32} {Mr : Mem} (h : f_X5_readClauses  M = some (r, Mr)) : CT l g yX5_readClauses cX5_readClauses 2 (some .boolean) 8 174 [.ref (g.1 5)] M (PI r Mr) := by
  refine CT_of (lv := [some (.ref (g.1 5)), none]) (by decide) rfl (Nat.le_of_ble_eq_true rfl) ?_
  unfold f_X5_readClauses at h
  refine A_aload_n dX5_readClauses_0 rfl ?_
  refine A_getf dX5_readClauses_1 fw_X5_15 ob5 rfl ?_
  refine A_iconst (v := -1) dX5_readClauses_4 (by decide) ?_
  obtain ⟨r2, M1, h1, h⟩ := bE_go h
  refine A_cSv2 dX5_readClauses_5 ml_X5_36 mb_J7_fill_53178 ms_J7_fill_53178 ⟨Nat.le_of_ble_eq_true rfl, Nat.le_of_ble_eq_true rfl⟩ (Nat.le_of_ble_eq_true rfl) (ok_J7_fill_53178 ia31 h1) ?_
  refine A_aload_n dX5_readClauses_8 rfl ?_
  refine A_iconst (v := 0) dX5_readClauses_9 (by decide) ?_
  refine A_putf dX5_readClauses_10 pw_X5_33 ob5 pf5_4 (Nat.le_of_ble_eq_true rfl) (bM_go h (fun M3 h => ?_))
  refine A_iconst (v := 0) dX5_readClauses_13 (by decide) ?_
  refine A_istoren1 dX5_readClauses_14 (by decide) rfl ?_
  refine f_X5_readClauses_L15_ok  FU _ _ _ h (fun w6 M7 h => ?_)
  refine A_iconst (v := 1) dX5_readClauses_46 (by decide) ?_
  exact A_zret dX5_readClauses_47 (by decide) (pI_go h)
-- BenchTimes$Rules.takeNewValues
theorem dX5_takeNewValues_0 : di cX5_takeNewValues 0 (.iconst 0) 1 1 := ⟨by decide +kernel, rfl⟩
theorem dX5_takeNewValues_1 : di cX5_takeNewValues 1 (.istore_n 1) 1 2 := ⟨by decide +kernel, rfl⟩
theorem dX5_takeNewValues_2 : di cX5_takeNewValues 2 (.iconst 0) 1 3 := ⟨by decide +kernel, rfl⟩
theorem dX5_takeNewValues_3 : di cX5_takeNewValues 3 (.istore_n 2) 1 4 := ⟨by decide +kernel, rfl⟩
theorem dX5_takeNewValues_4 : di cX5_takeNewValues 4 (.iload_n 2) 1 5 := ⟨by decide +kernel, rfl⟩
theorem dX5_takeNewValues_5 : di cX5_takeNewValues 5 (.iconst 5) 1 6 := ⟨by decide +kernel, rfl⟩
theorem dX5_takeNewValues_6 : dj cX5_takeNewValues 6 (.if_icmp .ge) 9 40 := ⟨34, by decide +kernel, rfl, rfl⟩
theorem dX5_takeNewValues_9 : di cX5_takeNewValues 9 (.aload_n 0) 1 10 := ⟨by decide +kernel, rfl⟩
theorem dX5_takeNewValues_10 : di cX5_takeNewValues 10 (.getfield 15) 3 13 := ⟨by decide +kernel, rfl⟩
theorem dX5_takeNewValues_13 : di cX5_takeNewValues 13 (.iload_n 2) 1 14 := ⟨by decide +kernel, rfl⟩
theorem dX5_takeNewValues_14 : di cX5_takeNewValues 14 (.iaload) 1 15 := ⟨by decide +kernel, rfl⟩
theorem dX5_takeNewValues_15 : di cX5_takeNewValues 15 (.iconst (-1)) 1 16 := ⟨by decide +kernel, rfl⟩
theorem dX5_takeNewValues_16 : dj cX5_takeNewValues 16 (.if_icmp .eq) 19 34 := ⟨18, by decide +kernel, rfl, rfl⟩
theorem dX5_takeNewValues_19 : di cX5_takeNewValues 19 (.aload_n 0) 1 20 := ⟨by decide +kernel, rfl⟩
theorem dX5_takeNewValues_20 : di cX5_takeNewValues 20 (.getfield 9) 3 23 := ⟨by decide +kernel, rfl⟩
theorem dX5_takeNewValues_23 : di cX5_takeNewValues 23 (.iload_n 2) 1 24 := ⟨by decide +kernel, rfl⟩
theorem dX5_takeNewValues_24 : di cX5_takeNewValues 24 (.aload_n 0) 1 25 := ⟨by decide +kernel, rfl⟩
theorem dX5_takeNewValues_25 : di cX5_takeNewValues 25 (.getfield 15) 3 28 := ⟨by decide +kernel, rfl⟩
theorem dX5_takeNewValues_28 : di cX5_takeNewValues 28 (.iload_n 2) 1 29 := ⟨by decide +kernel, rfl⟩
theorem dX5_takeNewValues_29 : di cX5_takeNewValues 29 (.iaload) 1 30 := ⟨by decide +kernel, rfl⟩
theorem dX5_takeNewValues_30 : di cX5_takeNewValues 30 (.iastore) 1 31 := ⟨by decide +kernel, rfl⟩
theorem dX5_takeNewValues_31 : di cX5_takeNewValues 31 (.iinc 1 1) 3 34 := ⟨by decide +kernel, rfl⟩
theorem dX5_takeNewValues_34 : di cX5_takeNewValues 34 (.iinc 2 1) 3 37 := ⟨by decide +kernel, rfl⟩
theorem dX5_takeNewValues_37 : dj cX5_takeNewValues 37 .goto 40 4 := ⟨-33, by decide +kernel, rfl, rfl⟩
theorem dX5_takeNewValues_40 : di cX5_takeNewValues 40 (.iload_n 1) 1 41 := ⟨by decide +kernel, rfl⟩
theorem dX5_takeNewValues_41 : di cX5_takeNewValues 41 (.ireturn) 1 42 := ⟨by decide +kernel, rfl⟩
def f_X5_takeNewValues_L4  : Nat → Int32 → Int32 → Mem → (Int32 → Int32 → Mem → Option Ret) → Option Ret
  | 0, _, _, _, _ => none
  | k4 + 1, v1, v2, M, K4 => if (5 : Int32) ≤ v2 then (K4 v1 v2 M) else (gV v2 5 (jn (α := Int32 → Mem → Option Ret) (fun (y2 : Int32) (M3 : Mem) => f_X5_takeNewValues_L4  k4 y2 (v2 + (1 : Int32)) M3 K4) (fun J1 => if (M.1 31 v2.toNatClampNeg) = (-1 : Int32) then (J1 v1 M) else (gV v2 5 (gV v2 5 (bM (up2 M 30 v2.toNatClampNeg (M.1 31 v2.toNatClampNeg)) (fun M4 => J1 (v1 + (1 : Int32)) M4)))))))
set_option maxRecDepth 100000 in
theorem f_X5_takeNewValues_L4_ok {l : Launch} {g : Cx}   {r : Int32} {Mr : Mem} : ∀ (k : Nat) (v1 : Int32) (v2 : Int32) (M : Mem) (K4 : Int32 → Int32 → Mem → Option Ret), f_X5_takeNewValues_L4  k v1 v2 M K4 = some (r, Mr) → (∀ (v1 : Int32) (v2 : Int32) (M : Mem), K4 v1 v2 M = some (r, Mr) → AT l g RX5 cX5_takeNewValues 3 (some .int) (rmM 0 0) (PI r Mr) 40 [some (.ref (g.1 5)), some (.int v1), some (.int v2)] [] M) → AT l g RX5 cX5_takeNewValues 3 (some .int) (rmM 0 0) (PI r Mr) 4 [some (.ref (g.1 5)), some (.int v1), some (.int v2)] [] M
  | 0, v1, v2, M, K4, h, hK4 => by cases h
  | k4 + 1, v1, v2, M, K4, h, hK4 => by
    have ih4 := f_X5_takeNewValues_L4_ok (l := l) (g := g)  (r := r) (Mr := Mr) k4
    rw [f_X5_takeNewValues_L4] at h
    refine A_iload_n dX5_takeNewValues_4 rfl ?_
    refine A_iconst (v := 5) dX5_takeNewValues_5 (by decide) ?_
    refine A_icmp_ge dX5_takeNewValues_6 (fun hc => ?_) (fun hc => ?_)
    · have h := gT_go hc h
      exact A_le (lvLe_s (lvLe_s (lvLe_s lvLe_0))) (hK4 _ _ _ h)
    · have h := gF_go hc h
      refine A_aload_n dX5_takeNewValues_9 rfl ?_
      refine A_getf dX5_takeNewValues_10 fw_X5_15 ob5 rfl ?_
      refine A_iload_n dX5_takeNewValues_13 rfl ?_
      obtain ⟨hg, h⟩ := gV_go h
      refine A_iald dX5_takeNewValues_14 ia31 hg ?_
      refine A_iconst (v := -1) dX5_takeNewValues_15 (by decide) ?_
      obtain ⟨J1, hJ1, h⟩ := jn_go h
      have JJ1 : ∀ (y2 : Int32) (M3 : Mem), J1 y2 M3 = some (r, Mr) → AT l g RX5 cX5_takeNewValues 3 (some .int) (rmM 0 0) (PI r Mr) 34 [some (.ref (g.1 5)), some (.int y2), some (.int v2)] [] M3 := by
        intro y2 M3 h
        rw [hJ1] at h
        refine A_iinc2 (d := 1) dX5_takeNewValues_34 (by decide) (by decide) rfl ?_
        refine A_goto dX5_takeNewValues_37 ?_
        exact A_le (lvLe_s (lvLe_s (lvLe_s lvLe_0))) (ih4 _ _ _ K4 h hK4)
      refine A_icmp_eq dX5_takeNewValues_16 (fun hc => ?_) (fun hc => ?_)
      · have h := gT_go hc h
        exact A_le (lvLe_s (lvLe_s (lvLe_s lvLe_0))) (JJ1 _ _ h)
      · have h := gF_go hc h
        refine A_aload_n dX5_takeNewValues_19 rfl ?_
        refine A_getf dX5_takeNewValues_20 fw_X5_9 ob5 rfl ?_
        refine A_iload_n dX5_takeNewValues_23 rfl ?_
        refine A_aload_n dX5_takeNewValues_24 rfl ?_
        refine A_getf dX5_takeNewValues_25 fw_X5_15 ob5 rfl ?_
        refine A_iload_n dX5_takeNewValues_28 rfl ?_
        obtain ⟨hg, h⟩ := gV_go h
        refine A_iald dX5_takeNewValues_29 ia31 hg ?_
        obtain ⟨hg, h⟩ := gV_go h
        refine A_iast dX5_takeNewValues_30 ia30 hg (bM_go h (fun M4 h => ?_))
        refine A_iinc1 (d := 1) dX5_takeNewValues_31 (by decide) (by decide) rfl ?_
        exact A_le (lvLe_s (lvLe_s (lvLe_s lvLe_0))) (JJ1 _ _ h)
def f_X5_takeNewValues  (M : Mem) : Option Ret := f_X5_takeNewValues_L4  FU (0 : Int32) (0 : Int32) M (fun w5 w6 M7 => some (w5, M7))
set_option maxRecDepth 100000 in
theorem ok_X5_takeNewValues {l : Launch} {g : Cx}  {M : Mem} {r : Int32} {Mr : Mem} (h : f_X5_takeNewValues  M = some (r, Mr)) : CT l g yX5_takeNewValues cX5_takeNewValues 3 (some .int) 0 0 [.ref (g.1 5)] M (PI r Mr) := by
  refine CT_of (lv := [some (.ref (g.1 5)), none, none]) (by decide) rfl (Nat.le_of_ble_eq_true rfl) ?_
  unfold f_X5_takeNewValues at h
  refine A_iconst (v := 0) dX5_takeNewValues_0 (by decide) ?_
  refine A_istoren1 dX5_takeNewValues_1 (by decide) rfl ?_
  refine A_iconst (v := 0) dX5_takeNewValues_2 (by decide) ?_
  refine A_istoren2 dX5_takeNewValues_3 (by decide) rfl ?_
  refine f_X5_takeNewValues_L4_ok  FU _ _ _ _ h (fun w5 w6 M7 h => ?_)
  refine A_iload_n dX5_takeNewValues_40 rfl ?_
  exact A_iret dX5_takeNewValues_41 (pI_go h)
-- BenchTimes$Rules.takeTape
theorem dX5_takeTape_0 : di cX5_takeTape 0 (.aload_n 0) 1 1 := ⟨by decide +kernel, rfl⟩
theorem dX5_takeTape_1 : di cX5_takeTape 1 (.invokevirtual 25) 3 4 := ⟨by decide +kernel, rfl⟩
theorem dX5_takeTape_4 : di cX5_takeTape 4 (.istore_n 1) 1 5 := ⟨by decide +kernel, rfl⟩
theorem dX5_takeTape_5 : di cX5_takeTape 5 (.aload_n 0) 1 6 := ⟨by decide +kernel, rfl⟩
theorem dX5_takeTape_6 : di cX5_takeTape 6 (.iconst 0) 1 7 := ⟨by decide +kernel, rfl⟩
theorem dX5_takeTape_7 : di cX5_takeTape 7 (.putfield 21) 3 10 := ⟨by decide +kernel, rfl⟩
theorem dX5_takeTape_10 : di cX5_takeTape 10 (.iload_n 1) 1 11 := ⟨by decide +kernel, rfl⟩
theorem dX5_takeTape_11 : dj cX5_takeTape 11 (.ifCond .eq) 14 21 := ⟨10, by decide +kernel, rfl, rfl⟩
theorem dX5_takeTape_14 : di cX5_takeTape 14 (.aload_n 0) 1 15 := ⟨by decide +kernel, rfl⟩
theorem dX5_takeTape_15 : di cX5_takeTape 15 (.invokevirtual 29) 3 18 := ⟨by decide +kernel, rfl⟩
theorem dX5_takeTape_18 : dj cX5_takeTape 18 .goto 21 28 := ⟨10, by decide +kernel, rfl, rfl⟩
theorem dX5_takeTape_21 : di cX5_takeTape 21 (.bipush (-10)) 2 23 := ⟨by decide +kernel, rfl⟩
theorem dX5_takeTape_23 : di cX5_takeTape 23 (.aload_n 0) 1 24 := ⟨by decide +kernel, rfl⟩
theorem dX5_takeTape_24 : di cX5_takeTape 24 (.getfield 33) 3 27 := ⟨by decide +kernel, rfl⟩
theorem dX5_takeTape_27 : di cX5_takeTape 27 (.isub) 1 28 := ⟨by decide +kernel, rfl⟩
theorem dX5_takeTape_28 : di cX5_takeTape 28 (.ireturn) 1 29 := ⟨by decide +kernel, rfl⟩
def f_X5_takeTape  (M : Mem) : Option Ret := bE (f_X5_readClauses M) (fun r2 M1 => bM (up2 M1 5 3 (0 : Int32)) (fun M3 => jn (α := Int32 → Mem → Option Ret) (fun (z5 : Int32) (M6 : Mem) => some (z5, M6)) (fun J4 => if r2 = 0 then (J4 ((-10 : Int32) - (M3.1 5 4)) M3) else (bE (f_X5_takeNewValues M3) (fun r8 M7 => J4 r8 M7)))))
set_option maxRecDepth 100000 in
theorem ok_X5_takeTape {l : Launch} {g : Cx}  {M : Mem} {r : Int32} {Mr : Mem} (h : f_X5_takeTape  M = some (r, Mr)) : CT l g yX5_takeTape cX5_takeTape 2 (some .int) 9 195 [.ref (g.1 5)] M (PI r Mr) := by
  refine CT_of (lv := [some (.ref (g.1 5)), none]) (by decide) rfl (Nat.le_of_ble_eq_true rfl) ?_
  unfold f_X5_takeTape at h
  refine A_aload_n dX5_takeTape_0 rfl ?_
  obtain ⟨r2, M1, h1, h⟩ := bE_go h
  refine A_cVi0 dX5_takeTape_1 ml_X5_25 mb_X5_readClauses mi_X5_readClauses ob5 rfl rfl ⟨Nat.le_of_ble_eq_true rfl, Nat.le_of_ble_eq_true rfl⟩ (Nat.le_of_ble_eq_true rfl) (ok_X5_readClauses h1) ?_
  refine A_istoren1 dX5_takeTape_4 (by decide) rfl ?_
  refine A_aload_n dX5_takeTape_5 rfl ?_
  refine A_iconst (v := 0) dX5_takeTape_6 (by decide) ?_
  refine A_putf dX5_takeTape_7 pw_X5_21 ob5 pf5_3 (Nat.le_of_ble_eq_true rfl) (bM_go h (fun M3 h => ?_))
  refine A_iload_n dX5_takeTape_10 rfl ?_
  obtain ⟨J4, hJ4, h⟩ := jn_go h
  have JJ4 : ∀ (z5 : Int32) (M6 : Mem), J4 z5 M6 = some (r, Mr) → AT l g RX5 cX5_takeTape 2 (some .int) (rmM 9 195) (PI r Mr) 28 [some (.ref (g.1 5)), some (.int r2)] [.int z5] M6 := by
    intro z5 M6 h
    rw [hJ4] at h
    exact A_iret dX5_takeTape_28 (pI_go h)
  refine A_if_eq dX5_takeTape_11 (fun hc => ?_) (fun hc => ?_)
  · have h := gT_go hc h
    refine A_bipush (v := -10) dX5_takeTape_21 (by decide) ?_
    refine A_aload_n dX5_takeTape_23 rfl ?_
    refine A_getf dX5_takeTape_24 fw_X5_33 ob5 rfl ?_
    refine A_isub dX5_takeTape_27 ?_
    exact A_le (lvLe_s (lvLe_s lvLe_0)) (JJ4 _ _ h)
  · have h := gF_go hc h
    refine A_aload_n dX5_takeTape_14 rfl ?_
    obtain ⟨r8, M7, h1, h⟩ := bE_go h
    refine A_cVi0 dX5_takeTape_15 ml_X5_29 mb_X5_takeNewValues mi_X5_takeNewValues ob5 rfl rfl ⟨Nat.le_of_ble_eq_true rfl, Nat.le_of_ble_eq_true rfl⟩ (Nat.le_of_ble_eq_true rfl) (ok_X5_takeNewValues h1) ?_
    refine A_goto dX5_takeTape_18 ?_
    exact A_le (lvLe_s (lvLe_s lvLe_0)) (JJ4 _ _ h)
-- BenchTimes$WorkRows.goodAt
theorem dX9_goodAt_0 : di cX9_goodAt 0 (.aload_n 0) 1 1 := ⟨by decide +kernel, rfl⟩
theorem dX9_goodAt_1 : di cX9_goodAt 1 (.getfield 21) 3 4 := ⟨by decide +kernel, rfl⟩
theorem dX9_goodAt_4 : di cX9_goodAt 4 (.iload_n 1) 1 5 := ⟨by decide +kernel, rfl⟩
theorem dX9_goodAt_5 : di cX9_goodAt 5 (.iaload) 1 6 := ⟨by decide +kernel, rfl⟩
theorem dX9_goodAt_6 : di cX9_goodAt 6 (.ireturn) 1 7 := ⟨by decide +kernel, rfl⟩
def f_X9_goodAt (v1 : Int32) (M : Mem) : Option Ret := gV v1 100 (some (M.1 36 v1.toNatClampNeg, M))
set_option maxRecDepth 100000 in
theorem ok_X9_goodAt {l : Launch} {g : Cx} {v1 : Int32} {M : Mem} {r : Int32} {Mr : Mem} (h : f_X9_goodAt v1 M = some (r, Mr)) : CT l g yX9_goodAt cX9_goodAt 2 (some .int) 0 0 [.ref (g.1 6), .int v1] M (PI r Mr) := by
  refine CT_of (lv := [some (.ref (g.1 6)), some (.int v1)]) (by decide) rfl (Nat.le_of_ble_eq_true rfl) ?_
  unfold f_X9_goodAt at h
  refine A_aload_n dX9_goodAt_0 rfl ?_
  refine A_getf dX9_goodAt_1 fw_X9_21 ob6 rfl ?_
  refine A_iload_n dX9_goodAt_4 rfl ?_
  obtain ⟨hg, h⟩ := gV_go h
  refine A_iald dX9_goodAt_5 ia36 hg ?_
  exact A_iret dX9_goodAt_6 (pI_go h)
-- BenchTimes$WorkRows.isWatched
theorem dX9_isWatched_0 : di cX9_isWatched 0 (.aload_n 0) 1 1 := ⟨by decide +kernel, rfl⟩
theorem dX9_isWatched_1 : di cX9_isWatched 1 (.getfield 30) 3 4 := ⟨by decide +kernel, rfl⟩
theorem dX9_isWatched_4 : di cX9_isWatched 4 (.iload_n 1) 1 5 := ⟨by decide +kernel, rfl⟩
theorem dX9_isWatched_5 : di cX9_isWatched 5 (.baload) 1 6 := ⟨by decide +kernel, rfl⟩
theorem dX9_isWatched_6 : di cX9_isWatched 6 (.ireturn) 1 7 := ⟨by decide +kernel, rfl⟩
def f_X9_isWatched (v1 : Int32) (M : Mem) : Option Ret := gV v1 100 (gZ (M.1 39 v1.toNatClampNeg) (some (M.1 39 v1.toNatClampNeg, M)))
set_option maxRecDepth 100000 in
theorem ok_X9_isWatched {l : Launch} {g : Cx} {v1 : Int32} {M : Mem} {r : Int32} {Mr : Mem} (h : f_X9_isWatched v1 M = some (r, Mr)) : CT l g yX9_isWatched cX9_isWatched 2 (some .boolean) 0 0 [.ref (g.1 6), .int v1] M (PI r Mr) := by
  refine CT_of (lv := [some (.ref (g.1 6)), some (.int v1)]) (by decide) rfl (Nat.le_of_ble_eq_true rfl) ?_
  unfold f_X9_isWatched at h
  refine A_aload_n dX9_isWatched_0 rfl ?_
  refine A_getf dX9_isWatched_1 fw_X9_30 ob6 rfl ?_
  refine A_iload_n dX9_isWatched_4 rfl ?_
  obtain ⟨hg, h⟩ := gV_go h
  refine A_zald dX9_isWatched_5 za39 hg ?_
  obtain ⟨hg, h⟩ := gZ_go h
  exact A_zret dX9_isWatched_6 hg (pI_go h)
-- BenchTimes$Slowness.gather
theorem dX6_gather_0 : di cX6_gather 0 (.aload_n 0) 1 1 := ⟨by decide +kernel, rfl⟩
theorem dX6_gather_1 : di cX6_gather 1 (.iconst 0) 1 2 := ⟨by decide +kernel, rfl⟩
theorem dX6_gather_2 : di cX6_gather 2 (.putfield 26) 3 5 := ⟨by decide +kernel, rfl⟩
theorem dX6_gather_5 : di cX6_gather 5 (.aload_n 0) 1 6 := ⟨by decide +kernel, rfl⟩
theorem dX6_gather_6 : di cX6_gather 6 (.iconst 0) 1 7 := ⟨by decide +kernel, rfl⟩
theorem dX6_gather_7 : di cX6_gather 7 (.putfield 30) 3 10 := ⟨by decide +kernel, rfl⟩
theorem dX6_gather_10 : di cX6_gather 10 (.iconst 0) 1 11 := ⟨by decide +kernel, rfl⟩
theorem dX6_gather_11 : di cX6_gather 11 (.istore_n 3) 1 12 := ⟨by decide +kernel, rfl⟩
theorem dX6_gather_12 : di cX6_gather 12 (.iload_n 3) 1 13 := ⟨by decide +kernel, rfl⟩
theorem dX6_gather_13 : di cX6_gather 13 (.aload_n 0) 1 14 := ⟨by decide +kernel, rfl⟩
theorem dX6_gather_14 : di cX6_gather 14 (.getfield 22) 3 17 := ⟨by decide +kernel, rfl⟩
theorem dX6_gather_17 : di cX6_gather 17 (.invokevirtual 33) 3 20 := ⟨by decide +kernel, rfl⟩
theorem dX6_gather_20 : dj cX6_gather 20 (.if_icmp .ge) 23 167 := ⟨147, by decide +kernel, rfl, rfl⟩
theorem dX6_gather_23 : di cX6_gather 23 (.aload_n 0) 1 24 := ⟨by decide +kernel, rfl⟩
theorem dX6_gather_24 : di cX6_gather 24 (.getfield 26) 3 27 := ⟨by decide +kernel, rfl⟩
theorem dX6_gather_27 : di cX6_gather 27 (.bipush 14) 2 29 := ⟨by decide +kernel, rfl⟩
theorem dX6_gather_29 : dj cX6_gather 29 (.if_icmp .ge) 32 167 := ⟨138, by decide +kernel, rfl, rfl⟩
theorem dX6_gather_32 : di cX6_gather 32 (.aload_n 0) 1 33 := ⟨by decide +kernel, rfl⟩
theorem dX6_gather_33 : di cX6_gather 33 (.getfield 22) 3 36 := ⟨by decide +kernel, rfl⟩
theorem dX6_gather_36 : di cX6_gather 36 (.iload_n 3) 1 37 := ⟨by decide +kernel, rfl⟩
theorem dX6_gather_37 : di cX6_gather 37 (.invokevirtual 38) 3 40 := ⟨by decide +kernel, rfl⟩
theorem dX6_gather_40 : di cX6_gather 40 (.iload_n 1) 1 41 := ⟨by decide +kernel, rfl⟩
theorem dX6_gather_41 : dj cX6_gather 41 (.if_icmp .ne) 44 60 := ⟨19, by decide +kernel, rfl, rfl⟩
theorem dX6_gather_44 : di cX6_gather 44 (.aload_n 0) 1 45 := ⟨by decide +kernel, rfl⟩
theorem dX6_gather_45 : di cX6_gather 45 (.getfield 22) 3 48 := ⟨by decide +kernel, rfl⟩
theorem dX6_gather_48 : di cX6_gather 48 (.iload_n 3) 1 49 := ⟨by decide +kernel, rfl⟩
theorem dX6_gather_49 : di cX6_gather 49 (.invokevirtual 42) 3 52 := ⟨by decide +kernel, rfl⟩
theorem dX6_gather_52 : di cX6_gather 52 (.iload_n 2) 1 53 := ⟨by decide +kernel, rfl⟩
theorem dX6_gather_53 : dj cX6_gather 53 (.if_icmp .ne) 56 60 := ⟨7, by decide +kernel, rfl, rfl⟩
theorem dX6_gather_56 : di cX6_gather 56 (.iconst 1) 1 57 := ⟨by decide +kernel, rfl⟩
theorem dX6_gather_57 : dj cX6_gather 57 .goto 60 61 := ⟨4, by decide +kernel, rfl, rfl⟩
theorem dX6_gather_60 : di cX6_gather 60 (.iconst 0) 1 61 := ⟨by decide +kernel, rfl⟩
theorem dX6_gather_61 : di cX6_gather 61 (.istore 4) 2 63 := ⟨by decide +kernel, rfl⟩
theorem dX6_gather_63 : di cX6_gather 63 (.iload 4) 2 65 := ⟨by decide +kernel, rfl⟩
theorem dX6_gather_65 : dj cX6_gather 65 (.ifCond .eq) 68 161 := ⟨96, by decide +kernel, rfl, rfl⟩
theorem dX6_gather_68 : di cX6_gather 68 (.aload_n 0) 1 69 := ⟨by decide +kernel, rfl⟩
theorem dX6_gather_69 : di cX6_gather 69 (.getfield 22) 3 72 := ⟨by decide +kernel, rfl⟩
theorem dX6_gather_72 : di cX6_gather 72 (.iload_n 3) 1 73 := ⟨by decide +kernel, rfl⟩
theorem dX6_gather_73 : di cX6_gather 73 (.invokevirtual 45) 3 76 := ⟨by decide +kernel, rfl⟩
theorem dX6_gather_76 : dj cX6_gather 76 (.ifCond .le) 79 161 := ⟨85, by decide +kernel, rfl, rfl⟩
theorem dX6_gather_79 : di cX6_gather 79 (.aload_n 0) 1 80 := ⟨by decide +kernel, rfl⟩
theorem dX6_gather_80 : di cX6_gather 80 (.getfield 9) 3 83 := ⟨by decide +kernel, rfl⟩
theorem dX6_gather_83 : di cX6_gather 83 (.aload_n 0) 1 84 := ⟨by decide +kernel, rfl⟩
theorem dX6_gather_84 : di cX6_gather 84 (.getfield 26) 3 87 := ⟨by decide +kernel, rfl⟩
theorem dX6_gather_87 : di cX6_gather 87 (.aload_n 0) 1 88 := ⟨by decide +kernel, rfl⟩
theorem dX6_gather_88 : di cX6_gather 88 (.getfield 22) 3 91 := ⟨by decide +kernel, rfl⟩
theorem dX6_gather_91 : di cX6_gather 91 (.iload_n 3) 1 92 := ⟨by decide +kernel, rfl⟩
theorem dX6_gather_92 : di cX6_gather 92 (.invokevirtual 48) 3 95 := ⟨by decide +kernel, rfl⟩
theorem dX6_gather_95 : di cX6_gather 95 (.bipush 100) 2 97 := ⟨by decide +kernel, rfl⟩
theorem dX6_gather_97 : di cX6_gather 97 (.imul) 1 98 := ⟨by decide +kernel, rfl⟩
theorem dX6_gather_98 : di cX6_gather 98 (.aload_n 0) 1 99 := ⟨by decide +kernel, rfl⟩
theorem dX6_gather_99 : di cX6_gather 99 (.getfield 22) 3 102 := ⟨by decide +kernel, rfl⟩
theorem dX6_gather_102 : di cX6_gather 102 (.iload_n 3) 1 103 := ⟨by decide +kernel, rfl⟩
theorem dX6_gather_103 : di cX6_gather 103 (.invokevirtual 45) 3 106 := ⟨by decide +kernel, rfl⟩
theorem dX6_gather_106 : di cX6_gather 106 (.idiv) 1 107 := ⟨by decide +kernel, rfl⟩
theorem dX6_gather_107 : di cX6_gather 107 (.iastore) 1 108 := ⟨by decide +kernel, rfl⟩
theorem dX6_gather_108 : di cX6_gather 108 (.aload_n 0) 1 109 := ⟨by decide +kernel, rfl⟩
theorem dX6_gather_109 : di cX6_gather 109 (.getfield 13) 3 112 := ⟨by decide +kernel, rfl⟩
theorem dX6_gather_112 : di cX6_gather 112 (.aload_n 0) 1 113 := ⟨by decide +kernel, rfl⟩
theorem dX6_gather_113 : di cX6_gather 113 (.getfield 26) 3 116 := ⟨by decide +kernel, rfl⟩
theorem dX6_gather_116 : di cX6_gather 116 (.aload_n 0) 1 117 := ⟨by decide +kernel, rfl⟩
theorem dX6_gather_117 : di cX6_gather 117 (.getfield 22) 3 120 := ⟨by decide +kernel, rfl⟩
theorem dX6_gather_120 : di cX6_gather 120 (.iload_n 3) 1 121 := ⟨by decide +kernel, rfl⟩
theorem dX6_gather_121 : di cX6_gather 121 (.invokevirtual 51) 3 124 := ⟨by decide +kernel, rfl⟩
theorem dX6_gather_124 : di cX6_gather 124 (.bastore) 1 125 := ⟨by decide +kernel, rfl⟩
theorem dX6_gather_125 : di cX6_gather 125 (.aload_n 0) 1 126 := ⟨by decide +kernel, rfl⟩
theorem dX6_gather_126 : di cX6_gather 126 (.dup) 1 127 := ⟨by decide +kernel, rfl⟩
theorem dX6_gather_127 : di cX6_gather 127 (.getfield 30) 3 130 := ⟨by decide +kernel, rfl⟩
theorem dX6_gather_130 : di cX6_gather 130 (.aload_n 0) 1 131 := ⟨by decide +kernel, rfl⟩
theorem dX6_gather_131 : di cX6_gather 131 (.getfield 13) 3 134 := ⟨by decide +kernel, rfl⟩
theorem dX6_gather_134 : di cX6_gather 134 (.aload_n 0) 1 135 := ⟨by decide +kernel, rfl⟩
theorem dX6_gather_135 : di cX6_gather 135 (.getfield 26) 3 138 := ⟨by decide +kernel, rfl⟩
theorem dX6_gather_138 : di cX6_gather 138 (.baload) 1 139 := ⟨by decide +kernel, rfl⟩
theorem dX6_gather_139 : dj cX6_gather 139 (.ifCond .eq) 142 146 := ⟨7, by decide +kernel, rfl, rfl⟩
theorem dX6_gather_142 : di cX6_gather 142 (.iconst 1) 1 143 := ⟨by decide +kernel, rfl⟩
theorem dX6_gather_143 : dj cX6_gather 143 .goto 146 147 := ⟨4, by decide +kernel, rfl, rfl⟩
theorem dX6_gather_146 : di cX6_gather 146 (.iconst 0) 1 147 := ⟨by decide +kernel, rfl⟩
theorem dX6_gather_147 : di cX6_gather 147 (.iadd) 1 148 := ⟨by decide +kernel, rfl⟩
theorem dX6_gather_148 : di cX6_gather 148 (.putfield 30) 3 151 := ⟨by decide +kernel, rfl⟩
theorem dX6_gather_151 : di cX6_gather 151 (.aload_n 0) 1 152 := ⟨by decide +kernel, rfl⟩
theorem dX6_gather_152 : di cX6_gather 152 (.dup) 1 153 := ⟨by decide +kernel, rfl⟩
theorem dX6_gather_153 : di cX6_gather 153 (.getfield 26) 3 156 := ⟨by decide +kernel, rfl⟩
theorem dX6_gather_156 : di cX6_gather 156 (.iconst 1) 1 157 := ⟨by decide +kernel, rfl⟩
theorem dX6_gather_157 : di cX6_gather 157 (.iadd) 1 158 := ⟨by decide +kernel, rfl⟩
theorem dX6_gather_158 : di cX6_gather 158 (.putfield 26) 3 161 := ⟨by decide +kernel, rfl⟩
theorem dX6_gather_161 : di cX6_gather 161 (.iinc 3 1) 3 164 := ⟨by decide +kernel, rfl⟩
theorem dX6_gather_164 : dj cX6_gather 164 .goto 167 12 := ⟨-152, by decide +kernel, rfl, rfl⟩
theorem dX6_gather_167 : di cX6_gather 167 (.return_) 1 168 := ⟨by decide +kernel, rfl⟩
def f_X6_gather_L12 (v1 : Int32) (v2 : Int32) : Nat → Int32 → Mem → (Int32 → Mem → Option Ret) → Option Ret
  | 0, _, _, _ => none
  | k12 + 1, v3, M, K12 => bE (f_X9_many M) (fun r4 M3 => if r4 ≤ v3 then (K12 v3 M3) else (if (14 : Int32) ≤ (M3.1 10 4) then (K12 v3 M3) else (bE (f_X9_workerAt v3 M3) (fun r6 M5 => jn (α := Int32 → Mem → Option Ret) (fun (z8 : Int32) (M9 : Mem) => jn (α := Mem → Option Ret) (fun (M11 : Mem) => f_X6_gather_L12 v1 v2 k12 (v3 + (1 : Int32)) M11 K12) (fun J10 => if z8 = 0 then (J10 M9) else (bE (f_X9_goodAt v3 M9) (fun r13 M12 => if r13 ≤ 0 then (J10 M12) else (bE (f_X9_minutesAt v3 M12) (fun r15 M14 => bE (f_X9_goodAt v3 M14) (fun r17 M16 => gN r17 (gV (M12.1 10 4) 14 (bM (up2 M16 48 (M12.1 10 4).toNatClampNeg ((r15 * (100 : Int32)) / r17)) (fun M18 => bE (f_X9_isWatched v3 M18) (fun r20 M19 => gV (M18.1 10 4) 14 (bM (up2 M19 49 (M18.1 10 4).toNatClampNeg (r20 &&& 1)) (fun M21 => gV (M21.1 10 4) 14 (jn (α := Int32 → Option Ret) (fun (z23 : Int32) => bM (up2 M21 10 5 ((M21.1 10 5) + z23)) (fun M24 => bM (up2 M24 10 4 ((M24.1 10 4) + (1 : Int32))) (fun M25 => J10 M25))) (fun J22 => if (M21.1 49 (M21.1 10 4).toNatClampNeg) = 0 then (J22 (0 : Int32)) else (J22 (1 : Int32))))))))))))))))) (fun J7 => if r6 = v1 then (bE (f_X9_jobAt v3 M5) (fun r27 M26 => if r27 = v2 then (J7 (1 : Int32) M26) else (J7 (0 : Int32) M26))) else (J7 (0 : Int32) M5))))))
set_option maxRecDepth 100000 in
theorem f_X6_gather_L12_ok {l : Launch} {g : Cx} (v1 : Int32) (v2 : Int32)  {r : Int32} {Mr : Mem} : ∀ (k : Nat) (v3 : Int32) (M : Mem) (K12 : Int32 → Mem → Option Ret), f_X6_gather_L12 v1 v2 k v3 M K12 = some (r, Mr) → (∀ (v3 : Int32) (M : Mem), K12 v3 M = some (r, Mr) → AT l g RX6 cX6_gather 5 none (rmM 1 21) (PV r Mr) 167 [some (.ref (g.1 10)), some (.int v1), some (.int v2), some (.int v3), none] [] M) → AT l g RX6 cX6_gather 5 none (rmM 1 21) (PV r Mr) 12 [some (.ref (g.1 10)), some (.int v1), some (.int v2), some (.int v3), none] [] M
  | 0, v3, M, K12, h, hK12 => by cases h
  | k12 + 1, v3, M, K12, h, hK12 => by
    have ih12 := f_X6_gather_L12_ok (l := l) (g := g) v1 v2 (r := r) (Mr := Mr) k12
    rw [f_X6_gather_L12] at h
    refine A_iload_n dX6_gather_12 rfl ?_
    refine A_aload_n dX6_gather_13 rfl ?_
    refine A_getf dX6_gather_14 fw_X6_22 ob10 rfl ?_
    obtain ⟨r4, M3, h1, h⟩ := bE_go h
    refine A_cVi0 dX6_gather_17 ml_X6_33 mb_X9_many mi_X9_many ob6 rfl rfl ⟨Nat.le_of_ble_eq_true rfl, Nat.le_of_ble_eq_true rfl⟩ (Nat.le_of_ble_eq_true rfl) (ok_X9_many h1) ?_
    refine A_icmp_ge dX6_gather_20 (fun hc => ?_) (fun hc => ?_)
    · have h := gT_go hc h
      exact A_le (lvLe_s (lvLe_s (lvLe_s (lvLe_s (lvLe_n lvLe_0))))) (hK12 _ _ h)
    · have h := gF_go hc h
      refine A_aload_n dX6_gather_23 rfl ?_
      refine A_getf dX6_gather_24 fw_X6_26 ob10 rfl ?_
      refine A_bipush (v := 14) dX6_gather_27 (by decide) ?_
      refine A_icmp_ge dX6_gather_29 (fun hc => ?_) (fun hc => ?_)
      · have h := gT_go hc h
        exact A_le (lvLe_s (lvLe_s (lvLe_s (lvLe_s (lvLe_n lvLe_0))))) (hK12 _ _ h)
      · have h := gF_go hc h
        refine A_aload_n dX6_gather_32 rfl ?_
        refine A_getf dX6_gather_33 fw_X6_22 ob10 rfl ?_
        refine A_iload_n dX6_gather_36 rfl ?_
        obtain ⟨r6, M5, h1, h⟩ := bE_go h
        refine A_cVi1 dX6_gather_37 ml_X6_38 mb_X9_workerAt mi_X9_workerAt ob6 rfl rfl ⟨Nat.le_of_ble_eq_true rfl, Nat.le_of_ble_eq_true rfl⟩ (Nat.le_of_ble_eq_true rfl) (ok_X9_workerAt h1) ?_
        refine A_iload_n dX6_gather_40 rfl ?_
        obtain ⟨J7, hJ7, h⟩ := jn_go h
        have JJ7 : ∀ (z8 : Int32) (M9 : Mem), J7 z8 M9 = some (r, Mr) → AT l g RX6 cX6_gather 5 none (rmM 1 21) (PV r Mr) 61 [some (.ref (g.1 10)), some (.int v1), some (.int v2), some (.int v3), none] [.int z8] M9 := by
          intro z8 M9 h
          rw [hJ7] at h
          refine A_istore4 dX6_gather_61 (by decide) rfl ?_
          refine A_iload dX6_gather_63 rfl ?_
          obtain ⟨J10, hJ10, h⟩ := jn_go h
          have JJ10 : ∀ (M11 : Mem), J10 M11 = some (r, Mr) → AT l g RX6 cX6_gather 5 none (rmM 1 21) (PV r Mr) 161 [some (.ref (g.1 10)), some (.int v1), some (.int v2), some (.int v3), some (.int z8)] [] M11 := by
            intro M11 h
            rw [hJ10] at h
            refine A_iinc3 (d := 1) dX6_gather_161 (by decide) (by decide) rfl ?_
            refine A_goto dX6_gather_164 ?_
            exact A_le (lvLe_s (lvLe_s (lvLe_s (lvLe_s (lvLe_n lvLe_0))))) (ih12 _ _ K12 h hK12)
          refine A_if_eq dX6_gather_65 (fun hc => ?_) (fun hc => ?_)
          · have h := gT_go hc h
            exact A_le (lvLe_s (lvLe_s (lvLe_s (lvLe_s (lvLe_s lvLe_0))))) (JJ10 _ h)
          · have h := gF_go hc h
            refine A_aload_n dX6_gather_68 rfl ?_
            refine A_getf dX6_gather_69 fw_X6_22 ob10 rfl ?_
            refine A_iload_n dX6_gather_72 rfl ?_
            obtain ⟨r13, M12, h1, h⟩ := bE_go h
            refine A_cVi1 dX6_gather_73 ml_X6_45 mb_X9_goodAt mi_X9_goodAt ob6 rfl rfl ⟨Nat.le_of_ble_eq_true rfl, Nat.le_of_ble_eq_true rfl⟩ (Nat.le_of_ble_eq_true rfl) (ok_X9_goodAt h1) ?_
            refine A_if_le dX6_gather_76 (fun hc => ?_) (fun hc => ?_)
            · have h := gT_go hc h
              exact A_le (lvLe_s (lvLe_s (lvLe_s (lvLe_s (lvLe_s lvLe_0))))) (JJ10 _ h)
            · have h := gF_go hc h
              refine A_aload_n dX6_gather_79 rfl ?_
              refine A_getf dX6_gather_80 fw_X6_9 ob10 rfl ?_
              refine A_aload_n dX6_gather_83 rfl ?_
              refine A_getf dX6_gather_84 fw_X6_26 ob10 rfl ?_
              refine A_aload_n dX6_gather_87 rfl ?_
              refine A_getf dX6_gather_88 fw_X6_22 ob10 rfl ?_
              refine A_iload_n dX6_gather_91 rfl ?_
              obtain ⟨r15, M14, h1, h⟩ := bE_go h
              refine A_cVi1 dX6_gather_92 ml_X6_48 mb_X9_minutesAt mi_X9_minutesAt ob6 rfl rfl ⟨Nat.le_of_ble_eq_true rfl, Nat.le_of_ble_eq_true rfl⟩ (Nat.le_of_ble_eq_true rfl) (ok_X9_minutesAt h1) ?_
              refine A_bipush (v := 100) dX6_gather_95 (by decide) ?_
              refine A_imul dX6_gather_97 ?_
              refine A_aload_n dX6_gather_98 rfl ?_
              refine A_getf dX6_gather_99 fw_X6_22 ob10 rfl ?_
              refine A_iload_n dX6_gather_102 rfl ?_
              obtain ⟨r17, M16, h1, h⟩ := bE_go h
              refine A_cVi1 dX6_gather_103 ml_X6_45 mb_X9_goodAt mi_X9_goodAt ob6 rfl rfl ⟨Nat.le_of_ble_eq_true rfl, Nat.le_of_ble_eq_true rfl⟩ (Nat.le_of_ble_eq_true rfl) (ok_X9_goodAt h1) ?_
              obtain ⟨hg, h⟩ := gN_go h
              refine A_idiv dX6_gather_106 hg ?_
              obtain ⟨hg, h⟩ := gV_go h
              refine A_iast dX6_gather_107 ia48 hg (bM_go h (fun M18 h => ?_))
              refine A_aload_n dX6_gather_108 rfl ?_
              refine A_getf dX6_gather_109 fw_X6_13 ob10 rfl ?_
              refine A_aload_n dX6_gather_112 rfl ?_
              refine A_getf dX6_gather_113 fw_X6_26 ob10 rfl ?_
              refine A_aload_n dX6_gather_116 rfl ?_
              refine A_getf dX6_gather_117 fw_X6_22 ob10 rfl ?_
              refine A_iload_n dX6_gather_120 rfl ?_
              obtain ⟨r20, M19, h1, h⟩ := bE_go h
              refine A_cVi1 dX6_gather_121 ml_X6_51 mb_X9_isWatched mi_X9_isWatched ob6 rfl rfl ⟨Nat.le_of_ble_eq_true rfl, Nat.le_of_ble_eq_true rfl⟩ (Nat.le_of_ble_eq_true rfl) (ok_X9_isWatched h1) ?_
              obtain ⟨hg, h⟩ := gV_go h
              refine A_zast dX6_gather_124 za49 hg (bM_go h (fun M21 h => ?_))
              refine A_aload_n dX6_gather_125 rfl ?_
              refine A_dup dX6_gather_126 rfl ?_
              refine A_getf dX6_gather_127 fw_X6_30 ob10 rfl ?_
              refine A_aload_n dX6_gather_130 rfl ?_
              refine A_getf dX6_gather_131 fw_X6_13 ob10 rfl ?_
              refine A_aload_n dX6_gather_134 rfl ?_
              refine A_getf dX6_gather_135 fw_X6_26 ob10 rfl ?_
              obtain ⟨hg, h⟩ := gV_go h
              refine A_zald dX6_gather_138 za49 hg ?_
              obtain ⟨J22, hJ22, h⟩ := jn_go h
              have JJ22 : ∀ (z23 : Int32), J22 z23 = some (r, Mr) → AT l g RX6 cX6_gather 5 none (rmM 1 21) (PV r Mr) 147 [some (.ref (g.1 10)), some (.int v1), some (.int v2), some (.int v3), some (.int z8)] [.int z23, .int (M21.1 10 5), .ref (g.1 10)] M21 := by
                intro z23 h
                rw [hJ22] at h
                refine A_iadd dX6_gather_147 ?_
                refine A_putf dX6_gather_148 pw_X6_30 ob10 pf10_5 (Nat.le_of_ble_eq_true rfl) (bM_go h (fun M24 h => ?_))
                refine A_aload_n dX6_gather_151 rfl ?_
                refine A_dup dX6_gather_152 rfl ?_
                refine A_getf dX6_gather_153 fw_X6_26 ob10 rfl ?_
                refine A_iconst (v := 1) dX6_gather_156 (by decide) ?_
                refine A_iadd dX6_gather_157 ?_
                refine A_putf dX6_gather_158 pw_X6_26 ob10 pf10_4 (Nat.le_of_ble_eq_true rfl) (bM_go h (fun M25 h => ?_))
                exact A_le (lvLe_s (lvLe_s (lvLe_s (lvLe_s (lvLe_s lvLe_0))))) (JJ10 _ h)
              refine A_if_eq dX6_gather_139 (fun hc => ?_) (fun hc => ?_)
              · have h := gT_go hc h
                refine A_iconst (v := 0) dX6_gather_146 (by decide) ?_
                exact A_le (lvLe_s (lvLe_s (lvLe_s (lvLe_s (lvLe_s lvLe_0))))) (JJ22 _ h)
              · have h := gF_go hc h
                refine A_iconst (v := 1) dX6_gather_142 (by decide) ?_
                refine A_goto dX6_gather_143 ?_
                exact A_le (lvLe_s (lvLe_s (lvLe_s (lvLe_s (lvLe_s lvLe_0))))) (JJ22 _ h)
        refine A_icmp_ne dX6_gather_41 (fun hc => ?_) (fun hc => ?_)
        · have h := gF_go hc h
          refine A_iconst (v := 0) dX6_gather_60 (by decide) ?_
          exact A_le (lvLe_s (lvLe_s (lvLe_s (lvLe_s (lvLe_n lvLe_0))))) (JJ7 _ _ h)
        · have h := gT_go hc h
          refine A_aload_n dX6_gather_44 rfl ?_
          refine A_getf dX6_gather_45 fw_X6_22 ob10 rfl ?_
          refine A_iload_n dX6_gather_48 rfl ?_
          obtain ⟨r27, M26, h1, h⟩ := bE_go h
          refine A_cVi1 dX6_gather_49 ml_X6_42 mb_X9_jobAt mi_X9_jobAt ob6 rfl rfl ⟨Nat.le_of_ble_eq_true rfl, Nat.le_of_ble_eq_true rfl⟩ (Nat.le_of_ble_eq_true rfl) (ok_X9_jobAt h1) ?_
          refine A_iload_n dX6_gather_52 rfl ?_
          refine A_icmp_ne dX6_gather_53 (fun hc => ?_) (fun hc => ?_)
          · have h := gF_go hc h
            refine A_iconst (v := 0) dX6_gather_60 (by decide) ?_
            exact A_le (lvLe_s (lvLe_s (lvLe_s (lvLe_s (lvLe_n lvLe_0))))) (JJ7 _ _ h)
          · have h := gT_go hc h
            refine A_iconst (v := 1) dX6_gather_56 (by decide) ?_
            refine A_goto dX6_gather_57 ?_
            exact A_le (lvLe_s (lvLe_s (lvLe_s (lvLe_s (lvLe_n lvLe_0))))) (JJ7 _ _ h)
def f_X6_gather (v1 : Int32) (v2 : Int32) (M : Mem) : Option Ret := bM (up2 M 10 4 (0 : Int32)) (fun M1 => bM (up2 M1 10 5 (0 : Int32)) (fun M2 => f_X6_gather_L12 v1 v2 FU (0 : Int32) M2 (fun w28 M29 => some (0, M29))))
set_option maxRecDepth 100000 in
theorem ok_X6_gather {l : Launch} {g : Cx} {v1 : Int32} {v2 : Int32} {M : Mem} {r : Int32} {Mr : Mem} (h : f_X6_gather v1 v2 M = some (r, Mr)) : CT l g yX6_gather cX6_gather 5 none 1 21 [.ref (g.1 10), .int v1, .int v2] M (PV r Mr) := by
  refine CT_of (lv := [some (.ref (g.1 10)), some (.int v1), some (.int v2), none, none]) (by decide) rfl (Nat.le_of_ble_eq_true rfl) ?_
  unfold f_X6_gather at h
  refine A_aload_n dX6_gather_0 rfl ?_
  refine A_iconst (v := 0) dX6_gather_1 (by decide) ?_
  refine A_putf dX6_gather_2 pw_X6_26 ob10 pf10_4 (Nat.le_of_ble_eq_true rfl) (bM_go h (fun M1 h => ?_))
  refine A_aload_n dX6_gather_5 rfl ?_
  refine A_iconst (v := 0) dX6_gather_6 (by decide) ?_
  refine A_putf dX6_gather_7 pw_X6_30 ob10 pf10_5 (Nat.le_of_ble_eq_true rfl) (bM_go h (fun M2 h => ?_))
  refine A_iconst (v := 0) dX6_gather_10 (by decide) ?_
  refine A_istoren3 dX6_gather_11 (by decide) rfl ?_
  refine f_X6_gather_L12_ok _ _ FU _ _ _ h (fun w28 M29 h => ?_)
  exact A_vret dX6_gather_167 (pV_go h)
-- BenchTimes$Slowness.canTell
theorem dX6_canTell_0 : di cX6_canTell 0 (.aload_n 0) 1 1 := ⟨by decide +kernel, rfl⟩
theorem dX6_canTell_1 : di cX6_canTell 1 (.getfield 30) 3 4 := ⟨by decide +kernel, rfl⟩
theorem dX6_canTell_4 : dj cX6_canTell 4 (.ifCond .le) 7 22 := ⟨18, by decide +kernel, rfl, rfl⟩
theorem dX6_canTell_7 : di cX6_canTell 7 (.aload_n 0) 1 8 := ⟨by decide +kernel, rfl⟩
theorem dX6_canTell_8 : di cX6_canTell 8 (.getfield 30) 3 11 := ⟨by decide +kernel, rfl⟩
theorem dX6_canTell_11 : di cX6_canTell 11 (.aload_n 0) 1 12 := ⟨by decide +kernel, rfl⟩
theorem dX6_canTell_12 : di cX6_canTell 12 (.getfield 26) 3 15 := ⟨by decide +kernel, rfl⟩
theorem dX6_canTell_15 : dj cX6_canTell 15 (.if_icmp .ge) 18 22 := ⟨7, by decide +kernel, rfl, rfl⟩
theorem dX6_canTell_18 : di cX6_canTell 18 (.iconst 1) 1 19 := ⟨by decide +kernel, rfl⟩
theorem dX6_canTell_19 : dj cX6_canTell 19 .goto 22 23 := ⟨4, by decide +kernel, rfl, rfl⟩
theorem dX6_canTell_22 : di cX6_canTell 22 (.iconst 0) 1 23 := ⟨by decide +kernel, rfl⟩
theorem dX6_canTell_23 : di cX6_canTell 23 (.ireturn) 1 24 := ⟨by decide +kernel, rfl⟩
def f_X6_canTell  (M : Mem) : Option Ret := jn (α := Int32 → Option Ret) (fun (z2 : Int32) => gZ z2 (some (z2, M))) (fun J1 => if (M.1 10 5) ≤ 0 then (J1 (0 : Int32)) else (if (M.1 10 4) ≤ (M.1 10 5) then (J1 (0 : Int32)) else (J1 (1 : Int32))))
set_option maxRecDepth 100000 in
theorem ok_X6_canTell {l : Launch} {g : Cx}  {M : Mem} {r : Int32} {Mr : Mem} (h : f_X6_canTell  M = some (r, Mr)) : CT l g yX6_canTell cX6_canTell 1 (some .boolean) 0 0 [.ref (g.1 10)] M (PI r Mr) := by
  refine CT_of (lv := [some (.ref (g.1 10))]) (by decide) rfl (Nat.le_of_ble_eq_true rfl) ?_
  unfold f_X6_canTell at h
  refine A_aload_n dX6_canTell_0 rfl ?_
  refine A_getf dX6_canTell_1 fw_X6_30 ob10 rfl ?_
  obtain ⟨J1, hJ1, h⟩ := jn_go h
  have JJ1 : ∀ (z2 : Int32), J1 z2 = some (r, Mr) → AT l g RX6 cX6_canTell 1 (some .boolean) (rmM 0 0) (PI r Mr) 23 [some (.ref (g.1 10))] [.int z2] M := by
    intro z2 h
    rw [hJ1] at h
    obtain ⟨hg, h⟩ := gZ_go h
    exact A_zret dX6_canTell_23 hg (pI_go h)
  refine A_if_le dX6_canTell_4 (fun hc => ?_) (fun hc => ?_)
  · have h := gT_go hc h
    refine A_iconst (v := 0) dX6_canTell_22 (by decide) ?_
    exact A_le (lvLe_s lvLe_0) (JJ1 _ h)
  · have h := gF_go hc h
    refine A_aload_n dX6_canTell_7 rfl ?_
    refine A_getf dX6_canTell_8 fw_X6_30 ob10 rfl ?_
    refine A_aload_n dX6_canTell_11 rfl ?_
    refine A_getf dX6_canTell_12 fw_X6_26 ob10 rfl ?_
    refine A_icmp_ge dX6_canTell_15 (fun hc => ?_) (fun hc => ?_)
    · have h := gT_go hc h
      refine A_iconst (v := 0) dX6_canTell_22 (by decide) ?_
      exact A_le (lvLe_s lvLe_0) (JJ1 _ h)
    · have h := gF_go hc h
      refine A_iconst (v := 1) dX6_canTell_18 (by decide) ?_
      refine A_goto dX6_canTell_19 ?_
      exact A_le (lvLe_s lvLe_0) (JJ1 _ h)
-- BenchTimes$Slowness.rankOf
theorem dX6_rankOf_0 : di cX6_rankOf 0 (.iconst 0) 1 1 := ⟨by decide +kernel, rfl⟩
theorem dX6_rankOf_1 : di cX6_rankOf 1 (.istore_n 2) 1 2 := ⟨by decide +kernel, rfl⟩
theorem dX6_rankOf_2 : di cX6_rankOf 2 (.iconst 0) 1 3 := ⟨by decide +kernel, rfl⟩
theorem dX6_rankOf_3 : di cX6_rankOf 3 (.istore_n 3) 1 4 := ⟨by decide +kernel, rfl⟩
theorem dX6_rankOf_4 : di cX6_rankOf 4 (.iload_n 3) 1 5 := ⟨by decide +kernel, rfl⟩
theorem dX6_rankOf_5 : di cX6_rankOf 5 (.aload_n 0) 1 6 := ⟨by decide +kernel, rfl⟩
theorem dX6_rankOf_6 : di cX6_rankOf 6 (.getfield 26) 3 9 := ⟨by decide +kernel, rfl⟩
theorem dX6_rankOf_9 : dj cX6_rankOf 9 (.if_icmp .ge) 12 62 := ⟨53, by decide +kernel, rfl, rfl⟩
theorem dX6_rankOf_12 : di cX6_rankOf 12 (.aload_n 0) 1 13 := ⟨by decide +kernel, rfl⟩
theorem dX6_rankOf_13 : di cX6_rankOf 13 (.getfield 9) 3 16 := ⟨by decide +kernel, rfl⟩
theorem dX6_rankOf_16 : di cX6_rankOf 16 (.iload_n 3) 1 17 := ⟨by decide +kernel, rfl⟩
theorem dX6_rankOf_17 : di cX6_rankOf 17 (.iaload) 1 18 := ⟨by decide +kernel, rfl⟩
theorem dX6_rankOf_18 : di cX6_rankOf 18 (.aload_n 0) 1 19 := ⟨by decide +kernel, rfl⟩
theorem dX6_rankOf_19 : di cX6_rankOf 19 (.getfield 9) 3 22 := ⟨by decide +kernel, rfl⟩
theorem dX6_rankOf_22 : di cX6_rankOf 22 (.iload_n 1) 1 23 := ⟨by decide +kernel, rfl⟩
theorem dX6_rankOf_23 : di cX6_rankOf 23 (.iaload) 1 24 := ⟨by decide +kernel, rfl⟩
theorem dX6_rankOf_24 : dj cX6_rankOf 24 (.if_icmp .ge) 27 33 := ⟨9, by decide +kernel, rfl, rfl⟩
theorem dX6_rankOf_27 : di cX6_rankOf 27 (.iinc 2 2) 3 30 := ⟨by decide +kernel, rfl⟩
theorem dX6_rankOf_30 : dj cX6_rankOf 30 .goto 33 56 := ⟨26, by decide +kernel, rfl, rfl⟩
theorem dX6_rankOf_33 : di cX6_rankOf 33 (.iload_n 3) 1 34 := ⟨by decide +kernel, rfl⟩
theorem dX6_rankOf_34 : di cX6_rankOf 34 (.iload_n 1) 1 35 := ⟨by decide +kernel, rfl⟩
theorem dX6_rankOf_35 : dj cX6_rankOf 35 (.if_icmp .eq) 38 56 := ⟨21, by decide +kernel, rfl, rfl⟩
theorem dX6_rankOf_38 : di cX6_rankOf 38 (.aload_n 0) 1 39 := ⟨by decide +kernel, rfl⟩
theorem dX6_rankOf_39 : di cX6_rankOf 39 (.getfield 9) 3 42 := ⟨by decide +kernel, rfl⟩
theorem dX6_rankOf_42 : di cX6_rankOf 42 (.iload_n 3) 1 43 := ⟨by decide +kernel, rfl⟩
theorem dX6_rankOf_43 : di cX6_rankOf 43 (.iaload) 1 44 := ⟨by decide +kernel, rfl⟩
theorem dX6_rankOf_44 : di cX6_rankOf 44 (.aload_n 0) 1 45 := ⟨by decide +kernel, rfl⟩
theorem dX6_rankOf_45 : di cX6_rankOf 45 (.getfield 9) 3 48 := ⟨by decide +kernel, rfl⟩
theorem dX6_rankOf_48 : di cX6_rankOf 48 (.iload_n 1) 1 49 := ⟨by decide +kernel, rfl⟩
theorem dX6_rankOf_49 : di cX6_rankOf 49 (.iaload) 1 50 := ⟨by decide +kernel, rfl⟩
theorem dX6_rankOf_50 : dj cX6_rankOf 50 (.if_icmp .ne) 53 56 := ⟨6, by decide +kernel, rfl, rfl⟩
theorem dX6_rankOf_53 : di cX6_rankOf 53 (.iinc 2 1) 3 56 := ⟨by decide +kernel, rfl⟩
theorem dX6_rankOf_56 : di cX6_rankOf 56 (.iinc 3 1) 3 59 := ⟨by decide +kernel, rfl⟩
theorem dX6_rankOf_59 : dj cX6_rankOf 59 .goto 62 4 := ⟨-55, by decide +kernel, rfl, rfl⟩
theorem dX6_rankOf_62 : di cX6_rankOf 62 (.iload_n 2) 1 63 := ⟨by decide +kernel, rfl⟩
theorem dX6_rankOf_63 : di cX6_rankOf 63 (.ireturn) 1 64 := ⟨by decide +kernel, rfl⟩
def f_X6_rankOf_L4 (v1 : Int32) : Nat → Int32 → Int32 → Mem → (Int32 → Int32 → Mem → Option Ret) → Option Ret
  | 0, _, _, _, _ => none
  | k4 + 1, v2, v3, M, K4 => if (M.1 10 4) ≤ v3 then (K4 v2 v3 M) else (gV v3 14 (gV v1 14 (jn (α := Int32 → Option Ret) (fun (y2 : Int32) => f_X6_rankOf_L4 v1 k4 y2 (v3 + (1 : Int32)) M K4) (fun J1 => if (M.1 48 v1.toNatClampNeg) ≤ (M.1 48 v3.toNatClampNeg) then (if v3 = v1 then (J1 v2) else (gV v3 14 (gV v1 14 (if (M.1 48 v3.toNatClampNeg) = (M.1 48 v1.toNatClampNeg) then (J1 (v2 + (1 : Int32))) else (J1 v2))))) else (J1 (v2 + (2 : Int32)))))))
set_option maxRecDepth 100000 in
theorem f_X6_rankOf_L4_ok {l : Launch} {g : Cx} (v1 : Int32)  {r : Int32} {Mr : Mem} : ∀ (k : Nat) (v2 : Int32) (v3 : Int32) (M : Mem) (K4 : Int32 → Int32 → Mem → Option Ret), f_X6_rankOf_L4 v1 k v2 v3 M K4 = some (r, Mr) → (∀ (v2 : Int32) (v3 : Int32) (M : Mem), K4 v2 v3 M = some (r, Mr) → AT l g RX6 cX6_rankOf 4 (some .int) (rmM 0 0) (PI r Mr) 62 [some (.ref (g.1 10)), some (.int v1), some (.int v2), some (.int v3)] [] M) → AT l g RX6 cX6_rankOf 4 (some .int) (rmM 0 0) (PI r Mr) 4 [some (.ref (g.1 10)), some (.int v1), some (.int v2), some (.int v3)] [] M
  | 0, v2, v3, M, K4, h, hK4 => by cases h
  | k4 + 1, v2, v3, M, K4, h, hK4 => by
    have ih4 := f_X6_rankOf_L4_ok (l := l) (g := g) v1 (r := r) (Mr := Mr) k4
    rw [f_X6_rankOf_L4] at h
    refine A_iload_n dX6_rankOf_4 rfl ?_
    refine A_aload_n dX6_rankOf_5 rfl ?_
    refine A_getf dX6_rankOf_6 fw_X6_26 ob10 rfl ?_
    refine A_icmp_ge dX6_rankOf_9 (fun hc => ?_) (fun hc => ?_)
    · have h := gT_go hc h
      exact A_le (lvLe_s (lvLe_s (lvLe_s (lvLe_s lvLe_0)))) (hK4 _ _ _ h)
    · have h := gF_go hc h
      refine A_aload_n dX6_rankOf_12 rfl ?_
      refine A_getf dX6_rankOf_13 fw_X6_9 ob10 rfl ?_
      refine A_iload_n dX6_rankOf_16 rfl ?_
      obtain ⟨hg, h⟩ := gV_go h
      refine A_iald dX6_rankOf_17 ia48 hg ?_
      refine A_aload_n dX6_rankOf_18 rfl ?_
      refine A_getf dX6_rankOf_19 fw_X6_9 ob10 rfl ?_
      refine A_iload_n dX6_rankOf_22 rfl ?_
      obtain ⟨hg, h⟩ := gV_go h
      refine A_iald dX6_rankOf_23 ia48 hg ?_
      obtain ⟨J1, hJ1, h⟩ := jn_go h
      have JJ1 : ∀ (y2 : Int32), J1 y2 = some (r, Mr) → AT l g RX6 cX6_rankOf 4 (some .int) (rmM 0 0) (PI r Mr) 56 [some (.ref (g.1 10)), some (.int v1), some (.int y2), some (.int v3)] [] M := by
        intro y2 h
        rw [hJ1] at h
        refine A_iinc3 (d := 1) dX6_rankOf_56 (by decide) (by decide) rfl ?_
        refine A_goto dX6_rankOf_59 ?_
        exact A_le (lvLe_s (lvLe_s (lvLe_s (lvLe_s lvLe_0)))) (ih4 _ _ _ K4 h hK4)
      refine A_icmp_ge dX6_rankOf_24 (fun hc => ?_) (fun hc => ?_)
      · have h := gT_go hc h
        refine A_iload_n dX6_rankOf_33 rfl ?_
        refine A_iload_n dX6_rankOf_34 rfl ?_
        refine A_icmp_eq dX6_rankOf_35 (fun hc => ?_) (fun hc => ?_)
        · have h := gT_go hc h
          exact A_le (lvLe_s (lvLe_s (lvLe_s (lvLe_s lvLe_0)))) (JJ1 _ h)
        · have h := gF_go hc h
          refine A_aload_n dX6_rankOf_38 rfl ?_
          refine A_getf dX6_rankOf_39 fw_X6_9 ob10 rfl ?_
          refine A_iload_n dX6_rankOf_42 rfl ?_
          obtain ⟨hg, h⟩ := gV_go h
          refine A_iald dX6_rankOf_43 ia48 hg ?_
          refine A_aload_n dX6_rankOf_44 rfl ?_
          refine A_getf dX6_rankOf_45 fw_X6_9 ob10 rfl ?_
          refine A_iload_n dX6_rankOf_48 rfl ?_
          obtain ⟨hg, h⟩ := gV_go h
          refine A_iald dX6_rankOf_49 ia48 hg ?_
          refine A_icmp_ne dX6_rankOf_50 (fun hc => ?_) (fun hc => ?_)
          · have h := gF_go hc h
            exact A_le (lvLe_s (lvLe_s (lvLe_s (lvLe_s lvLe_0)))) (JJ1 _ h)
          · have h := gT_go hc h
            refine A_iinc2 (d := 1) dX6_rankOf_53 (by decide) (by decide) rfl ?_
            exact A_le (lvLe_s (lvLe_s (lvLe_s (lvLe_s lvLe_0)))) (JJ1 _ h)
      · have h := gF_go hc h
        refine A_iinc2 (d := 2) dX6_rankOf_27 (by decide) (by decide) rfl ?_
        refine A_goto dX6_rankOf_30 ?_
        exact A_le (lvLe_s (lvLe_s (lvLe_s (lvLe_s lvLe_0)))) (JJ1 _ h)
def f_X6_rankOf (v1 : Int32) (M : Mem) : Option Ret := f_X6_rankOf_L4 v1 FU (0 : Int32) (0 : Int32) M (fun w3 w4 M5 => some (w3, M5))
set_option maxRecDepth 100000 in
theorem ok_X6_rankOf {l : Launch} {g : Cx} {v1 : Int32} {M : Mem} {r : Int32} {Mr : Mem} (h : f_X6_rankOf v1 M = some (r, Mr)) : CT l g yX6_rankOf cX6_rankOf 4 (some .int) 0 0 [.ref (g.1 10), .int v1] M (PI r Mr) := by
  refine CT_of (lv := [some (.ref (g.1 10)), some (.int v1), none, none]) (by decide) rfl (Nat.le_of_ble_eq_true rfl) ?_
  unfold f_X6_rankOf at h
  refine A_iconst (v := 0) dX6_rankOf_0 (by decide) ?_
  refine A_istoren2 dX6_rankOf_1 (by decide) rfl ?_
  refine A_iconst (v := 0) dX6_rankOf_2 (by decide) ?_
  refine A_istoren3 dX6_rankOf_3 (by decide) rfl ?_
  refine f_X6_rankOf_L4_ok _ FU _ _ _ _ h (fun w3 w4 M5 h => ?_)
  refine A_iload_n dX6_rankOf_62 rfl ?_
  exact A_iret dX6_rankOf_63 (pI_go h)
-- BenchTimes$Slowness.addRow
theorem dX6_addRow_0 : di cX6_addRow 0 (.iload_n 2) 1 1 := ⟨by decide +kernel, rfl⟩
theorem dX6_addRow_1 : di cX6_addRow 1 (.istore 4) 2 3 := ⟨by decide +kernel, rfl⟩
theorem dX6_addRow_3 : di cX6_addRow 3 (.iload 4) 2 5 := ⟨by decide +kernel, rfl⟩
theorem dX6_addRow_5 : dj cX6_addRow 5 (.ifCond .le) 8 56 := ⟨51, by decide +kernel, rfl, rfl⟩
theorem dX6_addRow_8 : di cX6_addRow 8 (.iload_n 1) 1 9 := ⟨by decide +kernel, rfl⟩
theorem dX6_addRow_9 : di cX6_addRow 9 (.istore 5) 2 11 := ⟨by decide +kernel, rfl⟩
theorem dX6_addRow_11 : di cX6_addRow 11 (.iload 5) 2 13 := ⟨by decide +kernel, rfl⟩
theorem dX6_addRow_13 : di cX6_addRow 13 (.iload_n 3) 1 14 := ⟨by decide +kernel, rfl⟩
theorem dX6_addRow_14 : dj cX6_addRow 14 (.if_icmp .gt) 17 50 := ⟨36, by decide +kernel, rfl, rfl⟩
theorem dX6_addRow_17 : di cX6_addRow 17 (.aload_n 0) 1 18 := ⟨by decide +kernel, rfl⟩
theorem dX6_addRow_18 : di cX6_addRow 18 (.getfield 19) 3 21 := ⟨by decide +kernel, rfl⟩
theorem dX6_addRow_21 : di cX6_addRow 21 (.iload 4) 2 23 := ⟨by decide +kernel, rfl⟩
theorem dX6_addRow_23 : di cX6_addRow 23 (.aaload) 1 24 := ⟨by decide +kernel, rfl⟩
theorem dX6_addRow_24 : di cX6_addRow 24 (.iload 5) 2 26 := ⟨by decide +kernel, rfl⟩
theorem dX6_addRow_26 : di cX6_addRow 26 (.dup2) 1 27 := ⟨by decide +kernel, rfl⟩
theorem dX6_addRow_27 : di cX6_addRow 27 (.iaload) 1 28 := ⟨by decide +kernel, rfl⟩
theorem dX6_addRow_28 : di cX6_addRow 28 (.aload_n 0) 1 29 := ⟨by decide +kernel, rfl⟩
theorem dX6_addRow_29 : di cX6_addRow 29 (.getfield 19) 3 32 := ⟨by decide +kernel, rfl⟩
theorem dX6_addRow_32 : di cX6_addRow 32 (.iload 4) 2 34 := ⟨by decide +kernel, rfl⟩
theorem dX6_addRow_34 : di cX6_addRow 34 (.iconst 1) 1 35 := ⟨by decide +kernel, rfl⟩
theorem dX6_addRow_35 : di cX6_addRow 35 (.isub) 1 36 := ⟨by decide +kernel, rfl⟩
theorem dX6_addRow_36 : di cX6_addRow 36 (.aaload) 1 37 := ⟨by decide +kernel, rfl⟩
theorem dX6_addRow_37 : di cX6_addRow 37 (.iload 5) 2 39 := ⟨by decide +kernel, rfl⟩
theorem dX6_addRow_39 : di cX6_addRow 39 (.iload_n 1) 1 40 := ⟨by decide +kernel, rfl⟩
theorem dX6_addRow_40 : di cX6_addRow 40 (.isub) 1 41 := ⟨by decide +kernel, rfl⟩
theorem dX6_addRow_41 : di cX6_addRow 41 (.iaload) 1 42 := ⟨by decide +kernel, rfl⟩
theorem dX6_addRow_42 : di cX6_addRow 42 (.iadd) 1 43 := ⟨by decide +kernel, rfl⟩
theorem dX6_addRow_43 : di cX6_addRow 43 (.iastore) 1 44 := ⟨by decide +kernel, rfl⟩
theorem dX6_addRow_44 : di cX6_addRow 44 (.iinc 5 1) 3 47 := ⟨by decide +kernel, rfl⟩
theorem dX6_addRow_47 : dj cX6_addRow 47 .goto 50 11 := ⟨-36, by decide +kernel, rfl, rfl⟩
theorem dX6_addRow_50 : di cX6_addRow 50 (.iinc 4 (-1)) 3 53 := ⟨by decide +kernel, rfl⟩
theorem dX6_addRow_53 : dj cX6_addRow 53 .goto 56 3 := ⟨-50, by decide +kernel, rfl, rfl⟩
theorem dX6_addRow_56 : di cX6_addRow 56 (.return_) 1 57 := ⟨by decide +kernel, rfl⟩
def f_X6_addRow_L11 (v1 : Int32) (v2 : Int32) (v3 : Int32) (v4 : Int32) : Nat → Int32 → Mem → (Int32 → Mem → Option Ret) → Option Ret
  | 0, _, _, _ => none
  | k11 + 1, v5, M, K11 => if v3 < v5 then (K11 v5 M) else (gV v4 15 (gV v5 183 (gV (v4 - (1 : Int32)) 15 (gV (v5 - v1) 183 (gV v5 183 (bM (up2 M (51 + v4.toNatClampNeg) v5.toNatClampNeg ((M.1 (51 + v4.toNatClampNeg) v5.toNatClampNeg) + (M.1 (51 + (v4 - (1 : Int32)).toNatClampNeg) (v5 - v1).toNatClampNeg))) (fun M1 => f_X6_addRow_L11 v1 v2 v3 v4 k11 (v5 + (1 : Int32)) M1 K11)))))))
set_option maxRecDepth 100000 in
theorem f_X6_addRow_L11_ok {l : Launch} {g : Cx} (v1 : Int32) (v2 : Int32) (v3 : Int32) (v4 : Int32)  {r : Int32} {Mr : Mem} : ∀ (k : Nat) (v5 : Int32) (M : Mem) (K11 : Int32 → Mem → Option Ret), f_X6_addRow_L11 v1 v2 v3 v4 k v5 M K11 = some (r, Mr) → (∀ (v5 : Int32) (M : Mem), K11 v5 M = some (r, Mr) → AT l g RX6 cX6_addRow 6 none (rmM 0 0) (PV r Mr) 50 [some (.ref (g.1 10)), some (.int v1), some (.int v2), some (.int v3), some (.int v4), some (.int v5)] [] M) → AT l g RX6 cX6_addRow 6 none (rmM 0 0) (PV r Mr) 11 [some (.ref (g.1 10)), some (.int v1), some (.int v2), some (.int v3), some (.int v4), some (.int v5)] [] M
  | 0, v5, M, K11, h, hK11 => by cases h
  | k11 + 1, v5, M, K11, h, hK11 => by
    have ih11 := f_X6_addRow_L11_ok (l := l) (g := g) v1 v2 v3 v4 (r := r) (Mr := Mr) k11
    rw [f_X6_addRow_L11] at h
    refine A_iload dX6_addRow_11 rfl ?_
    refine A_iload_n dX6_addRow_13 rfl ?_
    refine A_icmp_gt dX6_addRow_14 (fun hc => ?_) (fun hc => ?_)
    · have h := gT_go hc h
      exact A_le (lvLe_s (lvLe_s (lvLe_s (lvLe_s (lvLe_s (lvLe_s lvLe_0)))))) (hK11 _ _ h)
    · have h := gF_go hc h
      refine A_aload_n dX6_addRow_17 rfl ?_
      refine A_getf dX6_addRow_18 fw_X6_19 ob10 rfl ?_
      refine A_iload dX6_addRow_21 rfl ?_
      obtain ⟨hg, h⟩ := gV_go h
      have hw := vp_lt hg
      refine A_aald dX6_addRow_23 hg ?_
      refine A_iload dX6_addRow_24 rfl ?_
      refine A_dup2 dX6_addRow_26 rfl rfl ?_
      obtain ⟨hg, h⟩ := gV_go h
      refine A_iald dX6_addRow_27 (iaW (by assumption)) hg ?_
      refine A_aload_n dX6_addRow_28 rfl ?_
      refine A_getf dX6_addRow_29 fw_X6_19 ob10 rfl ?_
      refine A_iload dX6_addRow_32 rfl ?_
      refine A_iconst (v := 1) dX6_addRow_34 (by decide) ?_
      refine A_isub dX6_addRow_35 ?_
      obtain ⟨hg, h⟩ := gV_go h
      have hw := vp_lt hg
      refine A_aald dX6_addRow_36 hg ?_
      refine A_iload dX6_addRow_37 rfl ?_
      refine A_iload_n dX6_addRow_39 rfl ?_
      refine A_isub dX6_addRow_40 ?_
      obtain ⟨hg, h⟩ := gV_go h
      refine A_iald dX6_addRow_41 (iaW (by assumption)) hg ?_
      refine A_iadd dX6_addRow_42 ?_
      obtain ⟨hg, h⟩ := gV_go h
      refine A_iast dX6_addRow_43 (iaW (by assumption)) hg (bM_go h (fun M1 h => ?_))
      refine A_iinc5 (d := 1) dX6_addRow_44 (by decide) (by decide) rfl ?_
      refine A_goto dX6_addRow_47 ?_
      exact A_le (lvLe_s (lvLe_s (lvLe_s (lvLe_s (lvLe_s (lvLe_s lvLe_0)))))) (ih11 _ _ K11 h hK11)
def f_X6_addRow_L3 (v1 : Int32) (v2 : Int32) (v3 : Int32) : Nat → Int32 → Mem → (Int32 → Mem → Option Ret) → Option Ret
  | 0, _, _, _ => none
  | k3 + 1, v4, M, K3 => if v4 ≤ 0 then (K3 v4 M) else (f_X6_addRow_L11 v1 v2 v3 v4 FU v1 M (fun w2 M3 => f_X6_addRow_L3 v1 v2 v3 k3 (v4 + (-1 : Int32)) M3 K3))
set_option maxRecDepth 100000 in
theorem f_X6_addRow_L3_ok {l : Launch} {g : Cx} (v1 : Int32) (v2 : Int32) (v3 : Int32)  {r : Int32} {Mr : Mem} : ∀ (k : Nat) (v4 : Int32) (M : Mem) (K3 : Int32 → Mem → Option Ret), f_X6_addRow_L3 v1 v2 v3 k v4 M K3 = some (r, Mr) → (∀ (v4 : Int32) (M : Mem), K3 v4 M = some (r, Mr) → AT l g RX6 cX6_addRow 6 none (rmM 0 0) (PV r Mr) 56 [some (.ref (g.1 10)), some (.int v1), some (.int v2), some (.int v3), some (.int v4), none] [] M) → AT l g RX6 cX6_addRow 6 none (rmM 0 0) (PV r Mr) 3 [some (.ref (g.1 10)), some (.int v1), some (.int v2), some (.int v3), some (.int v4), none] [] M
  | 0, v4, M, K3, h, hK3 => by cases h
  | k3 + 1, v4, M, K3, h, hK3 => by
    have ih3 := f_X6_addRow_L3_ok (l := l) (g := g) v1 v2 v3 (r := r) (Mr := Mr) k3
    rw [f_X6_addRow_L3] at h
    refine A_iload dX6_addRow_3 rfl ?_
    refine A_if_le dX6_addRow_5 (fun hc => ?_) (fun hc => ?_)
    · have h := gT_go hc h
      exact A_le (lvLe_s (lvLe_s (lvLe_s (lvLe_s (lvLe_s (lvLe_n lvLe_0)))))) (hK3 _ _ h)
    · have h := gF_go hc h
      refine A_iload_n dX6_addRow_8 rfl ?_
      refine A_istore5 dX6_addRow_9 (by decide) rfl ?_
      refine f_X6_addRow_L11_ok _ _ _ _ FU _ _ _ h (fun w2 M3 h => ?_)
      refine A_iinc4 (d := -1) dX6_addRow_50 (by decide) (by decide) rfl ?_
      refine A_goto dX6_addRow_53 ?_
      exact A_le (lvLe_s (lvLe_s (lvLe_s (lvLe_s (lvLe_s (lvLe_n lvLe_0)))))) (ih3 _ _ K3 h hK3)
def f_X6_addRow (v1 : Int32) (v2 : Int32) (v3 : Int32) (M : Mem) : Option Ret := f_X6_addRow_L3 v1 v2 v3 FU v2 M (fun w4 M5 => some (0, M5))
set_option maxRecDepth 100000 in
theorem ok_X6_addRow {l : Launch} {g : Cx} {v1 : Int32} {v2 : Int32} {v3 : Int32} {M : Mem} {r : Int32} {Mr : Mem} (h : f_X6_addRow v1 v2 v3 M = some (r, Mr)) : CT l g yX6_addRow cX6_addRow 6 none 0 0 [.ref (g.1 10), .int v1, .int v2, .int v3] M (PV r Mr) := by
  refine CT_of (lv := [some (.ref (g.1 10)), some (.int v1), some (.int v2), some (.int v3), none, none]) (by decide) rfl (Nat.le_of_ble_eq_true rfl) ?_
  unfold f_X6_addRow at h
  refine A_iload_n dX6_addRow_0 rfl ?_
  refine A_istore4 dX6_addRow_1 (by decide) rfl ?_
  refine f_X6_addRow_L3_ok _ _ _ FU _ _ _ h (fun w4 M5 h => ?_)
  exact A_vret dX6_addRow_56 (pV_go h)
-- BenchTimes$Slowness.countWays
theorem dX6_countWays_0 : di cX6_countWays 0 (.iconst 0) 1 1 := ⟨by decide +kernel, rfl⟩
theorem dX6_countWays_1 : di cX6_countWays 1 (.istore_n 1) 1 2 := ⟨by decide +kernel, rfl⟩
theorem dX6_countWays_2 : di cX6_countWays 2 (.iload_n 1) 1 3 := ⟨by decide +kernel, rfl⟩
theorem dX6_countWays_3 : di cX6_countWays 3 (.aload_n 0) 1 4 := ⟨by decide +kernel, rfl⟩
theorem dX6_countWays_4 : di cX6_countWays 4 (.getfield 30) 3 7 := ⟨by decide +kernel, rfl⟩
theorem dX6_countWays_7 : dj cX6_countWays 7 (.if_icmp .gt) 10 26 := ⟨19, by decide +kernel, rfl, rfl⟩
theorem dX6_countWays_10 : di cX6_countWays 10 (.aload_n 0) 1 11 := ⟨by decide +kernel, rfl⟩
theorem dX6_countWays_11 : di cX6_countWays 11 (.getfield 19) 3 14 := ⟨by decide +kernel, rfl⟩
theorem dX6_countWays_14 : di cX6_countWays 14 (.iload_n 1) 1 15 := ⟨by decide +kernel, rfl⟩
theorem dX6_countWays_15 : di cX6_countWays 15 (.aaload) 1 16 := ⟨by decide +kernel, rfl⟩
theorem dX6_countWays_16 : di cX6_countWays 16 (.iconst 0) 1 17 := ⟨by decide +kernel, rfl⟩
theorem dX6_countWays_17 : di cX6_countWays 17 (.invokestatic 64) 3 20 := ⟨by decide +kernel, rfl⟩
theorem dX6_countWays_20 : di cX6_countWays 20 (.iinc 1 1) 3 23 := ⟨by decide +kernel, rfl⟩
theorem dX6_countWays_23 : dj cX6_countWays 23 .goto 26 2 := ⟨-21, by decide +kernel, rfl, rfl⟩
theorem dX6_countWays_26 : di cX6_countWays 26 (.aload_n 0) 1 27 := ⟨by decide +kernel, rfl⟩
theorem dX6_countWays_27 : di cX6_countWays 27 (.getfield 19) 3 30 := ⟨by decide +kernel, rfl⟩
theorem dX6_countWays_30 : di cX6_countWays 30 (.iconst 0) 1 31 := ⟨by decide +kernel, rfl⟩
theorem dX6_countWays_31 : di cX6_countWays 31 (.aaload) 1 32 := ⟨by decide +kernel, rfl⟩
theorem dX6_countWays_32 : di cX6_countWays 32 (.iconst 0) 1 33 := ⟨by decide +kernel, rfl⟩
theorem dX6_countWays_33 : di cX6_countWays 33 (.iconst 1) 1 34 := ⟨by decide +kernel, rfl⟩
theorem dX6_countWays_34 : di cX6_countWays 34 (.iastore) 1 35 := ⟨by decide +kernel, rfl⟩
theorem dX6_countWays_35 : di cX6_countWays 35 (.iconst 0) 1 36 := ⟨by decide +kernel, rfl⟩
theorem dX6_countWays_36 : di cX6_countWays 36 (.istore_n 1) 1 37 := ⟨by decide +kernel, rfl⟩
theorem dX6_countWays_37 : di cX6_countWays 37 (.iconst 0) 1 38 := ⟨by decide +kernel, rfl⟩
theorem dX6_countWays_38 : di cX6_countWays 38 (.istore_n 2) 1 39 := ⟨by decide +kernel, rfl⟩
theorem dX6_countWays_39 : di cX6_countWays 39 (.iload_n 2) 1 40 := ⟨by decide +kernel, rfl⟩
theorem dX6_countWays_40 : di cX6_countWays 40 (.aload_n 0) 1 41 := ⟨by decide +kernel, rfl⟩
theorem dX6_countWays_41 : di cX6_countWays 41 (.getfield 26) 3 44 := ⟨by decide +kernel, rfl⟩
theorem dX6_countWays_44 : dj cX6_countWays 44 (.if_icmp .ge) 47 79 := ⟨35, by decide +kernel, rfl, rfl⟩
theorem dX6_countWays_47 : di cX6_countWays 47 (.aload_n 0) 1 48 := ⟨by decide +kernel, rfl⟩
theorem dX6_countWays_48 : di cX6_countWays 48 (.iload_n 2) 1 49 := ⟨by decide +kernel, rfl⟩
theorem dX6_countWays_49 : di cX6_countWays 49 (.invokevirtual 61) 3 52 := ⟨by decide +kernel, rfl⟩
theorem dX6_countWays_52 : di cX6_countWays 52 (.istore_n 3) 1 53 := ⟨by decide +kernel, rfl⟩
theorem dX6_countWays_53 : di cX6_countWays 53 (.iload_n 1) 1 54 := ⟨by decide +kernel, rfl⟩
theorem dX6_countWays_54 : di cX6_countWays 54 (.iload_n 3) 1 55 := ⟨by decide +kernel, rfl⟩
theorem dX6_countWays_55 : di cX6_countWays 55 (.iadd) 1 56 := ⟨by decide +kernel, rfl⟩
theorem dX6_countWays_56 : di cX6_countWays 56 (.istore_n 1) 1 57 := ⟨by decide +kernel, rfl⟩
theorem dX6_countWays_57 : di cX6_countWays 57 (.aload_n 0) 1 58 := ⟨by decide +kernel, rfl⟩
theorem dX6_countWays_58 : di cX6_countWays 58 (.iload_n 3) 1 59 := ⟨by decide +kernel, rfl⟩
theorem dX6_countWays_59 : di cX6_countWays 59 (.iload_n 2) 1 60 := ⟨by decide +kernel, rfl⟩
theorem dX6_countWays_60 : di cX6_countWays 60 (.iconst 1) 1 61 := ⟨by decide +kernel, rfl⟩
theorem dX6_countWays_61 : di cX6_countWays 61 (.iadd) 1 62 := ⟨by decide +kernel, rfl⟩
theorem dX6_countWays_62 : di cX6_countWays 62 (.aload_n 0) 1 63 := ⟨by decide +kernel, rfl⟩
theorem dX6_countWays_63 : di cX6_countWays 63 (.getfield 30) 3 66 := ⟨by decide +kernel, rfl⟩
theorem dX6_countWays_66 : di cX6_countWays 66 (.invokestatic 70) 3 69 := ⟨by decide +kernel, rfl⟩
theorem dX6_countWays_69 : di cX6_countWays 69 (.iload_n 1) 1 70 := ⟨by decide +kernel, rfl⟩
theorem dX6_countWays_70 : di cX6_countWays 70 (.invokevirtual 76) 3 73 := ⟨by decide +kernel, rfl⟩
theorem dX6_countWays_73 : di cX6_countWays 73 (.iinc 2 1) 3 76 := ⟨by decide +kernel, rfl⟩
theorem dX6_countWays_76 : dj cX6_countWays 76 .goto 79 39 := ⟨-37, by decide +kernel, rfl, rfl⟩
theorem dX6_countWays_79 : di cX6_countWays 79 (.return_) 1 80 := ⟨by decide +kernel, rfl⟩
def f_X6_countWays_L2  : Nat → Int32 → Mem → (Int32 → Mem → Option Ret) → Option Ret
  | 0, _, _, _ => none
  | k2 + 1, v1, M, K2 => if (M.1 10 5) < v1 then (K2 v1 M) else (gV v1 15 (bE (f_J7_fill_53178 (51 + v1.toNatClampNeg) 183 (0 : Int32) M) (fun r2 M1 => f_X6_countWays_L2  k2 (v1 + (1 : Int32)) M1 K2)))
set_option maxRecDepth 100000 in
theorem f_X6_countWays_L2_ok {l : Launch} {g : Cx}   {r : Int32} {Mr : Mem} : ∀ (k : Nat) (v1 : Int32) (M : Mem) (K2 : Int32 → Mem → Option Ret), f_X6_countWays_L2  k v1 M K2 = some (r, Mr) → (∀ (v1 : Int32) (M : Mem), K2 v1 M = some (r, Mr) → AT l g RX6 cX6_countWays 4 none (rmM 1 25) (PV r Mr) 26 [some (.ref (g.1 10)), some (.int v1), none, none] [] M) → AT l g RX6 cX6_countWays 4 none (rmM 1 25) (PV r Mr) 2 [some (.ref (g.1 10)), some (.int v1), none, none] [] M
  | 0, v1, M, K2, h, hK2 => by cases h
  | k2 + 1, v1, M, K2, h, hK2 => by
    have ih2 := f_X6_countWays_L2_ok (l := l) (g := g)  (r := r) (Mr := Mr) k2
    rw [f_X6_countWays_L2] at h
    refine A_iload_n dX6_countWays_2 rfl ?_
    refine A_aload_n dX6_countWays_3 rfl ?_
    refine A_getf dX6_countWays_4 fw_X6_30 ob10 rfl ?_
    refine A_icmp_gt dX6_countWays_7 (fun hc => ?_) (fun hc => ?_)
    · have h := gT_go hc h
      exact A_le (lvLe_s (lvLe_s (lvLe_n (lvLe_n lvLe_0)))) (hK2 _ _ h)
    · have h := gF_go hc h
      refine A_aload_n dX6_countWays_10 rfl ?_
      refine A_getf dX6_countWays_11 fw_X6_19 ob10 rfl ?_
      refine A_iload_n dX6_countWays_14 rfl ?_
      obtain ⟨hg, h⟩ := gV_go h
      have hw := vp_lt hg
      refine A_aald dX6_countWays_15 hg ?_
      refine A_iconst (v := 0) dX6_countWays_16 (by decide) ?_
      obtain ⟨r2, M1, h1, h⟩ := bE_go h
      refine A_cSv2 dX6_countWays_17 ml_X6_64 mb_J7_fill_53178 ms_J7_fill_53178 ⟨Nat.le_of_ble_eq_true rfl, Nat.le_of_ble_eq_true rfl⟩ (Nat.le_of_ble_eq_true rfl) (ok_J7_fill_53178 (iaW (by assumption)) h1) ?_
      refine A_iinc1 (d := 1) dX6_countWays_20 (by decide) (by decide) rfl ?_
      refine A_goto dX6_countWays_23 ?_
      exact A_le (lvLe_s (lvLe_s (lvLe_n (lvLe_n lvLe_0)))) (ih2 _ _ K2 h hK2)
def f_X6_countWays_L39  : Nat → Int32 → Int32 → Mem → (Int32 → Int32 → Mem → Option Ret) → Option Ret
  | 0, _, _, _, _ => none
  | k39 + 1, v1, v2, M, K39 => if (M.1 10 4) ≤ v2 then (K39 v1 v2 M) else (bE (f_X6_rankOf v2 M) (fun r7 M6 => bI (v1 + r7) (fun x8 => bE (f_X6_addRow r7 (if (M6.1 10 5) < (v2 + (1 : Int32)) then (M6.1 10 5) else (v2 + (1 : Int32))) x8 M6) (fun r10 M9 => f_X6_countWays_L39  k39 x8 (v2 + (1 : Int32)) M9 K39))))
set_option maxRecDepth 100000 in
theorem f_X6_countWays_L39_ok {l : Launch} {g : Cx}   {r : Int32} {Mr : Mem} : ∀ (k : Nat) (v1 : Int32) (v2 : Int32) (M : Mem) (K39 : Int32 → Int32 → Mem → Option Ret), f_X6_countWays_L39  k v1 v2 M K39 = some (r, Mr) → (∀ (v1 : Int32) (v2 : Int32) (M : Mem), K39 v1 v2 M = some (r, Mr) → AT l g RX6 cX6_countWays 4 none (rmM 1 25) (PV r Mr) 79 [some (.ref (g.1 10)), some (.int v1), some (.int v2), none] [] M) → AT l g RX6 cX6_countWays 4 none (rmM 1 25) (PV r Mr) 39 [some (.ref (g.1 10)), some (.int v1), some (.int v2), none] [] M
  | 0, v1, v2, M, K39, h, hK39 => by cases h
  | k39 + 1, v1, v2, M, K39, h, hK39 => by
    have ih39 := f_X6_countWays_L39_ok (l := l) (g := g)  (r := r) (Mr := Mr) k39
    rw [f_X6_countWays_L39] at h
    refine A_iload_n dX6_countWays_39 rfl ?_
    refine A_aload_n dX6_countWays_40 rfl ?_
    refine A_getf dX6_countWays_41 fw_X6_26 ob10 rfl ?_
    refine A_icmp_ge dX6_countWays_44 (fun hc => ?_) (fun hc => ?_)
    · have h := gT_go hc h
      exact A_le (lvLe_s (lvLe_s (lvLe_s (lvLe_n lvLe_0)))) (hK39 _ _ _ h)
    · have h := gF_go hc h
      refine A_aload_n dX6_countWays_47 rfl ?_
      refine A_iload_n dX6_countWays_48 rfl ?_
      obtain ⟨r7, M6, h1, h⟩ := bE_go h
      refine A_cVi1 dX6_countWays_49 ml_X6_61 mb_X6_rankOf mi_X6_rankOf ob10 rfl rfl ⟨Nat.le_of_ble_eq_true rfl, Nat.le_of_ble_eq_true rfl⟩ (Nat.le_of_ble_eq_true rfl) (ok_X6_rankOf h1) ?_
      refine A_istoren3 dX6_countWays_52 (by decide) rfl ?_
      refine A_iload_n dX6_countWays_53 rfl ?_
      refine A_iload_n dX6_countWays_54 rfl ?_
      refine A_iadd dX6_countWays_55 ?_
      refine A_istoren1 dX6_countWays_56 (by decide) rfl (bI_go h (G := fun z => AT l g RX6 cX6_countWays 4 none (rmM 1 25) (PV r Mr) 57 [some (.ref (g.1 10)), some (.int z), some (.int v2), some (.int r7)] [] M6) (fun x8 h => ?_))
      refine A_aload_n dX6_countWays_57 rfl ?_
      refine A_iload_n dX6_countWays_58 rfl ?_
      refine A_iload_n dX6_countWays_59 rfl ?_
      refine A_iconst (v := 1) dX6_countWays_60 (by decide) ?_
      refine A_iadd dX6_countWays_61 ?_
      refine A_aload_n dX6_countWays_62 rfl ?_
      refine A_getf dX6_countWays_63 fw_X6_30 ob10 rfl ?_
      refine A_mmin dX6_countWays_66 ml_X6_70 (Nat.le_of_ble_eq_true rfl) (Nat.le_of_ble_eq_true rfl) ?_
      refine A_iload_n dX6_countWays_69 rfl ?_
      obtain ⟨r10, M9, h1, h⟩ := bE_go h
      refine A_cVv3 dX6_countWays_70 ml_X6_76 mb_X6_addRow mi_X6_addRow ob10 rfl rfl ⟨Nat.le_of_ble_eq_true rfl, Nat.le_of_ble_eq_true rfl⟩ (Nat.le_of_ble_eq_true rfl) (ok_X6_addRow h1) ?_
      refine A_iinc2 (d := 1) dX6_countWays_73 (by decide) (by decide) rfl ?_
      refine A_goto dX6_countWays_76 ?_
      exact A_le (lvLe_s (lvLe_s (lvLe_s (lvLe_n lvLe_0)))) (ih39 _ _ _ K39 h hK39)
def f_X6_countWays  (M : Mem) : Option Ret := f_X6_countWays_L2  FU (0 : Int32) M (fun w3 M4 => gV (0 : Int32) 15 (gV (0 : Int32) 183 (bM (up2 M4 (51 + (0 : Int32).toNatClampNeg) (0 : Int32).toNatClampNeg (1 : Int32)) (fun M5 => f_X6_countWays_L39  FU (0 : Int32) (0 : Int32) M5 (fun w11 w12 M13 => some (0, M13))))))
set_option maxRecDepth 100000 in
theorem ok_X6_countWays {l : Launch} {g : Cx}  {M : Mem} {r : Int32} {Mr : Mem} (h : f_X6_countWays  M = some (r, Mr)) : CT l g yX6_countWays cX6_countWays 4 none 1 25 [.ref (g.1 10)] M (PV r Mr) := by
  refine CT_of (lv := [some (.ref (g.1 10)), none, none, none]) (by decide) rfl (Nat.le_of_ble_eq_true rfl) ?_
  unfold f_X6_countWays at h
  refine A_iconst (v := 0) dX6_countWays_0 (by decide) ?_
  refine A_istoren1 dX6_countWays_1 (by decide) rfl ?_
  refine f_X6_countWays_L2_ok  FU _ _ _ h (fun w3 M4 h => ?_)
  refine A_aload_n dX6_countWays_26 rfl ?_
  refine A_getf dX6_countWays_27 fw_X6_19 ob10 rfl ?_
  refine A_iconst (v := 0) dX6_countWays_30 (by decide) ?_
  obtain ⟨hg, h⟩ := gV_go h
  have hw := vp_lt hg
  refine A_aald dX6_countWays_31 hg ?_
  refine A_iconst (v := 0) dX6_countWays_32 (by decide) ?_
  refine A_iconst (v := 1) dX6_countWays_33 (by decide) ?_
  obtain ⟨hg, h⟩ := gV_go h
  refine A_iast dX6_countWays_34 (iaW (by assumption)) hg (bM_go h (fun M5 h => ?_))
  refine A_iconst (v := 0) dX6_countWays_35 (by decide) ?_
  refine A_istoren1 dX6_countWays_36 (by decide) rfl ?_
  refine A_iconst (v := 0) dX6_countWays_37 (by decide) ?_
  refine A_istoren2 dX6_countWays_38 (by decide) rfl ?_
  refine f_X6_countWays_L39_ok  FU _ _ _ _ h (fun w11 w12 M13 h => ?_)
  exact A_vret dX6_countWays_79 (pV_go h)
-- BenchTimes$Slowness.watchedRanks
theorem dX6_watchedRanks_0 : di cX6_watchedRanks 0 (.iconst 0) 1 1 := ⟨by decide +kernel, rfl⟩
theorem dX6_watchedRanks_1 : di cX6_watchedRanks 1 (.istore_n 1) 1 2 := ⟨by decide +kernel, rfl⟩
theorem dX6_watchedRanks_2 : di cX6_watchedRanks 2 (.iconst 0) 1 3 := ⟨by decide +kernel, rfl⟩
theorem dX6_watchedRanks_3 : di cX6_watchedRanks 3 (.istore_n 2) 1 4 := ⟨by decide +kernel, rfl⟩
theorem dX6_watchedRanks_4 : di cX6_watchedRanks 4 (.iload_n 2) 1 5 := ⟨by decide +kernel, rfl⟩
theorem dX6_watchedRanks_5 : di cX6_watchedRanks 5 (.aload_n 0) 1 6 := ⟨by decide +kernel, rfl⟩
theorem dX6_watchedRanks_6 : di cX6_watchedRanks 6 (.getfield 26) 3 9 := ⟨by decide +kernel, rfl⟩
theorem dX6_watchedRanks_9 : dj cX6_watchedRanks 9 (.if_icmp .ge) 12 39 := ⟨30, by decide +kernel, rfl, rfl⟩
theorem dX6_watchedRanks_12 : di cX6_watchedRanks 12 (.iload_n 1) 1 13 := ⟨by decide +kernel, rfl⟩
theorem dX6_watchedRanks_13 : di cX6_watchedRanks 13 (.aload_n 0) 1 14 := ⟨by decide +kernel, rfl⟩
theorem dX6_watchedRanks_14 : di cX6_watchedRanks 14 (.getfield 13) 3 17 := ⟨by decide +kernel, rfl⟩
theorem dX6_watchedRanks_17 : di cX6_watchedRanks 17 (.iload_n 2) 1 18 := ⟨by decide +kernel, rfl⟩
theorem dX6_watchedRanks_18 : di cX6_watchedRanks 18 (.baload) 1 19 := ⟨by decide +kernel, rfl⟩
theorem dX6_watchedRanks_19 : dj cX6_watchedRanks 19 (.ifCond .eq) 22 30 := ⟨11, by decide +kernel, rfl, rfl⟩
theorem dX6_watchedRanks_22 : di cX6_watchedRanks 22 (.aload_n 0) 1 23 := ⟨by decide +kernel, rfl⟩
theorem dX6_watchedRanks_23 : di cX6_watchedRanks 23 (.iload_n 2) 1 24 := ⟨by decide +kernel, rfl⟩
theorem dX6_watchedRanks_24 : di cX6_watchedRanks 24 (.invokevirtual 61) 3 27 := ⟨by decide +kernel, rfl⟩
theorem dX6_watchedRanks_27 : dj cX6_watchedRanks 27 .goto 30 31 := ⟨4, by decide +kernel, rfl, rfl⟩
theorem dX6_watchedRanks_30 : di cX6_watchedRanks 30 (.iconst 0) 1 31 := ⟨by decide +kernel, rfl⟩
theorem dX6_watchedRanks_31 : di cX6_watchedRanks 31 (.iadd) 1 32 := ⟨by decide +kernel, rfl⟩
theorem dX6_watchedRanks_32 : di cX6_watchedRanks 32 (.istore_n 1) 1 33 := ⟨by decide +kernel, rfl⟩
theorem dX6_watchedRanks_33 : di cX6_watchedRanks 33 (.iinc 2 1) 3 36 := ⟨by decide +kernel, rfl⟩
theorem dX6_watchedRanks_36 : dj cX6_watchedRanks 36 .goto 39 4 := ⟨-32, by decide +kernel, rfl, rfl⟩
theorem dX6_watchedRanks_39 : di cX6_watchedRanks 39 (.iload_n 1) 1 40 := ⟨by decide +kernel, rfl⟩
theorem dX6_watchedRanks_40 : di cX6_watchedRanks 40 (.ireturn) 1 41 := ⟨by decide +kernel, rfl⟩
def f_X6_watchedRanks_L4  : Nat → Int32 → Int32 → Mem → (Int32 → Int32 → Mem → Option Ret) → Option Ret
  | 0, _, _, _, _ => none
  | k4 + 1, v1, v2, M, K4 => if (M.1 10 4) ≤ v2 then (K4 v1 v2 M) else (gV v2 14 (jn (α := Int32 → Mem → Option Ret) (fun (z2 : Int32) (M3 : Mem) => bI (v1 + z2) (fun x4 => f_X6_watchedRanks_L4  k4 x4 (v2 + (1 : Int32)) M3 K4)) (fun J1 => if (M.1 49 v2.toNatClampNeg) = 0 then (J1 (0 : Int32) M) else (bE (f_X6_rankOf v2 M) (fun r6 M5 => J1 r6 M5)))))
set_option maxRecDepth 100000 in
theorem f_X6_watchedRanks_L4_ok {l : Launch} {g : Cx}   {r : Int32} {Mr : Mem} : ∀ (k : Nat) (v1 : Int32) (v2 : Int32) (M : Mem) (K4 : Int32 → Int32 → Mem → Option Ret), f_X6_watchedRanks_L4  k v1 v2 M K4 = some (r, Mr) → (∀ (v1 : Int32) (v2 : Int32) (M : Mem), K4 v1 v2 M = some (r, Mr) → AT l g RX6 cX6_watchedRanks 3 (some .int) (rmM 1 23) (PI r Mr) 39 [some (.ref (g.1 10)), some (.int v1), some (.int v2)] [] M) → AT l g RX6 cX6_watchedRanks 3 (some .int) (rmM 1 23) (PI r Mr) 4 [some (.ref (g.1 10)), some (.int v1), some (.int v2)] [] M
  | 0, v1, v2, M, K4, h, hK4 => by cases h
  | k4 + 1, v1, v2, M, K4, h, hK4 => by
    have ih4 := f_X6_watchedRanks_L4_ok (l := l) (g := g)  (r := r) (Mr := Mr) k4
    rw [f_X6_watchedRanks_L4] at h
    refine A_iload_n dX6_watchedRanks_4 rfl ?_
    refine A_aload_n dX6_watchedRanks_5 rfl ?_
    refine A_getf dX6_watchedRanks_6 fw_X6_26 ob10 rfl ?_
    refine A_icmp_ge dX6_watchedRanks_9 (fun hc => ?_) (fun hc => ?_)
    · have h := gT_go hc h
      exact A_le (lvLe_s (lvLe_s (lvLe_s lvLe_0))) (hK4 _ _ _ h)
    · have h := gF_go hc h
      refine A_iload_n dX6_watchedRanks_12 rfl ?_
      refine A_aload_n dX6_watchedRanks_13 rfl ?_
      refine A_getf dX6_watchedRanks_14 fw_X6_13 ob10 rfl ?_
      refine A_iload_n dX6_watchedRanks_17 rfl ?_
      obtain ⟨hg, h⟩ := gV_go h
      refine A_zald dX6_watchedRanks_18 za49 hg ?_
      obtain ⟨J1, hJ1, h⟩ := jn_go h
      have JJ1 : ∀ (z2 : Int32) (M3 : Mem), J1 z2 M3 = some (r, Mr) → AT l g RX6 cX6_watchedRanks 3 (some .int) (rmM 1 23) (PI r Mr) 31 [some (.ref (g.1 10)), some (.int v1), some (.int v2)] [.int z2, .int v1] M3 := by
        intro z2 M3 h
        rw [hJ1] at h
        refine A_iadd dX6_watchedRanks_31 ?_
        refine A_istoren1 dX6_watchedRanks_32 (by decide) rfl (bI_go h (G := fun z => AT l g RX6 cX6_watchedRanks 3 (some .int) (rmM 1 23) (PI r Mr) 33 [some (.ref (g.1 10)), some (.int z), some (.int v2)] [] M3) (fun x4 h => ?_))
        refine A_iinc2 (d := 1) dX6_watchedRanks_33 (by decide) (by decide) rfl ?_
        refine A_goto dX6_watchedRanks_36 ?_
        exact A_le (lvLe_s (lvLe_s (lvLe_s lvLe_0))) (ih4 _ _ _ K4 h hK4)
      refine A_if_eq dX6_watchedRanks_19 (fun hc => ?_) (fun hc => ?_)
      · have h := gT_go hc h
        refine A_iconst (v := 0) dX6_watchedRanks_30 (by decide) ?_
        exact A_le (lvLe_s (lvLe_s (lvLe_s lvLe_0))) (JJ1 _ _ h)
      · have h := gF_go hc h
        refine A_aload_n dX6_watchedRanks_22 rfl ?_
        refine A_iload_n dX6_watchedRanks_23 rfl ?_
        obtain ⟨r6, M5, h1, h⟩ := bE_go h
        refine A_cVi1 dX6_watchedRanks_24 ml_X6_61 mb_X6_rankOf mi_X6_rankOf ob10 rfl rfl ⟨Nat.le_of_ble_eq_true rfl, Nat.le_of_ble_eq_true rfl⟩ (Nat.le_of_ble_eq_true rfl) (ok_X6_rankOf h1) ?_
        refine A_goto dX6_watchedRanks_27 ?_
        exact A_le (lvLe_s (lvLe_s (lvLe_s lvLe_0))) (JJ1 _ _ h)
def f_X6_watchedRanks  (M : Mem) : Option Ret := f_X6_watchedRanks_L4  FU (0 : Int32) (0 : Int32) M (fun w7 w8 M9 => some (w7, M9))
set_option maxRecDepth 100000 in
theorem ok_X6_watchedRanks {l : Launch} {g : Cx}  {M : Mem} {r : Int32} {Mr : Mem} (h : f_X6_watchedRanks  M = some (r, Mr)) : CT l g yX6_watchedRanks cX6_watchedRanks 3 (some .int) 1 23 [.ref (g.1 10)] M (PI r Mr) := by
  refine CT_of (lv := [some (.ref (g.1 10)), none, none]) (by decide) rfl (Nat.le_of_ble_eq_true rfl) ?_
  unfold f_X6_watchedRanks at h
  refine A_iconst (v := 0) dX6_watchedRanks_0 (by decide) ?_
  refine A_istoren1 dX6_watchedRanks_1 (by decide) rfl ?_
  refine A_iconst (v := 0) dX6_watchedRanks_2 (by decide) ?_
  refine A_istoren2 dX6_watchedRanks_3 (by decide) rfl ?_
  refine f_X6_watchedRanks_L4_ok  FU _ _ _ _ h (fun w7 w8 M9 h => ?_)
  refine A_iload_n dX6_watchedRanks_39 rfl ?_
  exact A_iret dX6_watchedRanks_40 (pI_go h)
-- BenchTimes$Slowness.isBeyondDoubt
theorem dX6_isBeyondDoubt_0 : di cX6_isBeyondDoubt 0 (.aload_n 0) 1 1 := ⟨by decide +kernel, rfl⟩
theorem dX6_isBeyondDoubt_1 : di cX6_isBeyondDoubt 1 (.invokevirtual 55) 3 4 := ⟨by decide +kernel, rfl⟩
theorem dX6_isBeyondDoubt_4 : di cX6_isBeyondDoubt 4 (.aload_n 0) 1 5 := ⟨by decide +kernel, rfl⟩
theorem dX6_isBeyondDoubt_5 : di cX6_isBeyondDoubt 5 (.invokevirtual 58) 3 8 := ⟨by decide +kernel, rfl⟩
theorem dX6_isBeyondDoubt_8 : di cX6_isBeyondDoubt 8 (.istore_n 1) 1 9 := ⟨by decide +kernel, rfl⟩
theorem dX6_isBeyondDoubt_9 : di cX6_isBeyondDoubt 9 (.iconst 0) 1 10 := ⟨by decide +kernel, rfl⟩
theorem dX6_isBeyondDoubt_10 : di cX6_isBeyondDoubt 10 (.istore_n 2) 1 11 := ⟨by decide +kernel, rfl⟩
theorem dX6_isBeyondDoubt_11 : di cX6_isBeyondDoubt 11 (.iconst 0) 1 12 := ⟨by decide +kernel, rfl⟩
theorem dX6_isBeyondDoubt_12 : di cX6_isBeyondDoubt 12 (.istore_n 3) 1 13 := ⟨by decide +kernel, rfl⟩
theorem dX6_isBeyondDoubt_13 : di cX6_isBeyondDoubt 13 (.iconst 0) 1 14 := ⟨by decide +kernel, rfl⟩
theorem dX6_isBeyondDoubt_14 : di cX6_isBeyondDoubt 14 (.istore 4) 2 16 := ⟨by decide +kernel, rfl⟩
theorem dX6_isBeyondDoubt_16 : di cX6_isBeyondDoubt 16 (.iload 4) 2 18 := ⟨by decide +kernel, rfl⟩
theorem dX6_isBeyondDoubt_18 : di cX6_isBeyondDoubt 18 (.sipush 182) 3 21 := ⟨by decide +kernel, rfl⟩
theorem dX6_isBeyondDoubt_21 : dj cX6_isBeyondDoubt 21 (.if_icmp .gt) 24 70 := ⟨49, by decide +kernel, rfl, rfl⟩
theorem dX6_isBeyondDoubt_24 : di cX6_isBeyondDoubt 24 (.iload_n 2) 1 25 := ⟨by decide +kernel, rfl⟩
theorem dX6_isBeyondDoubt_25 : di cX6_isBeyondDoubt 25 (.aload_n 0) 1 26 := ⟨by decide +kernel, rfl⟩
theorem dX6_isBeyondDoubt_26 : di cX6_isBeyondDoubt 26 (.getfield 19) 3 29 := ⟨by decide +kernel, rfl⟩
theorem dX6_isBeyondDoubt_29 : di cX6_isBeyondDoubt 29 (.aload_n 0) 1 30 := ⟨by decide +kernel, rfl⟩
theorem dX6_isBeyondDoubt_30 : di cX6_isBeyondDoubt 30 (.getfield 30) 3 33 := ⟨by decide +kernel, rfl⟩
theorem dX6_isBeyondDoubt_33 : di cX6_isBeyondDoubt 33 (.aaload) 1 34 := ⟨by decide +kernel, rfl⟩
theorem dX6_isBeyondDoubt_34 : di cX6_isBeyondDoubt 34 (.iload 4) 2 36 := ⟨by decide +kernel, rfl⟩
theorem dX6_isBeyondDoubt_36 : di cX6_isBeyondDoubt 36 (.iaload) 1 37 := ⟨by decide +kernel, rfl⟩
theorem dX6_isBeyondDoubt_37 : di cX6_isBeyondDoubt 37 (.iadd) 1 38 := ⟨by decide +kernel, rfl⟩
theorem dX6_isBeyondDoubt_38 : di cX6_isBeyondDoubt 38 (.istore_n 2) 1 39 := ⟨by decide +kernel, rfl⟩
theorem dX6_isBeyondDoubt_39 : di cX6_isBeyondDoubt 39 (.iload_n 3) 1 40 := ⟨by decide +kernel, rfl⟩
theorem dX6_isBeyondDoubt_40 : di cX6_isBeyondDoubt 40 (.iload 4) 2 42 := ⟨by decide +kernel, rfl⟩
theorem dX6_isBeyondDoubt_42 : di cX6_isBeyondDoubt 42 (.iload_n 1) 1 43 := ⟨by decide +kernel, rfl⟩
theorem dX6_isBeyondDoubt_43 : dj cX6_isBeyondDoubt 43 (.if_icmp .lt) 46 61 := ⟨18, by decide +kernel, rfl, rfl⟩
theorem dX6_isBeyondDoubt_46 : di cX6_isBeyondDoubt 46 (.aload_n 0) 1 47 := ⟨by decide +kernel, rfl⟩
theorem dX6_isBeyondDoubt_47 : di cX6_isBeyondDoubt 47 (.getfield 19) 3 50 := ⟨by decide +kernel, rfl⟩
theorem dX6_isBeyondDoubt_50 : di cX6_isBeyondDoubt 50 (.aload_n 0) 1 51 := ⟨by decide +kernel, rfl⟩
theorem dX6_isBeyondDoubt_51 : di cX6_isBeyondDoubt 51 (.getfield 30) 3 54 := ⟨by decide +kernel, rfl⟩
theorem dX6_isBeyondDoubt_54 : di cX6_isBeyondDoubt 54 (.aaload) 1 55 := ⟨by decide +kernel, rfl⟩
theorem dX6_isBeyondDoubt_55 : di cX6_isBeyondDoubt 55 (.iload 4) 2 57 := ⟨by decide +kernel, rfl⟩
theorem dX6_isBeyondDoubt_57 : di cX6_isBeyondDoubt 57 (.iaload) 1 58 := ⟨by decide +kernel, rfl⟩
theorem dX6_isBeyondDoubt_58 : dj cX6_isBeyondDoubt 58 .goto 61 62 := ⟨4, by decide +kernel, rfl, rfl⟩
theorem dX6_isBeyondDoubt_61 : di cX6_isBeyondDoubt 61 (.iconst 0) 1 62 := ⟨by decide +kernel, rfl⟩
theorem dX6_isBeyondDoubt_62 : di cX6_isBeyondDoubt 62 (.iadd) 1 63 := ⟨by decide +kernel, rfl⟩
theorem dX6_isBeyondDoubt_63 : di cX6_isBeyondDoubt 63 (.istore_n 3) 1 64 := ⟨by decide +kernel, rfl⟩
theorem dX6_isBeyondDoubt_64 : di cX6_isBeyondDoubt 64 (.iinc 4 1) 3 67 := ⟨by decide +kernel, rfl⟩
theorem dX6_isBeyondDoubt_67 : dj cX6_isBeyondDoubt 67 .goto 70 16 := ⟨-51, by decide +kernel, rfl, rfl⟩
theorem dX6_isBeyondDoubt_70 : di cX6_isBeyondDoubt 70 (.bipush 20) 2 72 := ⟨by decide +kernel, rfl⟩
theorem dX6_isBeyondDoubt_72 : di cX6_isBeyondDoubt 72 (.iload_n 3) 1 73 := ⟨by decide +kernel, rfl⟩
theorem dX6_isBeyondDoubt_73 : di cX6_isBeyondDoubt 73 (.imul) 1 74 := ⟨by decide +kernel, rfl⟩
theorem dX6_isBeyondDoubt_74 : di cX6_isBeyondDoubt 74 (.iload_n 2) 1 75 := ⟨by decide +kernel, rfl⟩
theorem dX6_isBeyondDoubt_75 : dj cX6_isBeyondDoubt 75 (.if_icmp .gt) 78 82 := ⟨7, by decide +kernel, rfl, rfl⟩
theorem dX6_isBeyondDoubt_78 : di cX6_isBeyondDoubt 78 (.iconst 1) 1 79 := ⟨by decide +kernel, rfl⟩
theorem dX6_isBeyondDoubt_79 : dj cX6_isBeyondDoubt 79 .goto 82 83 := ⟨4, by decide +kernel, rfl, rfl⟩
theorem dX6_isBeyondDoubt_82 : di cX6_isBeyondDoubt 82 (.iconst 0) 1 83 := ⟨by decide +kernel, rfl⟩
theorem dX6_isBeyondDoubt_83 : di cX6_isBeyondDoubt 83 (.ireturn) 1 84 := ⟨by decide +kernel, rfl⟩
def f_X6_isBeyondDoubt_L16 (v1 : Int32) : Nat → Int32 → Int32 → Int32 → Mem → (Int32 → Int32 → Int32 → Mem → Option Ret) → Option Ret
  | 0, _, _, _, _, _ => none
  | k16 + 1, v2, v3, v4, M, K16 => if (182 : Int32) < v4 then (K16 v2 v3 v4 M) else (gV (M.1 10 5) 15 (gV v4 183 (bI (v2 + (M.1 (51 + (M.1 10 5).toNatClampNeg) v4.toNatClampNeg)) (fun x5 => jn (α := Int32 → Option Ret) (fun (z7 : Int32) => bI (v3 + z7) (fun x8 => f_X6_isBeyondDoubt_L16 v1 k16 x5 x8 (v4 + (1 : Int32)) M K16)) (fun J6 => if v4 < v1 then (J6 (0 : Int32)) else (gV (M.1 10 5) 15 (gV v4 183 (J6 (M.1 (51 + (M.1 10 5).toNatClampNeg) v4.toNatClampNeg)))))))))
set_option maxRecDepth 100000 in
theorem f_X6_isBeyondDoubt_L16_ok {l : Launch} {g : Cx} (v1 : Int32)  {r : Int32} {Mr : Mem} : ∀ (k : Nat) (v2 : Int32) (v3 : Int32) (v4 : Int32) (M : Mem) (K16 : Int32 → Int32 → Int32 → Mem → Option Ret), f_X6_isBeyondDoubt_L16 v1 k v2 v3 v4 M K16 = some (r, Mr) → (∀ (v2 : Int32) (v3 : Int32) (v4 : Int32) (M : Mem), K16 v2 v3 v4 M = some (r, Mr) → AT l g RX6 cX6_isBeyondDoubt 5 (some .boolean) (rmM 2 48) (PI r Mr) 70 [some (.ref (g.1 10)), some (.int v1), some (.int v2), some (.int v3), some (.int v4)] [] M) → AT l g RX6 cX6_isBeyondDoubt 5 (some .boolean) (rmM 2 48) (PI r Mr) 16 [some (.ref (g.1 10)), some (.int v1), some (.int v2), some (.int v3), some (.int v4)] [] M
  | 0, v2, v3, v4, M, K16, h, hK16 => by cases h
  | k16 + 1, v2, v3, v4, M, K16, h, hK16 => by
    have ih16 := f_X6_isBeyondDoubt_L16_ok (l := l) (g := g) v1 (r := r) (Mr := Mr) k16
    rw [f_X6_isBeyondDoubt_L16] at h
    refine A_iload dX6_isBeyondDoubt_16 rfl ?_
    refine A_sipush (v := 182) dX6_isBeyondDoubt_18 (by decide) ?_
    refine A_icmp_gt dX6_isBeyondDoubt_21 (fun hc => ?_) (fun hc => ?_)
    · have h := gT_go hc h
      exact A_le (lvLe_s (lvLe_s (lvLe_s (lvLe_s (lvLe_s lvLe_0))))) (hK16 _ _ _ _ h)
    · have h := gF_go hc h
      refine A_iload_n dX6_isBeyondDoubt_24 rfl ?_
      refine A_aload_n dX6_isBeyondDoubt_25 rfl ?_
      refine A_getf dX6_isBeyondDoubt_26 fw_X6_19 ob10 rfl ?_
      refine A_aload_n dX6_isBeyondDoubt_29 rfl ?_
      refine A_getf dX6_isBeyondDoubt_30 fw_X6_30 ob10 rfl ?_
      obtain ⟨hg, h⟩ := gV_go h
      have hw := vp_lt hg
      refine A_aald dX6_isBeyondDoubt_33 hg ?_
      refine A_iload dX6_isBeyondDoubt_34 rfl ?_
      obtain ⟨hg, h⟩ := gV_go h
      refine A_iald dX6_isBeyondDoubt_36 (iaW (by assumption)) hg ?_
      refine A_iadd dX6_isBeyondDoubt_37 ?_
      refine A_istoren2 dX6_isBeyondDoubt_38 (by decide) rfl (bI_go h (G := fun z => AT l g RX6 cX6_isBeyondDoubt 5 (some .boolean) (rmM 2 48) (PI r Mr) 39 [some (.ref (g.1 10)), some (.int v1), some (.int z), some (.int v3), some (.int v4)] [] M) (fun x5 h => ?_))
      refine A_iload_n dX6_isBeyondDoubt_39 rfl ?_
      refine A_iload dX6_isBeyondDoubt_40 rfl ?_
      refine A_iload_n dX6_isBeyondDoubt_42 rfl ?_
      obtain ⟨J6, hJ6, h⟩ := jn_go h
      have JJ6 : ∀ (z7 : Int32), J6 z7 = some (r, Mr) → AT l g RX6 cX6_isBeyondDoubt 5 (some .boolean) (rmM 2 48) (PI r Mr) 62 [some (.ref (g.1 10)), some (.int v1), some (.int x5), some (.int v3), some (.int v4)] [.int z7, .int v3] M := by
        intro z7 h
        rw [hJ6] at h
        refine A_iadd dX6_isBeyondDoubt_62 ?_
        refine A_istoren3 dX6_isBeyondDoubt_63 (by decide) rfl (bI_go h (G := fun z => AT l g RX6 cX6_isBeyondDoubt 5 (some .boolean) (rmM 2 48) (PI r Mr) 64 [some (.ref (g.1 10)), some (.int v1), some (.int x5), some (.int z), some (.int v4)] [] M) (fun x8 h => ?_))
        refine A_iinc4 (d := 1) dX6_isBeyondDoubt_64 (by decide) (by decide) rfl ?_
        refine A_goto dX6_isBeyondDoubt_67 ?_
        exact A_le (lvLe_s (lvLe_s (lvLe_s (lvLe_s (lvLe_s lvLe_0))))) (ih16 _ _ _ _ K16 h hK16)
      refine A_icmp_lt dX6_isBeyondDoubt_43 (fun hc => ?_) (fun hc => ?_)
      · have h := gT_go hc h
        refine A_iconst (v := 0) dX6_isBeyondDoubt_61 (by decide) ?_
        exact A_le (lvLe_s (lvLe_s (lvLe_s (lvLe_s (lvLe_s lvLe_0))))) (JJ6 _ h)
      · have h := gF_go hc h
        refine A_aload_n dX6_isBeyondDoubt_46 rfl ?_
        refine A_getf dX6_isBeyondDoubt_47 fw_X6_19 ob10 rfl ?_
        refine A_aload_n dX6_isBeyondDoubt_50 rfl ?_
        refine A_getf dX6_isBeyondDoubt_51 fw_X6_30 ob10 rfl ?_
        obtain ⟨hg, h⟩ := gV_go h
        have hw := vp_lt hg
        refine A_aald dX6_isBeyondDoubt_54 hg ?_
        refine A_iload dX6_isBeyondDoubt_55 rfl ?_
        obtain ⟨hg, h⟩ := gV_go h
        refine A_iald dX6_isBeyondDoubt_57 (iaW (by assumption)) hg ?_
        refine A_goto dX6_isBeyondDoubt_58 ?_
        exact A_le (lvLe_s (lvLe_s (lvLe_s (lvLe_s (lvLe_s lvLe_0))))) (JJ6 _ h)
def f_X6_isBeyondDoubt  (M : Mem) : Option Ret := bE (f_X6_countWays M) (fun r2 M1 => bE (f_X6_watchedRanks M1) (fun r4 M3 => f_X6_isBeyondDoubt_L16 r4 FU (0 : Int32) (0 : Int32) (0 : Int32) M3 (fun w9 w10 w11 M12 => jn (α := Int32 → Option Ret) (fun (z14 : Int32) => gZ z14 (some (z14, M12))) (fun J13 => if w9 < ((20 : Int32) * w10) then (J13 (0 : Int32)) else (J13 (1 : Int32))))))
set_option maxRecDepth 100000 in
theorem ok_X6_isBeyondDoubt {l : Launch} {g : Cx}  {M : Mem} {r : Int32} {Mr : Mem} (h : f_X6_isBeyondDoubt  M = some (r, Mr)) : CT l g yX6_isBeyondDoubt cX6_isBeyondDoubt 5 (some .boolean) 2 48 [.ref (g.1 10)] M (PI r Mr) := by
  refine CT_of (lv := [some (.ref (g.1 10)), none, none, none, none]) (by decide) rfl (Nat.le_of_ble_eq_true rfl) ?_
  unfold f_X6_isBeyondDoubt at h
  refine A_aload_n dX6_isBeyondDoubt_0 rfl ?_
  obtain ⟨r2, M1, h1, h⟩ := bE_go h
  refine A_cVv0 dX6_isBeyondDoubt_1 ml_X6_55 mb_X6_countWays mi_X6_countWays ob10 rfl rfl ⟨Nat.le_of_ble_eq_true rfl, Nat.le_of_ble_eq_true rfl⟩ (Nat.le_of_ble_eq_true rfl) (ok_X6_countWays h1) ?_
  refine A_aload_n dX6_isBeyondDoubt_4 rfl ?_
  obtain ⟨r4, M3, h1, h⟩ := bE_go h
  refine A_cVi0 dX6_isBeyondDoubt_5 ml_X6_58 mb_X6_watchedRanks mi_X6_watchedRanks ob10 rfl rfl ⟨Nat.le_of_ble_eq_true rfl, Nat.le_of_ble_eq_true rfl⟩ (Nat.le_of_ble_eq_true rfl) (ok_X6_watchedRanks h1) ?_
  refine A_istoren1 dX6_isBeyondDoubt_8 (by decide) rfl ?_
  refine A_iconst (v := 0) dX6_isBeyondDoubt_9 (by decide) ?_
  refine A_istoren2 dX6_isBeyondDoubt_10 (by decide) rfl ?_
  refine A_iconst (v := 0) dX6_isBeyondDoubt_11 (by decide) ?_
  refine A_istoren3 dX6_isBeyondDoubt_12 (by decide) rfl ?_
  refine A_iconst (v := 0) dX6_isBeyondDoubt_13 (by decide) ?_
  refine A_istore4 dX6_isBeyondDoubt_14 (by decide) rfl ?_
  refine f_X6_isBeyondDoubt_L16_ok _ FU _ _ _ _ _ h (fun w9 w10 w11 M12 h => ?_)
  refine A_bipush (v := 20) dX6_isBeyondDoubt_70 (by decide) ?_
  refine A_iload_n dX6_isBeyondDoubt_72 rfl ?_
  refine A_imul dX6_isBeyondDoubt_73 ?_
  refine A_iload_n dX6_isBeyondDoubt_74 rfl ?_
  obtain ⟨J13, hJ13, h⟩ := jn_go h
  have JJ13 : ∀ (z14 : Int32), J13 z14 = some (r, Mr) → AT l g RX6 cX6_isBeyondDoubt 5 (some .boolean) (rmM 2 48) (PI r Mr) 83 [some (.ref (g.1 10)), some (.int r4), some (.int w9), some (.int w10), some (.int w11)] [.int z14] M12 := by
    intro z14 h
    rw [hJ13] at h
    obtain ⟨hg, h⟩ := gZ_go h
    exact A_zret dX6_isBeyondDoubt_83 hg (pI_go h)
  refine A_icmp_gt dX6_isBeyondDoubt_75 (fun hc => ?_) (fun hc => ?_)
  · have h := gT_go hc h
    refine A_iconst (v := 0) dX6_isBeyondDoubt_82 (by decide) ?_
    exact A_le (lvLe_s (lvLe_s (lvLe_s (lvLe_s (lvLe_s lvLe_0))))) (JJ13 _ h)
  · have h := gF_go hc h
    refine A_iconst (v := 1) dX6_isBeyondDoubt_78 (by decide) ?_
    refine A_goto dX6_isBeyondDoubt_79 ?_
    exact A_le (lvLe_s (lvLe_s (lvLe_s (lvLe_s (lvLe_s lvLe_0))))) (JJ13 _ h)
-- BenchTimes$WaitRows.many
theorem dX7_many_0 : di cX7_many 0 (.aload_n 0) 1 1 := ⟨by decide +kernel, rfl⟩
theorem dX7_many_1 : di cX7_many 1 (.getfield 24) 3 4 := ⟨by decide +kernel, rfl⟩
theorem dX7_many_4 : di cX7_many 4 (.ireturn) 1 5 := ⟨by decide +kernel, rfl⟩
def f_X7_many  (M : Mem) : Option Ret := some (M.1 7 4, M)
set_option maxRecDepth 100000 in
theorem ok_X7_many {l : Launch} {g : Cx}  {M : Mem} {r : Int32} {Mr : Mem} (h : f_X7_many  M = some (r, Mr)) : CT l g yX7_many cX7_many 1 (some .int) 0 0 [.ref (g.1 7)] M (PI r Mr) := by
  refine CT_of (lv := [some (.ref (g.1 7))]) (by decide) rfl (Nat.le_of_ble_eq_true rfl) ?_
  unfold f_X7_many at h
  refine A_aload_n dX7_many_0 rfl ?_
  refine A_getf dX7_many_1 fw_X7_24 ob7 rfl ?_
  exact A_iret dX7_many_4 (pI_go h)
-- BenchTimes$WaitRows.isFull
theorem dX7_isFull_0 : di cX7_isFull 0 (.aload_n 0) 1 1 := ⟨by decide +kernel, rfl⟩
theorem dX7_isFull_1 : di cX7_isFull 1 (.getfield 24) 3 4 := ⟨by decide +kernel, rfl⟩
theorem dX7_isFull_4 : di cX7_isFull 4 (.bipush 60) 2 6 := ⟨by decide +kernel, rfl⟩
theorem dX7_isFull_6 : dj cX7_isFull 6 (.if_icmp .lt) 9 13 := ⟨7, by decide +kernel, rfl, rfl⟩
theorem dX7_isFull_9 : di cX7_isFull 9 (.iconst 1) 1 10 := ⟨by decide +kernel, rfl⟩
theorem dX7_isFull_10 : dj cX7_isFull 10 .goto 13 14 := ⟨4, by decide +kernel, rfl, rfl⟩
theorem dX7_isFull_13 : di cX7_isFull 13 (.iconst 0) 1 14 := ⟨by decide +kernel, rfl⟩
theorem dX7_isFull_14 : di cX7_isFull 14 (.ireturn) 1 15 := ⟨by decide +kernel, rfl⟩
def f_X7_isFull  (M : Mem) : Option Ret := jn (α := Int32 → Option Ret) (fun (z2 : Int32) => gZ z2 (some (z2, M))) (fun J1 => if (M.1 7 4) < (60 : Int32) then (J1 (0 : Int32)) else (J1 (1 : Int32)))
set_option maxRecDepth 100000 in
theorem ok_X7_isFull {l : Launch} {g : Cx}  {M : Mem} {r : Int32} {Mr : Mem} (h : f_X7_isFull  M = some (r, Mr)) : CT l g yX7_isFull cX7_isFull 1 (some .boolean) 0 0 [.ref (g.1 7)] M (PI r Mr) := by
  refine CT_of (lv := [some (.ref (g.1 7))]) (by decide) rfl (Nat.le_of_ble_eq_true rfl) ?_
  unfold f_X7_isFull at h
  refine A_aload_n dX7_isFull_0 rfl ?_
  refine A_getf dX7_isFull_1 fw_X7_24 ob7 rfl ?_
  refine A_bipush (v := 60) dX7_isFull_4 (by decide) ?_
  obtain ⟨J1, hJ1, h⟩ := jn_go h
  have JJ1 : ∀ (z2 : Int32), J1 z2 = some (r, Mr) → AT l g RX7 cX7_isFull 1 (some .boolean) (rmM 0 0) (PI r Mr) 14 [some (.ref (g.1 7))] [.int z2] M := by
    intro z2 h
    rw [hJ1] at h
    obtain ⟨hg, h⟩ := gZ_go h
    exact A_zret dX7_isFull_14 hg (pI_go h)
  refine A_icmp_lt dX7_isFull_6 (fun hc => ?_) (fun hc => ?_)
  · have h := gT_go hc h
    refine A_iconst (v := 0) dX7_isFull_13 (by decide) ?_
    exact A_le (lvLe_s lvLe_0) (JJ1 _ h)
  · have h := gF_go hc h
    refine A_iconst (v := 1) dX7_isFull_9 (by decide) ?_
    refine A_goto dX7_isFull_10 ?_
    exact A_le (lvLe_s lvLe_0) (JJ1 _ h)
-- BenchTimes$WaitRows.add
theorem dX7_add_0 : di cX7_add 0 (.aload_n 0) 1 1 := ⟨by decide +kernel, rfl⟩
theorem dX7_add_1 : di cX7_add 1 (.getfield 11) 3 4 := ⟨by decide +kernel, rfl⟩
theorem dX7_add_4 : di cX7_add 4 (.aload_n 0) 1 5 := ⟨by decide +kernel, rfl⟩
theorem dX7_add_5 : di cX7_add 5 (.getfield 24) 3 8 := ⟨by decide +kernel, rfl⟩
theorem dX7_add_8 : di cX7_add 8 (.iload_n 1) 1 9 := ⟨by decide +kernel, rfl⟩
theorem dX7_add_9 : di cX7_add 9 (.iastore) 1 10 := ⟨by decide +kernel, rfl⟩
theorem dX7_add_10 : di cX7_add 10 (.aload_n 0) 1 11 := ⟨by decide +kernel, rfl⟩
theorem dX7_add_11 : di cX7_add 11 (.getfield 15) 3 14 := ⟨by decide +kernel, rfl⟩
theorem dX7_add_14 : di cX7_add 14 (.aload_n 0) 1 15 := ⟨by decide +kernel, rfl⟩
theorem dX7_add_15 : di cX7_add 15 (.getfield 24) 3 18 := ⟨by decide +kernel, rfl⟩
theorem dX7_add_18 : di cX7_add 18 (.iload_n 2) 1 19 := ⟨by decide +kernel, rfl⟩
theorem dX7_add_19 : di cX7_add 19 (.iastore) 1 20 := ⟨by decide +kernel, rfl⟩
theorem dX7_add_20 : di cX7_add 20 (.aload_n 0) 1 21 := ⟨by decide +kernel, rfl⟩
theorem dX7_add_21 : di cX7_add 21 (.getfield 18) 3 24 := ⟨by decide +kernel, rfl⟩
theorem dX7_add_24 : di cX7_add 24 (.aload_n 0) 1 25 := ⟨by decide +kernel, rfl⟩
theorem dX7_add_25 : di cX7_add 25 (.getfield 24) 3 28 := ⟨by decide +kernel, rfl⟩
theorem dX7_add_28 : di cX7_add 28 (.iload 4) 2 30 := ⟨by decide +kernel, rfl⟩
theorem dX7_add_30 : di cX7_add 30 (.iastore) 1 31 := ⟨by decide +kernel, rfl⟩
theorem dX7_add_31 : di cX7_add 31 (.aload_n 0) 1 32 := ⟨by decide +kernel, rfl⟩
theorem dX7_add_32 : di cX7_add 32 (.getfield 21) 3 35 := ⟨by decide +kernel, rfl⟩
theorem dX7_add_35 : di cX7_add 35 (.iload_n 3) 1 36 := ⟨by decide +kernel, rfl⟩
theorem dX7_add_36 : di cX7_add 36 (.dup2) 1 37 := ⟨by decide +kernel, rfl⟩
theorem dX7_add_37 : di cX7_add 37 (.iaload) 1 38 := ⟨by decide +kernel, rfl⟩
theorem dX7_add_38 : di cX7_add 38 (.iload 4) 2 40 := ⟨by decide +kernel, rfl⟩
theorem dX7_add_40 : di cX7_add 40 (.iadd) 1 41 := ⟨by decide +kernel, rfl⟩
theorem dX7_add_41 : di cX7_add 41 (.iastore) 1 42 := ⟨by decide +kernel, rfl⟩
theorem dX7_add_42 : di cX7_add 42 (.aload_n 0) 1 43 := ⟨by decide +kernel, rfl⟩
theorem dX7_add_43 : di cX7_add 43 (.dup) 1 44 := ⟨by decide +kernel, rfl⟩
theorem dX7_add_44 : di cX7_add 44 (.getfield 24) 3 47 := ⟨by decide +kernel, rfl⟩
theorem dX7_add_47 : di cX7_add 47 (.iconst 1) 1 48 := ⟨by decide +kernel, rfl⟩
theorem dX7_add_48 : di cX7_add 48 (.iadd) 1 49 := ⟨by decide +kernel, rfl⟩
theorem dX7_add_49 : di cX7_add 49 (.putfield 24) 3 52 := ⟨by decide +kernel, rfl⟩
theorem dX7_add_52 : di cX7_add 52 (.aload_n 0) 1 53 := ⟨by decide +kernel, rfl⟩
theorem dX7_add_53 : di cX7_add 53 (.getfield 24) 3 56 := ⟨by decide +kernel, rfl⟩
theorem dX7_add_56 : di cX7_add 56 (.ireturn) 1 57 := ⟨by decide +kernel, rfl⟩
def f_X7_add (v1 : Int32) (v2 : Int32) (v3 : Int32) (v4 : Int32) (M : Mem) : Option Ret := gV (M.1 7 4) 60 (bM (up2 M 41 (M.1 7 4).toNatClampNeg v1) (fun M1 => gV (M1.1 7 4) 60 (bM (up2 M1 42 (M1.1 7 4).toNatClampNeg v2) (fun M2 => gV (M2.1 7 4) 60 (bM (up2 M2 43 (M2.1 7 4).toNatClampNeg v4) (fun M3 => gV v3 4 (gV v3 4 (bM (up2 M3 44 v3.toNatClampNeg ((M3.1 44 v3.toNatClampNeg) + v4)) (fun M4 => bM (up2 M4 7 4 ((M4.1 7 4) + (1 : Int32))) (fun M5 => some (M5.1 7 4, M5)))))))))))
set_option maxRecDepth 100000 in
theorem ok_X7_add {l : Launch} {g : Cx} {v1 : Int32} {v2 : Int32} {v3 : Int32} {v4 : Int32} {M : Mem} {r : Int32} {Mr : Mem} (h : f_X7_add v1 v2 v3 v4 M = some (r, Mr)) : CT l g yX7_add cX7_add 5 (some .int) 0 0 [.ref (g.1 7), .int v1, .int v2, .int v3, .int v4] M (PI r Mr) := by
  refine CT_of (lv := [some (.ref (g.1 7)), some (.int v1), some (.int v2), some (.int v3), some (.int v4)]) (by decide) rfl (Nat.le_of_ble_eq_true rfl) ?_
  unfold f_X7_add at h
  refine A_aload_n dX7_add_0 rfl ?_
  refine A_getf dX7_add_1 fw_X7_11 ob7 rfl ?_
  refine A_aload_n dX7_add_4 rfl ?_
  refine A_getf dX7_add_5 fw_X7_24 ob7 rfl ?_
  refine A_iload_n dX7_add_8 rfl ?_
  obtain ⟨hg, h⟩ := gV_go h
  refine A_iast dX7_add_9 ia41 hg (bM_go h (fun M1 h => ?_))
  refine A_aload_n dX7_add_10 rfl ?_
  refine A_getf dX7_add_11 fw_X7_15 ob7 rfl ?_
  refine A_aload_n dX7_add_14 rfl ?_
  refine A_getf dX7_add_15 fw_X7_24 ob7 rfl ?_
  refine A_iload_n dX7_add_18 rfl ?_
  obtain ⟨hg, h⟩ := gV_go h
  refine A_iast dX7_add_19 ia42 hg (bM_go h (fun M2 h => ?_))
  refine A_aload_n dX7_add_20 rfl ?_
  refine A_getf dX7_add_21 fw_X7_18 ob7 rfl ?_
  refine A_aload_n dX7_add_24 rfl ?_
  refine A_getf dX7_add_25 fw_X7_24 ob7 rfl ?_
  refine A_iload dX7_add_28 rfl ?_
  obtain ⟨hg, h⟩ := gV_go h
  refine A_iast dX7_add_30 ia43 hg (bM_go h (fun M3 h => ?_))
  refine A_aload_n dX7_add_31 rfl ?_
  refine A_getf dX7_add_32 fw_X7_21 ob7 rfl ?_
  refine A_iload_n dX7_add_35 rfl ?_
  refine A_dup2 dX7_add_36 rfl rfl ?_
  obtain ⟨hg, h⟩ := gV_go h
  refine A_iald dX7_add_37 ia44 hg ?_
  refine A_iload dX7_add_38 rfl ?_
  refine A_iadd dX7_add_40 ?_
  obtain ⟨hg, h⟩ := gV_go h
  refine A_iast dX7_add_41 ia44 hg (bM_go h (fun M4 h => ?_))
  refine A_aload_n dX7_add_42 rfl ?_
  refine A_dup dX7_add_43 rfl ?_
  refine A_getf dX7_add_44 fw_X7_24 ob7 rfl ?_
  refine A_iconst (v := 1) dX7_add_47 (by decide) ?_
  refine A_iadd dX7_add_48 ?_
  refine A_putf dX7_add_49 pw_X7_24 ob7 pf7_4 (Nat.le_of_ble_eq_true rfl) (bM_go h (fun M5 h => ?_))
  refine A_aload_n dX7_add_52 rfl ?_
  refine A_getf dX7_add_53 fw_X7_24 ob7 rfl ?_
  exact A_iret dX7_add_56 (pI_go h)
-- BenchTimes$WaitRows.minutesFor
theorem dX7_minutesFor_0 : di cX7_minutesFor 0 (.aload_n 0) 1 1 := ⟨by decide +kernel, rfl⟩
theorem dX7_minutesFor_1 : di cX7_minutesFor 1 (.getfield 21) 3 4 := ⟨by decide +kernel, rfl⟩
theorem dX7_minutesFor_4 : di cX7_minutesFor 4 (.iload_n 1) 1 5 := ⟨by decide +kernel, rfl⟩
theorem dX7_minutesFor_5 : di cX7_minutesFor 5 (.iaload) 1 6 := ⟨by decide +kernel, rfl⟩
theorem dX7_minutesFor_6 : di cX7_minutesFor 6 (.ireturn) 1 7 := ⟨by decide +kernel, rfl⟩
def f_X7_minutesFor (v1 : Int32) (M : Mem) : Option Ret := gV v1 4 (some (M.1 44 v1.toNatClampNeg, M))
set_option maxRecDepth 100000 in
theorem ok_X7_minutesFor {l : Launch} {g : Cx} {v1 : Int32} {M : Mem} {r : Int32} {Mr : Mem} (h : f_X7_minutesFor v1 M = some (r, Mr)) : CT l g yX7_minutesFor cX7_minutesFor 2 (some .int) 0 0 [.ref (g.1 7), .int v1] M (PI r Mr) := by
  refine CT_of (lv := [some (.ref (g.1 7)), some (.int v1)]) (by decide) rfl (Nat.le_of_ble_eq_true rfl) ?_
  unfold f_X7_minutesFor at h
  refine A_aload_n dX7_minutesFor_0 rfl ?_
  refine A_getf dX7_minutesFor_1 fw_X7_21 ob7 rfl ?_
  refine A_iload_n dX7_minutesFor_4 rfl ?_
  obtain ⟨hg, h⟩ := gV_go h
  refine A_iald dX7_minutesFor_5 ia44 hg ?_
  exact A_iret dX7_minutesFor_6 (pI_go h)
-- BenchTimes$Watch.filmMany
theorem dX8_filmMany_0 : di cX8_filmMany 0 (.aload_n 0) 1 1 := ⟨by decide +kernel, rfl⟩
theorem dX8_filmMany_1 : di cX8_filmMany 1 (.getfield 37) 3 4 := ⟨by decide +kernel, rfl⟩
theorem dX8_filmMany_4 : di cX8_filmMany 4 (.ireturn) 1 5 := ⟨by decide +kernel, rfl⟩
def f_X8_filmMany  (M : Mem) : Option Ret := some (M.1 2 3, M)
set_option maxRecDepth 100000 in
theorem ok_X8_filmMany {l : Launch} {g : Cx}  {M : Mem} {r : Int32} {Mr : Mem} (h : f_X8_filmMany  M = some (r, Mr)) : CT l g yX8_filmMany cX8_filmMany 1 (some .int) 0 0 [.ref (g.1 2)] M (PI r Mr) := by
  refine CT_of (lv := [some (.ref (g.1 2))]) (by decide) rfl (Nat.le_of_ble_eq_true rfl) ?_
  unfold f_X8_filmMany at h
  refine A_aload_n dX8_filmMany_0 rfl ?_
  refine A_getf dX8_filmMany_1 fw_X8_37 ob2 rfl ?_
  exact A_iret dX8_filmMany_4 (pI_go h)
-- BenchTimes$Watch.cycleMany
theorem dX8_cycleMany_0 : di cX8_cycleMany 0 (.aload_n 0) 1 1 := ⟨by decide +kernel, rfl⟩
theorem dX8_cycleMany_1 : di cX8_cycleMany 1 (.getfield 41) 3 4 := ⟨by decide +kernel, rfl⟩
theorem dX8_cycleMany_4 : di cX8_cycleMany 4 (.ireturn) 1 5 := ⟨by decide +kernel, rfl⟩
def f_X8_cycleMany  (M : Mem) : Option Ret := some (M.1 2 8, M)
set_option maxRecDepth 100000 in
theorem ok_X8_cycleMany {l : Launch} {g : Cx}  {M : Mem} {r : Int32} {Mr : Mem} (h : f_X8_cycleMany  M = some (r, Mr)) : CT l g yX8_cycleMany cX8_cycleMany 1 (some .int) 0 0 [.ref (g.1 2)] M (PI r Mr) := by
  refine CT_of (lv := [some (.ref (g.1 2))]) (by decide) rfl (Nat.le_of_ble_eq_true rfl) ?_
  unfold f_X8_cycleMany at h
  refine A_aload_n dX8_cycleMany_0 rfl ?_
  refine A_getf dX8_cycleMany_1 fw_X8_41 ob2 rfl ?_
  exact A_iret dX8_cycleMany_4 (pI_go h)
-- BenchTimes$Watch.isFullOfFilms
theorem dX8_isFullOfFilms_0 : di cX8_isFullOfFilms 0 (.aload_n 0) 1 1 := ⟨by decide +kernel, rfl⟩
theorem dX8_isFullOfFilms_1 : di cX8_isFullOfFilms 1 (.getfield 37) 3 4 := ⟨by decide +kernel, rfl⟩
theorem dX8_isFullOfFilms_4 : di cX8_isFullOfFilms 4 (.bipush 20) 2 6 := ⟨by decide +kernel, rfl⟩
theorem dX8_isFullOfFilms_6 : dj cX8_isFullOfFilms 6 (.if_icmp .lt) 9 13 := ⟨7, by decide +kernel, rfl, rfl⟩
theorem dX8_isFullOfFilms_9 : di cX8_isFullOfFilms 9 (.iconst 1) 1 10 := ⟨by decide +kernel, rfl⟩
theorem dX8_isFullOfFilms_10 : dj cX8_isFullOfFilms 10 .goto 13 14 := ⟨4, by decide +kernel, rfl, rfl⟩
theorem dX8_isFullOfFilms_13 : di cX8_isFullOfFilms 13 (.iconst 0) 1 14 := ⟨by decide +kernel, rfl⟩
theorem dX8_isFullOfFilms_14 : di cX8_isFullOfFilms 14 (.ireturn) 1 15 := ⟨by decide +kernel, rfl⟩
def f_X8_isFullOfFilms  (M : Mem) : Option Ret := jn (α := Int32 → Option Ret) (fun (z2 : Int32) => gZ z2 (some (z2, M))) (fun J1 => if (M.1 2 3) < (20 : Int32) then (J1 (0 : Int32)) else (J1 (1 : Int32)))
set_option maxRecDepth 100000 in
theorem ok_X8_isFullOfFilms {l : Launch} {g : Cx}  {M : Mem} {r : Int32} {Mr : Mem} (h : f_X8_isFullOfFilms  M = some (r, Mr)) : CT l g yX8_isFullOfFilms cX8_isFullOfFilms 1 (some .boolean) 0 0 [.ref (g.1 2)] M (PI r Mr) := by
  refine CT_of (lv := [some (.ref (g.1 2))]) (by decide) rfl (Nat.le_of_ble_eq_true rfl) ?_
  unfold f_X8_isFullOfFilms at h
  refine A_aload_n dX8_isFullOfFilms_0 rfl ?_
  refine A_getf dX8_isFullOfFilms_1 fw_X8_37 ob2 rfl ?_
  refine A_bipush (v := 20) dX8_isFullOfFilms_4 (by decide) ?_
  obtain ⟨J1, hJ1, h⟩ := jn_go h
  have JJ1 : ∀ (z2 : Int32), J1 z2 = some (r, Mr) → AT l g RX8 cX8_isFullOfFilms 1 (some .boolean) (rmM 0 0) (PI r Mr) 14 [some (.ref (g.1 2))] [.int z2] M := by
    intro z2 h
    rw [hJ1] at h
    obtain ⟨hg, h⟩ := gZ_go h
    exact A_zret dX8_isFullOfFilms_14 hg (pI_go h)
  refine A_icmp_lt dX8_isFullOfFilms_6 (fun hc => ?_) (fun hc => ?_)
  · have h := gT_go hc h
    refine A_iconst (v := 0) dX8_isFullOfFilms_13 (by decide) ?_
    exact A_le (lvLe_s lvLe_0) (JJ1 _ h)
  · have h := gF_go hc h
    refine A_iconst (v := 1) dX8_isFullOfFilms_9 (by decide) ?_
    refine A_goto dX8_isFullOfFilms_10 ?_
    exact A_le (lvLe_s lvLe_0) (JJ1 _ h)
-- BenchTimes$Watch.isFullOfCycles
theorem dX8_isFullOfCycles_0 : di cX8_isFullOfCycles 0 (.aload_n 0) 1 1 := ⟨by decide +kernel, rfl⟩
theorem dX8_isFullOfCycles_1 : di cX8_isFullOfCycles 1 (.getfield 41) 3 4 := ⟨by decide +kernel, rfl⟩
theorem dX8_isFullOfCycles_4 : di cX8_isFullOfCycles 4 (.bipush 60) 2 6 := ⟨by decide +kernel, rfl⟩
theorem dX8_isFullOfCycles_6 : dj cX8_isFullOfCycles 6 (.if_icmp .lt) 9 13 := ⟨7, by decide +kernel, rfl, rfl⟩
theorem dX8_isFullOfCycles_9 : di cX8_isFullOfCycles 9 (.iconst 1) 1 10 := ⟨by decide +kernel, rfl⟩
theorem dX8_isFullOfCycles_10 : dj cX8_isFullOfCycles 10 .goto 13 14 := ⟨4, by decide +kernel, rfl, rfl⟩
theorem dX8_isFullOfCycles_13 : di cX8_isFullOfCycles 13 (.iconst 0) 1 14 := ⟨by decide +kernel, rfl⟩
theorem dX8_isFullOfCycles_14 : di cX8_isFullOfCycles 14 (.ireturn) 1 15 := ⟨by decide +kernel, rfl⟩
def f_X8_isFullOfCycles  (M : Mem) : Option Ret := jn (α := Int32 → Option Ret) (fun (z2 : Int32) => gZ z2 (some (z2, M))) (fun J1 => if (M.1 2 8) < (60 : Int32) then (J1 (0 : Int32)) else (J1 (1 : Int32)))
set_option maxRecDepth 100000 in
theorem ok_X8_isFullOfCycles {l : Launch} {g : Cx}  {M : Mem} {r : Int32} {Mr : Mem} (h : f_X8_isFullOfCycles  M = some (r, Mr)) : CT l g yX8_isFullOfCycles cX8_isFullOfCycles 1 (some .boolean) 0 0 [.ref (g.1 2)] M (PI r Mr) := by
  refine CT_of (lv := [some (.ref (g.1 2))]) (by decide) rfl (Nat.le_of_ble_eq_true rfl) ?_
  unfold f_X8_isFullOfCycles at h
  refine A_aload_n dX8_isFullOfCycles_0 rfl ?_
  refine A_getf dX8_isFullOfCycles_1 fw_X8_41 ob2 rfl ?_
  refine A_bipush (v := 60) dX8_isFullOfCycles_4 (by decide) ?_
  obtain ⟨J1, hJ1, h⟩ := jn_go h
  have JJ1 : ∀ (z2 : Int32), J1 z2 = some (r, Mr) → AT l g RX8 cX8_isFullOfCycles 1 (some .boolean) (rmM 0 0) (PI r Mr) 14 [some (.ref (g.1 2))] [.int z2] M := by
    intro z2 h
    rw [hJ1] at h
    obtain ⟨hg, h⟩ := gZ_go h
    exact A_zret dX8_isFullOfCycles_14 hg (pI_go h)
  refine A_icmp_lt dX8_isFullOfCycles_6 (fun hc => ?_) (fun hc => ?_)
  · have h := gT_go hc h
    refine A_iconst (v := 0) dX8_isFullOfCycles_13 (by decide) ?_
    exact A_le (lvLe_s lvLe_0) (JJ1 _ h)
  · have h := gF_go hc h
    refine A_iconst (v := 1) dX8_isFullOfCycles_9 (by decide) ?_
    refine A_goto dX8_isFullOfCycles_10 ?_
    exact A_le (lvLe_s lvLe_0) (JJ1 _ h)
-- BenchTimes$Watch.addFilm
theorem dX8_addFilm_0 : di cX8_addFilm 0 (.aload_n 0) 1 1 := ⟨by decide +kernel, rfl⟩
theorem dX8_addFilm_1 : di cX8_addFilm 1 (.getfield 9) 3 4 := ⟨by decide +kernel, rfl⟩
theorem dX8_addFilm_4 : di cX8_addFilm 4 (.iload_n 1) 1 5 := ⟨by decide +kernel, rfl⟩
theorem dX8_addFilm_5 : di cX8_addFilm 5 (.dup2) 1 6 := ⟨by decide +kernel, rfl⟩
theorem dX8_addFilm_6 : di cX8_addFilm 6 (.iaload) 1 7 := ⟨by decide +kernel, rfl⟩
theorem dX8_addFilm_7 : di cX8_addFilm 7 (.iload_n 2) 1 8 := ⟨by decide +kernel, rfl⟩
theorem dX8_addFilm_8 : di cX8_addFilm 8 (.iadd) 1 9 := ⟨by decide +kernel, rfl⟩
theorem dX8_addFilm_9 : di cX8_addFilm 9 (.iastore) 1 10 := ⟨by decide +kernel, rfl⟩
theorem dX8_addFilm_10 : di cX8_addFilm 10 (.aload_n 0) 1 11 := ⟨by decide +kernel, rfl⟩
theorem dX8_addFilm_11 : di cX8_addFilm 11 (.getfield 15) 3 14 := ⟨by decide +kernel, rfl⟩
theorem dX8_addFilm_14 : di cX8_addFilm 14 (.iload_n 1) 1 15 := ⟨by decide +kernel, rfl⟩
theorem dX8_addFilm_15 : di cX8_addFilm 15 (.dup2) 1 16 := ⟨by decide +kernel, rfl⟩
theorem dX8_addFilm_16 : di cX8_addFilm 16 (.iaload) 1 17 := ⟨by decide +kernel, rfl⟩
theorem dX8_addFilm_17 : di cX8_addFilm 17 (.iconst 1) 1 18 := ⟨by decide +kernel, rfl⟩
theorem dX8_addFilm_18 : di cX8_addFilm 18 (.iadd) 1 19 := ⟨by decide +kernel, rfl⟩
theorem dX8_addFilm_19 : di cX8_addFilm 19 (.iastore) 1 20 := ⟨by decide +kernel, rfl⟩
theorem dX8_addFilm_20 : di cX8_addFilm 20 (.aload_n 0) 1 21 := ⟨by decide +kernel, rfl⟩
theorem dX8_addFilm_21 : di cX8_addFilm 21 (.dup) 1 22 := ⟨by decide +kernel, rfl⟩
theorem dX8_addFilm_22 : di cX8_addFilm 22 (.getfield 37) 3 25 := ⟨by decide +kernel, rfl⟩
theorem dX8_addFilm_25 : di cX8_addFilm 25 (.iconst 1) 1 26 := ⟨by decide +kernel, rfl⟩
theorem dX8_addFilm_26 : di cX8_addFilm 26 (.iadd) 1 27 := ⟨by decide +kernel, rfl⟩
theorem dX8_addFilm_27 : di cX8_addFilm 27 (.putfield 37) 3 30 := ⟨by decide +kernel, rfl⟩
theorem dX8_addFilm_30 : di cX8_addFilm 30 (.aload_n 0) 1 31 := ⟨by decide +kernel, rfl⟩
theorem dX8_addFilm_31 : di cX8_addFilm 31 (.getfield 37) 3 34 := ⟨by decide +kernel, rfl⟩
theorem dX8_addFilm_34 : di cX8_addFilm 34 (.ireturn) 1 35 := ⟨by decide +kernel, rfl⟩
def f_X8_addFilm (v1 : Int32) (v2 : Int32) (M : Mem) : Option Ret := gV v1 4 (gV v1 4 (bM (up2 M 15 v1.toNatClampNeg ((M.1 15 v1.toNatClampNeg) + v2)) (fun M1 => gV v1 4 (gV v1 4 (bM (up2 M1 16 v1.toNatClampNeg ((M1.1 16 v1.toNatClampNeg) + (1 : Int32))) (fun M2 => bM (up2 M2 2 3 ((M2.1 2 3) + (1 : Int32))) (fun M3 => some (M3.1 2 3, M3))))))))
set_option maxRecDepth 100000 in
theorem ok_X8_addFilm {l : Launch} {g : Cx} {v1 : Int32} {v2 : Int32} {M : Mem} {r : Int32} {Mr : Mem} (h : f_X8_addFilm v1 v2 M = some (r, Mr)) : CT l g yX8_addFilm cX8_addFilm 3 (some .int) 0 0 [.ref (g.1 2), .int v1, .int v2] M (PI r Mr) := by
  refine CT_of (lv := [some (.ref (g.1 2)), some (.int v1), some (.int v2)]) (by decide) rfl (Nat.le_of_ble_eq_true rfl) ?_
  unfold f_X8_addFilm at h
  refine A_aload_n dX8_addFilm_0 rfl ?_
  refine A_getf dX8_addFilm_1 fw_X8_9 ob2 rfl ?_
  refine A_iload_n dX8_addFilm_4 rfl ?_
  refine A_dup2 dX8_addFilm_5 rfl rfl ?_
  obtain ⟨hg, h⟩ := gV_go h
  refine A_iald dX8_addFilm_6 ia15 hg ?_
  refine A_iload_n dX8_addFilm_7 rfl ?_
  refine A_iadd dX8_addFilm_8 ?_
  obtain ⟨hg, h⟩ := gV_go h
  refine A_iast dX8_addFilm_9 ia15 hg (bM_go h (fun M1 h => ?_))
  refine A_aload_n dX8_addFilm_10 rfl ?_
  refine A_getf dX8_addFilm_11 fw_X8_15 ob2 rfl ?_
  refine A_iload_n dX8_addFilm_14 rfl ?_
  refine A_dup2 dX8_addFilm_15 rfl rfl ?_
  obtain ⟨hg, h⟩ := gV_go h
  refine A_iald dX8_addFilm_16 ia16 hg ?_
  refine A_iconst (v := 1) dX8_addFilm_17 (by decide) ?_
  refine A_iadd dX8_addFilm_18 ?_
  obtain ⟨hg, h⟩ := gV_go h
  refine A_iast dX8_addFilm_19 ia16 hg (bM_go h (fun M2 h => ?_))
  refine A_aload_n dX8_addFilm_20 rfl ?_
  refine A_dup dX8_addFilm_21 rfl ?_
  refine A_getf dX8_addFilm_22 fw_X8_37 ob2 rfl ?_
  refine A_iconst (v := 1) dX8_addFilm_25 (by decide) ?_
  refine A_iadd dX8_addFilm_26 ?_
  refine A_putf dX8_addFilm_27 pw_X8_37 ob2 pf2_3 (Nat.le_of_ble_eq_true rfl) (bM_go h (fun M3 h => ?_))
  refine A_aload_n dX8_addFilm_30 rfl ?_
  refine A_getf dX8_addFilm_31 fw_X8_37 ob2 rfl ?_
  exact A_iret dX8_addFilm_34 (pI_go h)
-- BenchTimes$Watch.addCycle
theorem dX8_addCycle_0 : di cX8_addCycle 0 (.aload_n 0) 1 1 := ⟨by decide +kernel, rfl⟩
theorem dX8_addCycle_1 : di cX8_addCycle 1 (.getfield 18) 3 4 := ⟨by decide +kernel, rfl⟩
theorem dX8_addCycle_4 : di cX8_addCycle 4 (.aload_n 0) 1 5 := ⟨by decide +kernel, rfl⟩
theorem dX8_addCycle_5 : di cX8_addCycle 5 (.getfield 41) 3 8 := ⟨by decide +kernel, rfl⟩
theorem dX8_addCycle_8 : di cX8_addCycle 8 (.iload_n 1) 1 9 := ⟨by decide +kernel, rfl⟩
theorem dX8_addCycle_9 : di cX8_addCycle 9 (.iastore) 1 10 := ⟨by decide +kernel, rfl⟩
theorem dX8_addCycle_10 : di cX8_addCycle 10 (.aload_n 0) 1 11 := ⟨by decide +kernel, rfl⟩
theorem dX8_addCycle_11 : di cX8_addCycle 11 (.getfield 21) 3 14 := ⟨by decide +kernel, rfl⟩
theorem dX8_addCycle_14 : di cX8_addCycle 14 (.aload_n 0) 1 15 := ⟨by decide +kernel, rfl⟩
theorem dX8_addCycle_15 : di cX8_addCycle 15 (.getfield 41) 3 18 := ⟨by decide +kernel, rfl⟩
theorem dX8_addCycle_18 : di cX8_addCycle 18 (.iload_n 2) 1 19 := ⟨by decide +kernel, rfl⟩
theorem dX8_addCycle_19 : di cX8_addCycle 19 (.iastore) 1 20 := ⟨by decide +kernel, rfl⟩
theorem dX8_addCycle_20 : di cX8_addCycle 20 (.aload_n 0) 1 21 := ⟨by decide +kernel, rfl⟩
theorem dX8_addCycle_21 : di cX8_addCycle 21 (.getfield 24) 3 24 := ⟨by decide +kernel, rfl⟩
theorem dX8_addCycle_24 : di cX8_addCycle 24 (.aload_n 0) 1 25 := ⟨by decide +kernel, rfl⟩
theorem dX8_addCycle_25 : di cX8_addCycle 25 (.getfield 41) 3 28 := ⟨by decide +kernel, rfl⟩
theorem dX8_addCycle_28 : di cX8_addCycle 28 (.iload_n 3) 1 29 := ⟨by decide +kernel, rfl⟩
theorem dX8_addCycle_29 : di cX8_addCycle 29 (.iastore) 1 30 := ⟨by decide +kernel, rfl⟩
theorem dX8_addCycle_30 : di cX8_addCycle 30 (.aload_n 0) 1 31 := ⟨by decide +kernel, rfl⟩
theorem dX8_addCycle_31 : di cX8_addCycle 31 (.getfield 27) 3 34 := ⟨by decide +kernel, rfl⟩
theorem dX8_addCycle_34 : di cX8_addCycle 34 (.aload_n 0) 1 35 := ⟨by decide +kernel, rfl⟩
theorem dX8_addCycle_35 : di cX8_addCycle 35 (.getfield 41) 3 38 := ⟨by decide +kernel, rfl⟩
theorem dX8_addCycle_38 : di cX8_addCycle 38 (.iload 4) 2 40 := ⟨by decide +kernel, rfl⟩
theorem dX8_addCycle_40 : di cX8_addCycle 40 (.iastore) 1 41 := ⟨by decide +kernel, rfl⟩
theorem dX8_addCycle_41 : di cX8_addCycle 41 (.aload_n 0) 1 42 := ⟨by decide +kernel, rfl⟩
theorem dX8_addCycle_42 : di cX8_addCycle 42 (.dup) 1 43 := ⟨by decide +kernel, rfl⟩
theorem dX8_addCycle_43 : di cX8_addCycle 43 (.getfield 41) 3 46 := ⟨by decide +kernel, rfl⟩
theorem dX8_addCycle_46 : di cX8_addCycle 46 (.iconst 1) 1 47 := ⟨by decide +kernel, rfl⟩
theorem dX8_addCycle_47 : di cX8_addCycle 47 (.iadd) 1 48 := ⟨by decide +kernel, rfl⟩
theorem dX8_addCycle_48 : di cX8_addCycle 48 (.putfield 41) 3 51 := ⟨by decide +kernel, rfl⟩
theorem dX8_addCycle_51 : di cX8_addCycle 51 (.aload_n 0) 1 52 := ⟨by decide +kernel, rfl⟩
theorem dX8_addCycle_52 : di cX8_addCycle 52 (.getfield 41) 3 55 := ⟨by decide +kernel, rfl⟩
theorem dX8_addCycle_55 : di cX8_addCycle 55 (.ireturn) 1 56 := ⟨by decide +kernel, rfl⟩
def f_X8_addCycle (v1 : Int32) (v2 : Int32) (v3 : Int32) (v4 : Int32) (M : Mem) : Option Ret := gV (M.1 2 8) 60 (bM (up2 M 17 (M.1 2 8).toNatClampNeg v1) (fun M1 => gV (M1.1 2 8) 60 (bM (up2 M1 18 (M1.1 2 8).toNatClampNeg v2) (fun M2 => gV (M2.1 2 8) 60 (bM (up2 M2 19 (M2.1 2 8).toNatClampNeg v3) (fun M3 => gV (M3.1 2 8) 60 (bM (up2 M3 20 (M3.1 2 8).toNatClampNeg v4) (fun M4 => bM (up2 M4 2 8 ((M4.1 2 8) + (1 : Int32))) (fun M5 => some (M5.1 2 8, M5))))))))))
set_option maxRecDepth 100000 in
theorem ok_X8_addCycle {l : Launch} {g : Cx} {v1 : Int32} {v2 : Int32} {v3 : Int32} {v4 : Int32} {M : Mem} {r : Int32} {Mr : Mem} (h : f_X8_addCycle v1 v2 v3 v4 M = some (r, Mr)) : CT l g yX8_addCycle cX8_addCycle 5 (some .int) 0 0 [.ref (g.1 2), .int v1, .int v2, .int v3, .int v4] M (PI r Mr) := by
  refine CT_of (lv := [some (.ref (g.1 2)), some (.int v1), some (.int v2), some (.int v3), some (.int v4)]) (by decide) rfl (Nat.le_of_ble_eq_true rfl) ?_
  unfold f_X8_addCycle at h
  refine A_aload_n dX8_addCycle_0 rfl ?_
  refine A_getf dX8_addCycle_1 fw_X8_18 ob2 rfl ?_
  refine A_aload_n dX8_addCycle_4 rfl ?_
  refine A_getf dX8_addCycle_5 fw_X8_41 ob2 rfl ?_
  refine A_iload_n dX8_addCycle_8 rfl ?_
  obtain ⟨hg, h⟩ := gV_go h
  refine A_iast dX8_addCycle_9 ia17 hg (bM_go h (fun M1 h => ?_))
  refine A_aload_n dX8_addCycle_10 rfl ?_
  refine A_getf dX8_addCycle_11 fw_X8_21 ob2 rfl ?_
  refine A_aload_n dX8_addCycle_14 rfl ?_
  refine A_getf dX8_addCycle_15 fw_X8_41 ob2 rfl ?_
  refine A_iload_n dX8_addCycle_18 rfl ?_
  obtain ⟨hg, h⟩ := gV_go h
  refine A_iast dX8_addCycle_19 ia18 hg (bM_go h (fun M2 h => ?_))
  refine A_aload_n dX8_addCycle_20 rfl ?_
  refine A_getf dX8_addCycle_21 fw_X8_24 ob2 rfl ?_
  refine A_aload_n dX8_addCycle_24 rfl ?_
  refine A_getf dX8_addCycle_25 fw_X8_41 ob2 rfl ?_
  refine A_iload_n dX8_addCycle_28 rfl ?_
  obtain ⟨hg, h⟩ := gV_go h
  refine A_iast dX8_addCycle_29 ia19 hg (bM_go h (fun M3 h => ?_))
  refine A_aload_n dX8_addCycle_30 rfl ?_
  refine A_getf dX8_addCycle_31 fw_X8_27 ob2 rfl ?_
  refine A_aload_n dX8_addCycle_34 rfl ?_
  refine A_getf dX8_addCycle_35 fw_X8_41 ob2 rfl ?_
  refine A_iload dX8_addCycle_38 rfl ?_
  obtain ⟨hg, h⟩ := gV_go h
  refine A_iast dX8_addCycle_40 ia20 hg (bM_go h (fun M4 h => ?_))
  refine A_aload_n dX8_addCycle_41 rfl ?_
  refine A_dup dX8_addCycle_42 rfl ?_
  refine A_getf dX8_addCycle_43 fw_X8_41 ob2 rfl ?_
  refine A_iconst (v := 1) dX8_addCycle_46 (by decide) ?_
  refine A_iadd dX8_addCycle_47 ?_
  refine A_putf dX8_addCycle_48 pw_X8_41 ob2 pf2_8 (Nat.le_of_ble_eq_true rfl) (bM_go h (fun M5 h => ?_))
  refine A_aload_n dX8_addCycle_51 rfl ?_
  refine A_getf dX8_addCycle_52 fw_X8_41 ob2 rfl ?_
  exact A_iret dX8_addCycle_55 (pI_go h)
-- BenchTimes$WorkRows.isFull
theorem dX9_isFull_0 : di cX9_isFull 0 (.aload_n 0) 1 1 := ⟨by decide +kernel, rfl⟩
theorem dX9_isFull_1 : di cX9_isFull 1 (.getfield 51) 3 4 := ⟨by decide +kernel, rfl⟩
theorem dX9_isFull_4 : di cX9_isFull 4 (.bipush 100) 2 6 := ⟨by decide +kernel, rfl⟩
theorem dX9_isFull_6 : dj cX9_isFull 6 (.if_icmp .lt) 9 13 := ⟨7, by decide +kernel, rfl, rfl⟩
theorem dX9_isFull_9 : di cX9_isFull 9 (.iconst 1) 1 10 := ⟨by decide +kernel, rfl⟩
theorem dX9_isFull_10 : dj cX9_isFull 10 .goto 13 14 := ⟨4, by decide +kernel, rfl, rfl⟩
theorem dX9_isFull_13 : di cX9_isFull 13 (.iconst 0) 1 14 := ⟨by decide +kernel, rfl⟩
theorem dX9_isFull_14 : di cX9_isFull 14 (.ireturn) 1 15 := ⟨by decide +kernel, rfl⟩
def f_X9_isFull  (M : Mem) : Option Ret := jn (α := Int32 → Option Ret) (fun (z2 : Int32) => gZ z2 (some (z2, M))) (fun J1 => if (M.1 6 10) < (100 : Int32) then (J1 (0 : Int32)) else (J1 (1 : Int32)))
set_option maxRecDepth 100000 in
theorem ok_X9_isFull {l : Launch} {g : Cx}  {M : Mem} {r : Int32} {Mr : Mem} (h : f_X9_isFull  M = some (r, Mr)) : CT l g yX9_isFull cX9_isFull 1 (some .boolean) 0 0 [.ref (g.1 6)] M (PI r Mr) := by
  refine CT_of (lv := [some (.ref (g.1 6))]) (by decide) rfl (Nat.le_of_ble_eq_true rfl) ?_
  unfold f_X9_isFull at h
  refine A_aload_n dX9_isFull_0 rfl ?_
  refine A_getf dX9_isFull_1 fw_X9_51 ob6 rfl ?_
  refine A_bipush (v := 100) dX9_isFull_4 (by decide) ?_
  obtain ⟨J1, hJ1, h⟩ := jn_go h
  have JJ1 : ∀ (z2 : Int32), J1 z2 = some (r, Mr) → AT l g RX9 cX9_isFull 1 (some .boolean) (rmM 0 0) (PI r Mr) 14 [some (.ref (g.1 6))] [.int z2] M := by
    intro z2 h
    rw [hJ1] at h
    obtain ⟨hg, h⟩ := gZ_go h
    exact A_zret dX9_isFull_14 hg (pI_go h)
  refine A_icmp_lt dX9_isFull_6 (fun hc => ?_) (fun hc => ?_)
  · have h := gT_go hc h
    refine A_iconst (v := 0) dX9_isFull_13 (by decide) ?_
    exact A_le (lvLe_s lvLe_0) (JJ1 _ h)
  · have h := gF_go hc h
    refine A_iconst (v := 1) dX9_isFull_9 (by decide) ?_
    refine A_goto dX9_isFull_10 ?_
    exact A_le (lvLe_s lvLe_0) (JJ1 _ h)
-- BenchTimes$WorkRows.add
theorem dX9_add_0 : di cX9_add 0 (.aload_n 0) 1 1 := ⟨by decide +kernel, rfl⟩
theorem dX9_add_1 : di cX9_add 1 (.getfield 11) 3 4 := ⟨by decide +kernel, rfl⟩
theorem dX9_add_4 : di cX9_add 4 (.aload_n 0) 1 5 := ⟨by decide +kernel, rfl⟩
theorem dX9_add_5 : di cX9_add 5 (.getfield 51) 3 8 := ⟨by decide +kernel, rfl⟩
theorem dX9_add_8 : di cX9_add 8 (.iload_n 1) 1 9 := ⟨by decide +kernel, rfl⟩
theorem dX9_add_9 : di cX9_add 9 (.iastore) 1 10 := ⟨by decide +kernel, rfl⟩
theorem dX9_add_10 : di cX9_add 10 (.aload_n 0) 1 11 := ⟨by decide +kernel, rfl⟩
theorem dX9_add_11 : di cX9_add 11 (.getfield 15) 3 14 := ⟨by decide +kernel, rfl⟩
theorem dX9_add_14 : di cX9_add 14 (.aload_n 0) 1 15 := ⟨by decide +kernel, rfl⟩
theorem dX9_add_15 : di cX9_add 15 (.getfield 51) 3 18 := ⟨by decide +kernel, rfl⟩
theorem dX9_add_18 : di cX9_add 18 (.iload_n 2) 1 19 := ⟨by decide +kernel, rfl⟩
theorem dX9_add_19 : di cX9_add 19 (.bipush 10) 2 21 := ⟨by decide +kernel, rfl⟩
theorem dX9_add_21 : di cX9_add 21 (.irem) 1 22 := ⟨by decide +kernel, rfl⟩
theorem dX9_add_22 : di cX9_add 22 (.iastore) 1 23 := ⟨by decide +kernel, rfl⟩
theorem dX9_add_23 : di cX9_add 23 (.aload_n 0) 1 24 := ⟨by decide +kernel, rfl⟩
theorem dX9_add_24 : di cX9_add 24 (.getfield 18) 3 27 := ⟨by decide +kernel, rfl⟩
theorem dX9_add_27 : di cX9_add 27 (.aload_n 0) 1 28 := ⟨by decide +kernel, rfl⟩
theorem dX9_add_28 : di cX9_add 28 (.getfield 51) 3 31 := ⟨by decide +kernel, rfl⟩
theorem dX9_add_31 : di cX9_add 31 (.iload_n 2) 1 32 := ⟨by decide +kernel, rfl⟩
theorem dX9_add_32 : di cX9_add 32 (.bipush 10) 2 34 := ⟨by decide +kernel, rfl⟩
theorem dX9_add_34 : di cX9_add 34 (.idiv) 1 35 := ⟨by decide +kernel, rfl⟩
theorem dX9_add_35 : di cX9_add 35 (.iastore) 1 36 := ⟨by decide +kernel, rfl⟩
theorem dX9_add_36 : di cX9_add 36 (.aload_n 0) 1 37 := ⟨by decide +kernel, rfl⟩
theorem dX9_add_37 : di cX9_add 37 (.getfield 21) 3 40 := ⟨by decide +kernel, rfl⟩
theorem dX9_add_40 : di cX9_add 40 (.aload_n 0) 1 41 := ⟨by decide +kernel, rfl⟩
theorem dX9_add_41 : di cX9_add 41 (.getfield 51) 3 44 := ⟨by decide +kernel, rfl⟩
theorem dX9_add_44 : di cX9_add 44 (.iload_n 3) 1 45 := ⟨by decide +kernel, rfl⟩
theorem dX9_add_45 : di cX9_add 45 (.sipush 1000) 3 48 := ⟨by decide +kernel, rfl⟩
theorem dX9_add_48 : di cX9_add 48 (.idiv) 1 49 := ⟨by decide +kernel, rfl⟩
theorem dX9_add_49 : di cX9_add 49 (.iastore) 1 50 := ⟨by decide +kernel, rfl⟩
theorem dX9_add_50 : di cX9_add 50 (.aload_n 0) 1 51 := ⟨by decide +kernel, rfl⟩
theorem dX9_add_51 : di cX9_add 51 (.getfield 24) 3 54 := ⟨by decide +kernel, rfl⟩
theorem dX9_add_54 : di cX9_add 54 (.aload_n 0) 1 55 := ⟨by decide +kernel, rfl⟩
theorem dX9_add_55 : di cX9_add 55 (.getfield 51) 3 58 := ⟨by decide +kernel, rfl⟩
theorem dX9_add_58 : di cX9_add 58 (.iload_n 3) 1 59 := ⟨by decide +kernel, rfl⟩
theorem dX9_add_59 : di cX9_add 59 (.sipush 1000) 3 62 := ⟨by decide +kernel, rfl⟩
theorem dX9_add_62 : di cX9_add 62 (.irem) 1 63 := ⟨by decide +kernel, rfl⟩
theorem dX9_add_63 : di cX9_add 63 (.iastore) 1 64 := ⟨by decide +kernel, rfl⟩
theorem dX9_add_64 : di cX9_add 64 (.aload_n 0) 1 65 := ⟨by decide +kernel, rfl⟩
theorem dX9_add_65 : di cX9_add 65 (.getfield 27) 3 68 := ⟨by decide +kernel, rfl⟩
theorem dX9_add_68 : di cX9_add 68 (.aload_n 0) 1 69 := ⟨by decide +kernel, rfl⟩
theorem dX9_add_69 : di cX9_add 69 (.getfield 51) 3 72 := ⟨by decide +kernel, rfl⟩
theorem dX9_add_72 : di cX9_add 72 (.iload 4) 2 74 := ⟨by decide +kernel, rfl⟩
theorem dX9_add_74 : di cX9_add 74 (.invokestatic 55) 3 77 := ⟨by decide +kernel, rfl⟩
theorem dX9_add_77 : di cX9_add 77 (.iastore) 1 78 := ⟨by decide +kernel, rfl⟩
theorem dX9_add_78 : di cX9_add 78 (.aload_n 0) 1 79 := ⟨by decide +kernel, rfl⟩
theorem dX9_add_79 : di cX9_add 79 (.getfield 30) 3 82 := ⟨by decide +kernel, rfl⟩
theorem dX9_add_82 : di cX9_add 82 (.aload_n 0) 1 83 := ⟨by decide +kernel, rfl⟩
theorem dX9_add_83 : di cX9_add 83 (.getfield 51) 3 86 := ⟨by decide +kernel, rfl⟩
theorem dX9_add_86 : di cX9_add 86 (.iload 4) 2 88 := ⟨by decide +kernel, rfl⟩
theorem dX9_add_88 : dj cX9_add 88 (.ifCond .ge) 91 95 := ⟨7, by decide +kernel, rfl, rfl⟩
theorem dX9_add_91 : di cX9_add 91 (.iconst 1) 1 92 := ⟨by decide +kernel, rfl⟩
theorem dX9_add_92 : dj cX9_add 92 .goto 95 96 := ⟨4, by decide +kernel, rfl, rfl⟩
theorem dX9_add_95 : di cX9_add 95 (.iconst 0) 1 96 := ⟨by decide +kernel, rfl⟩
theorem dX9_add_96 : di cX9_add 96 (.bastore) 1 97 := ⟨by decide +kernel, rfl⟩
theorem dX9_add_97 : di cX9_add 97 (.aload_n 0) 1 98 := ⟨by decide +kernel, rfl⟩
theorem dX9_add_98 : di cX9_add 98 (.dup) 1 99 := ⟨by decide +kernel, rfl⟩
theorem dX9_add_99 : di cX9_add 99 (.getfield 51) 3 102 := ⟨by decide +kernel, rfl⟩
theorem dX9_add_102 : di cX9_add 102 (.iconst 1) 1 103 := ⟨by decide +kernel, rfl⟩
theorem dX9_add_103 : di cX9_add 103 (.iadd) 1 104 := ⟨by decide +kernel, rfl⟩
theorem dX9_add_104 : di cX9_add 104 (.putfield 51) 3 107 := ⟨by decide +kernel, rfl⟩
theorem dX9_add_107 : di cX9_add 107 (.aload_n 0) 1 108 := ⟨by decide +kernel, rfl⟩
theorem dX9_add_108 : di cX9_add 108 (.getfield 51) 3 111 := ⟨by decide +kernel, rfl⟩
theorem dX9_add_111 : di cX9_add 111 (.iconst 1) 1 112 := ⟨by decide +kernel, rfl⟩
theorem dX9_add_112 : di cX9_add 112 (.isub) 1 113 := ⟨by decide +kernel, rfl⟩
theorem dX9_add_113 : di cX9_add 113 (.ireturn) 1 114 := ⟨by decide +kernel, rfl⟩
def f_X9_add (v1 : Int32) (v2 : Int32) (v3 : Int32) (v4 : Int32) (M : Mem) : Option Ret := gV (M.1 6 10) 100 (bM (up2 M 33 (M.1 6 10).toNatClampNeg v1) (fun M1 => gV (M1.1 6 10) 100 (bM (up2 M1 34 (M1.1 6 10).toNatClampNeg (v2 - v2 / (10 : Int32) * (10 : Int32))) (fun M2 => gV (M2.1 6 10) 100 (bM (up2 M2 35 (M2.1 6 10).toNatClampNeg (v2 / (10 : Int32))) (fun M3 => gV (M3.1 6 10) 100 (bM (up2 M3 36 (M3.1 6 10).toNatClampNeg (v3 / (1000 : Int32))) (fun M4 => gV (M4.1 6 10) 100 (bM (up2 M4 37 (M4.1 6 10).toNatClampNeg (v3 - v3 / (1000 : Int32) * (1000 : Int32))) (fun M5 => gV (M5.1 6 10) 100 (bM (up2 M5 38 (M5.1 6 10).toNatClampNeg (if 0 ≤ v4 then v4 else 0 - v4)) (fun M6 => jn (α := Int32 → Option Ret) (fun (z8 : Int32) => gV (M6.1 6 10) 100 (bM (up2 M6 39 (M6.1 6 10).toNatClampNeg (z8 &&& 1)) (fun M9 => bM (up2 M9 6 10 ((M9.1 6 10) + (1 : Int32))) (fun M10 => some ((M10.1 6 10) - (1 : Int32), M10))))) (fun J7 => if 0 ≤ v4 then (J7 (0 : Int32)) else (J7 (1 : Int32)))))))))))))))
set_option maxRecDepth 100000 in
theorem ok_X9_add {l : Launch} {g : Cx} {v1 : Int32} {v2 : Int32} {v3 : Int32} {v4 : Int32} {M : Mem} {r : Int32} {Mr : Mem} (h : f_X9_add v1 v2 v3 v4 M = some (r, Mr)) : CT l g yX9_add cX9_add 5 (some .int) 1 20 [.ref (g.1 6), .int v1, .int v2, .int v3, .int v4] M (PI r Mr) := by
  refine CT_of (lv := [some (.ref (g.1 6)), some (.int v1), some (.int v2), some (.int v3), some (.int v4)]) (by decide) rfl (Nat.le_of_ble_eq_true rfl) ?_
  unfold f_X9_add at h
  refine A_aload_n dX9_add_0 rfl ?_
  refine A_getf dX9_add_1 fw_X9_11 ob6 rfl ?_
  refine A_aload_n dX9_add_4 rfl ?_
  refine A_getf dX9_add_5 fw_X9_51 ob6 rfl ?_
  refine A_iload_n dX9_add_8 rfl ?_
  obtain ⟨hg, h⟩ := gV_go h
  refine A_iast dX9_add_9 ia33 hg (bM_go h (fun M1 h => ?_))
  refine A_aload_n dX9_add_10 rfl ?_
  refine A_getf dX9_add_11 fw_X9_15 ob6 rfl ?_
  refine A_aload_n dX9_add_14 rfl ?_
  refine A_getf dX9_add_15 fw_X9_51 ob6 rfl ?_
  refine A_iload_n dX9_add_18 rfl ?_
  refine A_bipush (v := 10) dX9_add_19 (by decide) ?_
  refine A_irem dX9_add_21 (by decide) ?_
  obtain ⟨hg, h⟩ := gV_go h
  refine A_iast dX9_add_22 ia34 hg (bM_go h (fun M2 h => ?_))
  refine A_aload_n dX9_add_23 rfl ?_
  refine A_getf dX9_add_24 fw_X9_18 ob6 rfl ?_
  refine A_aload_n dX9_add_27 rfl ?_
  refine A_getf dX9_add_28 fw_X9_51 ob6 rfl ?_
  refine A_iload_n dX9_add_31 rfl ?_
  refine A_bipush (v := 10) dX9_add_32 (by decide) ?_
  refine A_idiv dX9_add_34 (by decide) ?_
  obtain ⟨hg, h⟩ := gV_go h
  refine A_iast dX9_add_35 ia35 hg (bM_go h (fun M3 h => ?_))
  refine A_aload_n dX9_add_36 rfl ?_
  refine A_getf dX9_add_37 fw_X9_21 ob6 rfl ?_
  refine A_aload_n dX9_add_40 rfl ?_
  refine A_getf dX9_add_41 fw_X9_51 ob6 rfl ?_
  refine A_iload_n dX9_add_44 rfl ?_
  refine A_sipush (v := 1000) dX9_add_45 (by decide) ?_
  refine A_idiv dX9_add_48 (by decide) ?_
  obtain ⟨hg, h⟩ := gV_go h
  refine A_iast dX9_add_49 ia36 hg (bM_go h (fun M4 h => ?_))
  refine A_aload_n dX9_add_50 rfl ?_
  refine A_getf dX9_add_51 fw_X9_24 ob6 rfl ?_
  refine A_aload_n dX9_add_54 rfl ?_
  refine A_getf dX9_add_55 fw_X9_51 ob6 rfl ?_
  refine A_iload_n dX9_add_58 rfl ?_
  refine A_sipush (v := 1000) dX9_add_59 (by decide) ?_
  refine A_irem dX9_add_62 (by decide) ?_
  obtain ⟨hg, h⟩ := gV_go h
  refine A_iast dX9_add_63 ia37 hg (bM_go h (fun M5 h => ?_))
  refine A_aload_n dX9_add_64 rfl ?_
  refine A_getf dX9_add_65 fw_X9_27 ob6 rfl ?_
  refine A_aload_n dX9_add_68 rfl ?_
  refine A_getf dX9_add_69 fw_X9_51 ob6 rfl ?_
  refine A_iload dX9_add_72 rfl ?_
  refine A_mabs dX9_add_74 ml_X9_55 (Nat.le_of_ble_eq_true rfl) (Nat.le_of_ble_eq_true rfl) ?_
  obtain ⟨hg, h⟩ := gV_go h
  refine A_iast dX9_add_77 ia38 hg (bM_go h (fun M6 h => ?_))
  refine A_aload_n dX9_add_78 rfl ?_
  refine A_getf dX9_add_79 fw_X9_30 ob6 rfl ?_
  refine A_aload_n dX9_add_82 rfl ?_
  refine A_getf dX9_add_83 fw_X9_51 ob6 rfl ?_
  refine A_iload dX9_add_86 rfl ?_
  obtain ⟨J7, hJ7, h⟩ := jn_go h
  have JJ7 : ∀ (z8 : Int32), J7 z8 = some (r, Mr) → AT l g RX9 cX9_add 5 (some .int) (rmM 1 20) (PI r Mr) 96 [some (.ref (g.1 6)), some (.int v1), some (.int v2), some (.int v3), some (.int v4)] [.int z8, .int (M6.1 6 10), .ref (g.1 39)] M6 := by
    intro z8 h
    rw [hJ7] at h
    obtain ⟨hg, h⟩ := gV_go h
    refine A_zast dX9_add_96 za39 hg (bM_go h (fun M9 h => ?_))
    refine A_aload_n dX9_add_97 rfl ?_
    refine A_dup dX9_add_98 rfl ?_
    refine A_getf dX9_add_99 fw_X9_51 ob6 rfl ?_
    refine A_iconst (v := 1) dX9_add_102 (by decide) ?_
    refine A_iadd dX9_add_103 ?_
    refine A_putf dX9_add_104 pw_X9_51 ob6 pf6_10 (Nat.le_of_ble_eq_true rfl) (bM_go h (fun M10 h => ?_))
    refine A_aload_n dX9_add_107 rfl ?_
    refine A_getf dX9_add_108 fw_X9_51 ob6 rfl ?_
    refine A_iconst (v := 1) dX9_add_111 (by decide) ?_
    refine A_isub dX9_add_112 ?_
    exact A_iret dX9_add_113 (pI_go h)
  refine A_if_ge dX9_add_88 (fun hc => ?_) (fun hc => ?_)
  · have h := gT_go hc h
    refine A_iconst (v := 0) dX9_add_95 (by decide) ?_
    exact A_le (lvLe_s (lvLe_s (lvLe_s (lvLe_s (lvLe_s lvLe_0))))) (JJ7 _ h)
  · have h := gF_go hc h
    refine A_iconst (v := 1) dX9_add_91 (by decide) ?_
    refine A_goto dX9_add_92 ?_
    exact A_le (lvLe_s (lvLe_s (lvLe_s (lvLe_s (lvLe_s lvLe_0))))) (JJ7 _ h)
