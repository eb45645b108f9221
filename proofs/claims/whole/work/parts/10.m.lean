-- java/util/Arrays.fill
theorem dJ7_fill_d0a16_0 : di cJ7_fill_d0a16 0 (.iconst 0) 1 1 := ⟨by decide +kernel, rfl⟩
theorem dJ7_fill_d0a16_1 : di cJ7_fill_d0a16 1 (.istore_n 3) 1 2 := ⟨by decide +kernel, rfl⟩
theorem dJ7_fill_d0a16_2 : di cJ7_fill_d0a16 2 (.aload_n 0) 1 3 := ⟨by decide +kernel, rfl⟩
theorem dJ7_fill_d0a16_3 : di cJ7_fill_d0a16 3 (.arraylength) 1 4 := ⟨by decide +kernel, rfl⟩
theorem dJ7_fill_d0a16_4 : di cJ7_fill_d0a16 4 (.istore 4) 2 6 := ⟨by decide +kernel, rfl⟩
theorem dJ7_fill_d0a16_6 : di cJ7_fill_d0a16 6 (.iload_n 3) 1 7 := ⟨by decide +kernel, rfl⟩
theorem dJ7_fill_d0a16_7 : di cJ7_fill_d0a16 7 (.iload 4) 2 9 := ⟨by decide +kernel, rfl⟩
theorem dJ7_fill_d0a16_9 : dj cJ7_fill_d0a16 9 (.if_icmp .ge) 12 22 := ⟨13, by decide +kernel, rfl, rfl⟩
theorem dJ7_fill_d0a16_12 : di cJ7_fill_d0a16 12 (.aload_n 0) 1 13 := ⟨by decide +kernel, rfl⟩
theorem dJ7_fill_d0a16_13 : di cJ7_fill_d0a16 13 (.iload_n 3) 1 14 := ⟨by decide +kernel, rfl⟩
theorem dJ7_fill_d0a16_14 : di cJ7_fill_d0a16 14 (.lload_n 1) 1 15 := ⟨by decide +kernel, rfl⟩
theorem dJ7_fill_d0a16_15 : di cJ7_fill_d0a16 15 (.lastore) 1 16 := ⟨by decide +kernel, rfl⟩
theorem dJ7_fill_d0a16_16 : di cJ7_fill_d0a16 16 (.iinc 3 1) 3 19 := ⟨by decide +kernel, rfl⟩
theorem dJ7_fill_d0a16_19 : dj cJ7_fill_d0a16 19 .goto 22 6 := ⟨-13, by decide +kernel, rfl, rfl⟩
theorem dJ7_fill_d0a16_22 : di cJ7_fill_d0a16 22 (.return_) 1 23 := ⟨by decide +kernel, rfl⟩
def f_J7_fill_d0a16_L6 (v1 : Int64) (v4 : Int32) : Nat → Int32 → Mem → (Int32 → Mem → Option Ret) → Option Ret
  | 0, _, _, _ => none
  | k6 + 1, v3, M, K6 => if v4 ≤ v3 then (K6 v3 M) else (gV v3 64 (bM (upL M v3.toNatClampNeg v1) (fun M1 => f_J7_fill_d0a16_L6 v1 v4 k6 (v3 + (1 : Int32)) M1 K6)))
set_option maxRecDepth 100000 in
theorem f_J7_fill_d0a16_L6_ok {l : Launch} {g : Cx} (v1 : Int64) (v4 : Int32)  {r : Int32} {Mr : Mem} : ∀ (k : Nat) (v3 : Int32) (M : Mem) (K6 : Int32 → Mem → Option Ret), f_J7_fill_d0a16_L6 v1 v4 k v3 M K6 = some (r, Mr) → (∀ (v3 : Int32) (M : Mem), K6 v3 M = some (r, Mr) → AT l g RJ7 cJ7_fill_d0a16 5 none (rmM 0 0) (PV r Mr) 22 [some (.ref (g.1 45)), some (.long v1), none, some (.int v3), some (.int v4)] [] M) → AT l g RJ7 cJ7_fill_d0a16 5 none (rmM 0 0) (PV r Mr) 6 [some (.ref (g.1 45)), some (.long v1), none, some (.int v3), some (.int v4)] [] M
  | 0, v3, M, K6, h, hK6 => by cases h
  | k6 + 1, v3, M, K6, h, hK6 => by
    have ih6 := f_J7_fill_d0a16_L6_ok (l := l) (g := g) v1 v4 (r := r) (Mr := Mr) k6
    rw [f_J7_fill_d0a16_L6] at h
    refine A_iload_n dJ7_fill_d0a16_6 rfl ?_
    refine A_iload dJ7_fill_d0a16_7 rfl ?_
    refine A_icmp_ge dJ7_fill_d0a16_9 (fun hc => ?_) (fun hc => ?_)
    · have h := gT_go hc h
      exact A_le (lvLe_s (lvLe_s (lvLe_n (lvLe_s (lvLe_s lvLe_0))))) (hK6 _ _ h)
    · have h := gF_go hc h
      refine A_aload_n dJ7_fill_d0a16_12 rfl ?_
      refine A_iload_n dJ7_fill_d0a16_13 rfl ?_
      refine A_lload_n dJ7_fill_d0a16_14 rfl ?_
      obtain ⟨hg, h⟩ := gV_go h
      refine A_last dJ7_fill_d0a16_15 la45 hg (bM_go h (fun M1 h => ?_))
      refine A_iinc3 (d := 1) dJ7_fill_d0a16_16 (by decide) (by decide) rfl ?_
      refine A_goto dJ7_fill_d0a16_19 ?_
      exact A_le (lvLe_s (lvLe_s (lvLe_n (lvLe_s (lvLe_s lvLe_0))))) (ih6 _ _ K6 h hK6)
def f_J7_fill_d0a16 (v1 : Int64) (M : Mem) : Option Ret := f_J7_fill_d0a16_L6 v1 (64 : Int32) FU (0 : Int32) M (fun w2 M3 => some (0, M3))
set_option maxRecDepth 100000 in
theorem ok_J7_fill_d0a16 {l : Launch} {g : Cx} {v1 : Int64} {M : Mem} {r : Int32} {Mr : Mem} (h : f_J7_fill_d0a16 v1 M = some (r, Mr)) : CT l g yJ7_fill_d0a16 cJ7_fill_d0a16 5 none 0 0 [.ref (g.1 45), .long v1] M (PV r Mr) := by
  refine CT_of (lv := [some (.ref (g.1 45)), some (.long v1), none, none, none]) (by decide) rfl (Nat.le_of_ble_eq_true rfl) ?_
  unfold f_J7_fill_d0a16 at h
  refine A_iconst (v := 0) dJ7_fill_d0a16_0 (by decide) ?_
  refine A_istoren3 dJ7_fill_d0a16_1 (by decide) rfl ?_
  refine A_aload_n dJ7_fill_d0a16_2 rfl ?_
  refine A_alenL (v := 64) dJ7_fill_d0a16_3 la45 (by decide) ?_
  refine A_istore4 dJ7_fill_d0a16_4 (by decide) rfl ?_
  refine f_J7_fill_d0a16_L6_ok _ _ FU _ _ _ h (fun w2 M3 h => ?_)
  exact A_vret dJ7_fill_d0a16_22 (pV_go h)
-- java/util/Arrays.fill
theorem dJ7_fill_53178_0 : di cJ7_fill_53178 0 (.iconst 0) 1 1 := ⟨by decide +kernel, rfl⟩
theorem dJ7_fill_53178_1 : di cJ7_fill_53178 1 (.istore_n 2) 1 2 := ⟨by decide +kernel, rfl⟩
theorem dJ7_fill_53178_2 : di cJ7_fill_53178 2 (.aload_n 0) 1 3 := ⟨by decide +kernel, rfl⟩
theorem dJ7_fill_53178_3 : di cJ7_fill_53178 3 (.arraylength) 1 4 := ⟨by decide +kernel, rfl⟩
theorem dJ7_fill_53178_4 : di cJ7_fill_53178 4 (.istore_n 3) 1 5 := ⟨by decide +kernel, rfl⟩
theorem dJ7_fill_53178_5 : di cJ7_fill_53178 5 (.iload_n 2) 1 6 := ⟨by decide +kernel, rfl⟩
theorem dJ7_fill_53178_6 : di cJ7_fill_53178 6 (.iload_n 3) 1 7 := ⟨by decide +kernel, rfl⟩
theorem dJ7_fill_53178_7 : dj cJ7_fill_53178 7 (.if_icmp .ge) 10 20 := ⟨13, by decide +kernel, rfl, rfl⟩
theorem dJ7_fill_53178_10 : di cJ7_fill_53178 10 (.aload_n 0) 1 11 := ⟨by decide +kernel, rfl⟩
theorem dJ7_fill_53178_11 : di cJ7_fill_53178 11 (.iload_n 2) 1 12 := ⟨by decide +kernel, rfl⟩
theorem dJ7_fill_53178_12 : di cJ7_fill_53178 12 (.iload_n 1) 1 13 := ⟨by decide +kernel, rfl⟩
theorem dJ7_fill_53178_13 : di cJ7_fill_53178 13 (.iastore) 1 14 := ⟨by decide +kernel, rfl⟩
theorem dJ7_fill_53178_14 : di cJ7_fill_53178 14 (.iinc 2 1) 3 17 := ⟨by decide +kernel, rfl⟩
theorem dJ7_fill_53178_17 : dj cJ7_fill_53178 17 .goto 20 5 := ⟨-12, by decide +kernel, rfl, rfl⟩
theorem dJ7_fill_53178_20 : di cJ7_fill_53178 20 (.return_) 1 21 := ⟨by decide +kernel, rfl⟩
def f_J7_fill_53178_L5 (q N : Nat) (v1 : Int32) (v3 : Int32) : Nat → Int32 → Mem → (Int32 → Mem → Option Ret) → Option Ret
  | 0, _, _, _ => none
  | k5 + 1, v2, M, K5 => if v3 ≤ v2 then (K5 v2 M) else (gV v2 N (bM (up2 M q v2.toNatClampNeg v1) (fun M2 => f_J7_fill_53178_L5 q N v1 v3 k5 (v2 + (1 : Int32)) M2 K5)))
set_option maxRecDepth 100000 in
theorem f_J7_fill_53178_L5_ok {l : Launch} {g : Cx} (q N : Nat) (v1 : Int32) (v3 : Int32) (hq : IA q N) {r : Int32} {Mr : Mem} : ∀ (k : Nat) (v2 : Int32) (M : Mem) (K5 : Int32 → Mem → Option Ret), f_J7_fill_53178_L5 q N v1 v3 k v2 M K5 = some (r, Mr) → (∀ (v2 : Int32) (M : Mem), K5 v2 M = some (r, Mr) → AT l g RJ7 cJ7_fill_53178 4 none (rmM 0 0) (PV r Mr) 20 [some (.ref (g.1 q)), some (.int v1), some (.int v2), some (.int v3)] [] M) → AT l g RJ7 cJ7_fill_53178 4 none (rmM 0 0) (PV r Mr) 5 [some (.ref (g.1 q)), some (.int v1), some (.int v2), some (.int v3)] [] M
  | 0, v2, M, K5, h, hK5 => by cases h
  | k5 + 1, v2, M, K5, h, hK5 => by
    have ih5 := f_J7_fill_53178_L5_ok (l := l) (g := g) q N v1 v3 hq (r := r) (Mr := Mr) k5
    rw [f_J7_fill_53178_L5] at h
    refine A_iload_n dJ7_fill_53178_5 rfl ?_
    refine A_iload_n dJ7_fill_53178_6 rfl ?_
    refine A_icmp_ge dJ7_fill_53178_7 (fun hc => ?_) (fun hc => ?_)
    · have h := gT_go hc h
      exact A_le (lvLe_s (lvLe_s (lvLe_s (lvLe_s lvLe_0)))) (hK5 _ _ h)
    · have h := gF_go hc h
      refine A_aload_n dJ7_fill_53178_10 rfl ?_
      refine A_iload_n dJ7_fill_53178_11 rfl ?_
      refine A_iload_n dJ7_fill_53178_12 rfl ?_
      obtain ⟨hg, h⟩ := gV_go h
      refine A_iast dJ7_fill_53178_13 hq hg (bM_go h (fun M2 h => ?_))
      refine A_iinc2 (d := 1) dJ7_fill_53178_14 (by decide) (by decide) rfl ?_
      refine A_goto dJ7_fill_53178_17 ?_
      exact A_le (lvLe_s (lvLe_s (lvLe_s (lvLe_s lvLe_0)))) (ih5 _ _ K5 h hK5)
def f_J7_fill_53178 (q N : Nat) (v1 : Int32) (M : Mem) : Option Ret := bI (Int32.ofNat N) (fun x1 => f_J7_fill_53178_L5 q N v1 x1 FU (0 : Int32) M (fun w3 M4 => some (0, M4)))
set_option maxRecDepth 100000 in
theorem ok_J7_fill_53178 {l : Launch} {g : Cx} {q N : Nat} {v1 : Int32} {M : Mem} {r : Int32} {Mr : Mem} (hq : IA q N) (h : f_J7_fill_53178 q N v1 M = some (r, Mr)) : CT l g yJ7_fill_53178 cJ7_fill_53178 4 none 0 0 [.ref (g.1 q), .int v1] M (PV r Mr) := by
  refine CT_of (lv := [some (.ref (g.1 q)), some (.int v1), none, none]) (by decide) rfl (Nat.le_of_ble_eq_true rfl) ?_
  unfold f_J7_fill_53178 at h
  refine A_iconst (v := 0) dJ7_fill_53178_0 (by decide) ?_
  refine A_istoren2 dJ7_fill_53178_1 (by decide) rfl ?_
  refine A_aload_n dJ7_fill_53178_2 rfl ?_
  refine A_alen (v := Int32.ofNat N) dJ7_fill_53178_3 hq rfl ?_
  refine A_istoren3 dJ7_fill_53178_4 (by decide) rfl (bI_go h (G := fun z => AT l g RJ7 cJ7_fill_53178 4 none (rmM 0 0) (PV r Mr) 5 [some (.ref (g.1 q)), some (.int v1), some (.int (0 : Int32)), some (.int z)] [] M) (fun x1 h => ?_))
  refine f_J7_fill_53178_L5_ok _ _ _ _ hq FU _ _ _ h (fun w3 M4 h => ?_)
  exact A_vret dJ7_fill_53178_20 (pV_go h)
-- BenchTimes$WorkRows.many
theorem dX9_many_0 : di cX9_many 0 (.aload_n 0) 1 1 := ⟨by decide +kernel, rfl⟩
theorem dX9_many_1 : di cX9_many 1 (.getfield 51) 3 4 := ⟨by decide +kernel, rfl⟩
theorem dX9_many_4 : di cX9_many 4 (.ireturn) 1 5 := ⟨by decide +kernel, rfl⟩
def f_X9_many  (M : Mem) : Option Ret := some (M.1 6 10, M)
set_option maxRecDepth 100000 in
theorem ok_X9_many {l : Launch} {g : Cx}  {M : Mem} {r : Int32} {Mr : Mem} (h : f_X9_many  M = some (r, Mr)) : CT l g yX9_many cX9_many 1 (some .int) 0 0 [.ref (g.1 6)] M (PI r Mr) := by
  refine CT_of (lv := [some (.ref (g.1 6))]) (by decide) rfl (Nat.le_of_ble_eq_true rfl) ?_
  unfold f_X9_many at h
  refine A_aload_n dX9_many_0 rfl ?_
  refine A_getf dX9_many_1 fw_X9_51 ob6 rfl ?_
  exact A_iret dX9_many_4 (pI_go h)
-- BenchTimes$WorkRows.workerAt
theorem dX9_workerAt_0 : di cX9_workerAt 0 (.aload_n 0) 1 1 := ⟨by decide +kernel, rfl⟩
theorem dX9_workerAt_1 : di cX9_workerAt 1 (.getfield 15) 3 4 := ⟨by decide +kernel, rfl⟩
theorem dX9_workerAt_4 : di cX9_workerAt 4 (.iload_n 1) 1 5 := ⟨by decide +kernel, rfl⟩
theorem dX9_workerAt_5 : di cX9_workerAt 5 (.iaload) 1 6 := ⟨by decide +kernel, rfl⟩
theorem dX9_workerAt_6 : di cX9_workerAt 6 (.ireturn) 1 7 := ⟨by decide +kernel, rfl⟩
def f_X9_workerAt (v1 : Int32) (M : Mem) : Option Ret := gV v1 100 (some (M.1 34 v1.toNatClampNeg, M))
set_option maxRecDepth 100000 in
theorem ok_X9_workerAt {l : Launch} {g : Cx} {v1 : Int32} {M : Mem} {r : Int32} {Mr : Mem} (h : f_X9_workerAt v1 M = some (r, Mr)) : CT l g yX9_workerAt cX9_workerAt 2 (some .int) 0 0 [.ref (g.1 6), .int v1] M (PI r Mr) := by
  refine CT_of (lv := [some (.ref (g.1 6)), some (.int v1)]) (by decide) rfl (Nat.le_of_ble_eq_true rfl) ?_
  unfold f_X9_workerAt at h
  refine A_aload_n dX9_workerAt_0 rfl ?_
  refine A_getf dX9_workerAt_1 fw_X9_15 ob6 rfl ?_
  refine A_iload_n dX9_workerAt_4 rfl ?_
  obtain ⟨hg, h⟩ := gV_go h
  refine A_iald dX9_workerAt_5 ia34 hg ?_
  exact A_iret dX9_workerAt_6 (pI_go h)
-- BenchTimes$WorkRows.jobAt
theorem dX9_jobAt_0 : di cX9_jobAt 0 (.aload_n 0) 1 1 := ⟨by decide +kernel, rfl⟩
theorem dX9_jobAt_1 : di cX9_jobAt 1 (.getfield 18) 3 4 := ⟨by decide +kernel, rfl⟩
theorem dX9_jobAt_4 : di cX9_jobAt 4 (.iload_n 1) 1 5 := ⟨by decide +kernel, rfl⟩
theorem dX9_jobAt_5 : di cX9_jobAt 5 (.iaload) 1 6 := ⟨by decide +kernel, rfl⟩
theorem dX9_jobAt_6 : di cX9_jobAt 6 (.ireturn) 1 7 := ⟨by decide +kernel, rfl⟩
def f_X9_jobAt (v1 : Int32) (M : Mem) : Option Ret := gV v1 100 (some (M.1 35 v1.toNatClampNeg, M))
set_option maxRecDepth 100000 in
theorem ok_X9_jobAt {l : Launch} {g : Cx} {v1 : Int32} {M : Mem} {r : Int32} {Mr : Mem} (h : f_X9_jobAt v1 M = some (r, Mr)) : CT l g yX9_jobAt cX9_jobAt 2 (some .int) 0 0 [.ref (g.1 6), .int v1] M (PI r Mr) := by
  refine CT_of (lv := [some (.ref (g.1 6)), some (.int v1)]) (by decide) rfl (Nat.le_of_ble_eq_true rfl) ?_
  unfold f_X9_jobAt at h
  refine A_aload_n dX9_jobAt_0 rfl ?_
  refine A_getf dX9_jobAt_1 fw_X9_18 ob6 rfl ?_
  refine A_iload_n dX9_jobAt_4 rfl ?_
  obtain ⟨hg, h⟩ := gV_go h
  refine A_iald dX9_jobAt_5 ia35 hg ?_
  exact A_iret dX9_jobAt_6 (pI_go h)
-- BenchTimes$Rates.inForce
theorem dX4_inForce_0 : di cX4_inForce 0 (.aload_n 0) 1 1 := ⟨by decide +kernel, rfl⟩
theorem dX4_inForce_1 : di cX4_inForce 1 (.getfield 34) 3 4 := ⟨by decide +kernel, rfl⟩
theorem dX4_inForce_4 : di cX4_inForce 4 (.iconst 1) 1 5 := ⟨by decide +kernel, rfl⟩
theorem dX4_inForce_5 : di cX4_inForce 5 (.isub) 1 6 := ⟨by decide +kernel, rfl⟩
theorem dX4_inForce_6 : di cX4_inForce 6 (.istore_n 3) 1 7 := ⟨by decide +kernel, rfl⟩
theorem dX4_inForce_7 : di cX4_inForce 7 (.iload_n 3) 1 8 := ⟨by decide +kernel, rfl⟩
theorem dX4_inForce_8 : dj cX4_inForce 8 (.ifCond .lt) 11 39 := ⟨31, by decide +kernel, rfl, rfl⟩
theorem dX4_inForce_11 : di cX4_inForce 11 (.aload_n 0) 1 12 := ⟨by decide +kernel, rfl⟩
theorem dX4_inForce_12 : di cX4_inForce 12 (.getfield 11) 3 15 := ⟨by decide +kernel, rfl⟩
theorem dX4_inForce_15 : di cX4_inForce 15 (.iload_n 3) 1 16 := ⟨by decide +kernel, rfl⟩
theorem dX4_inForce_16 : di cX4_inForce 16 (.iaload) 1 17 := ⟨by decide +kernel, rfl⟩
theorem dX4_inForce_17 : di cX4_inForce 17 (.iload_n 1) 1 18 := ⟨by decide +kernel, rfl⟩
theorem dX4_inForce_18 : dj cX4_inForce 18 (.if_icmp .ne) 21 33 := ⟨15, by decide +kernel, rfl, rfl⟩
theorem dX4_inForce_21 : di cX4_inForce 21 (.aload_n 0) 1 22 := ⟨by decide +kernel, rfl⟩
theorem dX4_inForce_22 : di cX4_inForce 22 (.getfield 15) 3 25 := ⟨by decide +kernel, rfl⟩
theorem dX4_inForce_25 : di cX4_inForce 25 (.iload_n 3) 1 26 := ⟨by decide +kernel, rfl⟩
theorem dX4_inForce_26 : di cX4_inForce 26 (.iaload) 1 27 := ⟨by decide +kernel, rfl⟩
theorem dX4_inForce_27 : di cX4_inForce 27 (.iload_n 2) 1 28 := ⟨by decide +kernel, rfl⟩
theorem dX4_inForce_28 : dj cX4_inForce 28 (.if_icmp .gt) 31 33 := ⟨5, by decide +kernel, rfl, rfl⟩
theorem dX4_inForce_31 : di cX4_inForce 31 (.iload_n 3) 1 32 := ⟨by decide +kernel, rfl⟩
theorem dX4_inForce_32 : di cX4_inForce 32 (.ireturn) 1 33 := ⟨by decide +kernel, rfl⟩
theorem dX4_inForce_33 : di cX4_inForce 33 (.iinc 3 (-1)) 3 36 := ⟨by decide +kernel, rfl⟩
theorem dX4_inForce_36 : dj cX4_inForce 36 .goto 39 7 := ⟨-29, by decide +kernel, rfl, rfl⟩
theorem dX4_inForce_39 : di cX4_inForce 39 (.iconst (-1)) 1 40 := ⟨by decide +kernel, rfl⟩
theorem dX4_inForce_40 : di cX4_inForce 40 (.ireturn) 1 41 := ⟨by decide +kernel, rfl⟩
def f_X4_inForce_L7 (v1 : Int32) (v2 : Int32) : Nat → Int32 → Mem → (Int32 → Mem → Option Ret) → Option Ret
  | 0, _, _, _ => none
  | k7 + 1, v3, M, K7 => if v3 < 0 then (K7 v3 M) else (gV v3 40 (if (M.1 26 v3.toNatClampNeg) = v1 then (gV v3 40 (if v2 < (M.1 27 v3.toNatClampNeg) then (f_X4_inForce_L7 v1 v2 k7 (v3 + (-1 : Int32)) M K7) else (some (v3, M)))) else (f_X4_inForce_L7 v1 v2 k7 (v3 + (-1 : Int32)) M K7)))
set_option maxRecDepth 100000 in
theorem f_X4_inForce_L7_ok {l : Launch} {g : Cx} (v1 : Int32) (v2 : Int32)  {r : Int32} {Mr : Mem} : ∀ (k : Nat) (v3 : Int32) (M : Mem) (K7 : Int32 → Mem → Option Ret), f_X4_inForce_L7 v1 v2 k v3 M K7 = some (r, Mr) → (∀ (v3 : Int32) (M : Mem), K7 v3 M = some (r, Mr) → AT l g RX4 cX4_inForce 4 (some .int) (rmM 0 0) (PI r Mr) 39 [some (.ref (g.1 4)), some (.int v1), some (.int v2), some (.int v3)] [] M) → AT l g RX4 cX4_inForce 4 (some .int) (rmM 0 0) (PI r Mr) 7 [some (.ref (g.1 4)), some (.int v1), some (.int v2), some (.int v3)] [] M
  | 0, v3, M, K7, h, hK7 => by cases h
  | k7 + 1, v3, M, K7, h, hK7 => by
    have ih7 := f_X4_inForce_L7_ok (l := l) (g := g) v1 v2 (r := r) (Mr := Mr) k7
    rw [f_X4_inForce_L7] at h
    refine A_iload_n dX4_inForce_7 rfl ?_
    refine A_if_lt dX4_inForce_8 (fun hc => ?_) (fun hc => ?_)
    · have h := gT_go hc h
      exact A_le (lvLe_s (lvLe_s (lvLe_s (lvLe_s lvLe_0)))) (hK7 _ _ h)
    · have h := gF_go hc h
      refine A_aload_n dX4_inForce_11 rfl ?_
      refine A_getf dX4_inForce_12 fw_X4_11 ob4 rfl ?_
      refine A_iload_n dX4_inForce_15 rfl ?_
      obtain ⟨hg, h⟩ := gV_go h
      refine A_iald dX4_inForce_16 ia26 hg ?_
      refine A_iload_n dX4_inForce_17 rfl ?_
      refine A_icmp_ne dX4_inForce_18 (fun hc => ?_) (fun hc => ?_)
      · have h := gF_go hc h
        refine A_iinc3 (d := -1) dX4_inForce_33 (by decide) (by decide) rfl ?_
        refine A_goto dX4_inForce_36 ?_
        exact A_le (lvLe_s (lvLe_s (lvLe_s (lvLe_s lvLe_0)))) (ih7 _ _ K7 h hK7)
      · have h := gT_go hc h
        refine A_aload_n dX4_inForce_21 rfl ?_
        refine A_getf dX4_inForce_22 fw_X4_15 ob4 rfl ?_
        refine A_iload_n dX4_inForce_25 rfl ?_
        obtain ⟨hg, h⟩ := gV_go h
        refine A_iald dX4_inForce_26 ia27 hg ?_
        refine A_iload_n dX4_inForce_27 rfl ?_
        refine A_icmp_gt dX4_inForce_28 (fun hc => ?_) (fun hc => ?_)
        · have h := gT_go hc h
          refine A_iinc3 (d := -1) dX4_inForce_33 (by decide) (by decide) rfl ?_
          refine A_goto dX4_inForce_36 ?_
          exact A_le (lvLe_s (lvLe_s (lvLe_s (lvLe_s lvLe_0)))) (ih7 _ _ K7 h hK7)
        · have h := gF_go hc h
          refine A_iload_n dX4_inForce_31 rfl ?_
          exact A_iret dX4_inForce_32 (pI_go h)
def f_X4_inForce (v1 : Int32) (v2 : Int32) (M : Mem) : Option Ret := bI ((M.1 4 6) - (1 : Int32)) (fun x1 => f_X4_inForce_L7 v1 v2 FU x1 M (fun w2 M3 => some ((-1 : Int32), M3)))
set_option maxRecDepth 100000 in
theorem ok_X4_inForce {l : Launch} {g : Cx} {v1 : Int32} {v2 : Int32} {M : Mem} {r : Int32} {Mr : Mem} (h : f_X4_inForce v1 v2 M = some (r, Mr)) : CT l g yX4_inForce cX4_inForce 4 (some .int) 0 0 [.ref (g.1 4), .int v1, .int v2] M (PI r Mr) := by
  refine CT_of (lv := [some (.ref (g.1 4)), some (.int v1), some (.int v2), none]) (by decide) rfl (Nat.le_of_ble_eq_true rfl) ?_
  unfold f_X4_inForce at h
  refine A_aload_n dX4_inForce_0 rfl ?_
  refine A_getf dX4_inForce_1 fw_X4_34 ob4 rfl ?_
  refine A_iconst (v := 1) dX4_inForce_4 (by decide) ?_
  refine A_isub dX4_inForce_5 ?_
  refine A_istoren3 dX4_inForce_6 (by decide) rfl (bI_go h (G := fun z => AT l g RX4 cX4_inForce 4 (some .int) (rmM 0 0) (PI r Mr) 7 [some (.ref (g.1 4)), some (.int v1), some (.int v2), some (.int z)] [] M) (fun x1 h => ?_))
  refine f_X4_inForce_L7_ok _ _ FU _ _ _ h (fun w2 M3 h => ?_)
  refine A_iconst (v := -1) dX4_inForce_39 (by decide) ?_
  exact A_iret dX4_inForce_40 (pI_go h)
-- BenchTimes$Rules.valueOf
theorem dX5_valueOf_0 : di cX5_valueOf 0 (.aload_n 0) 1 1 := ⟨by decide +kernel, rfl⟩
theorem dX5_valueOf_1 : di cX5_valueOf 1 (.getfield 9) 3 4 := ⟨by decide +kernel, rfl⟩
theorem dX5_valueOf_4 : di cX5_valueOf 4 (.iload_n 1) 1 5 := ⟨by decide +kernel, rfl⟩
theorem dX5_valueOf_5 : di cX5_valueOf 5 (.iaload) 1 6 := ⟨by decide +kernel, rfl⟩
theorem dX5_valueOf_6 : di cX5_valueOf 6 (.ireturn) 1 7 := ⟨by decide +kernel, rfl⟩
def f_X5_valueOf (v1 : Int32) (M : Mem) : Option Ret := gV v1 5 (some (M.1 30 v1.toNatClampNeg, M))
set_option maxRecDepth 100000 in
theorem ok_X5_valueOf {l : Launch} {g : Cx} {v1 : Int32} {M : Mem} {r : Int32} {Mr : Mem} (h : f_X5_valueOf v1 M = some (r, Mr)) : CT l g yX5_valueOf cX5_valueOf 2 (some .int) 0 0 [.ref (g.1 5), .int v1] M (PI r Mr) := by
  refine CT_of (lv := [some (.ref (g.1 5)), some (.int v1)]) (by decide) rfl (Nat.le_of_ble_eq_true rfl) ?_
  unfold f_X5_valueOf at h
  refine A_aload_n dX5_valueOf_0 rfl ?_
  refine A_getf dX5_valueOf_1 fw_X5_9 ob5 rfl ?_
  refine A_iload_n dX5_valueOf_4 rfl ?_
  obtain ⟨hg, h⟩ := gV_go h
  refine A_iald dX5_valueOf_5 ia30 hg ?_
  exact A_iret dX5_valueOf_6 (pI_go h)
-- BenchTimes$Rates.sumOf
theorem dX4_sumOf_0 : di cX4_sumOf 0 (.aload_n 0) 1 1 := ⟨by decide +kernel, rfl⟩
theorem dX4_sumOf_1 : di cX4_sumOf 1 (.getfield 18) 3 4 := ⟨by decide +kernel, rfl⟩
theorem dX4_sumOf_4 : di cX4_sumOf 4 (.iload_n 1) 1 5 := ⟨by decide +kernel, rfl⟩
theorem dX4_sumOf_5 : di cX4_sumOf 5 (.iaload) 1 6 := ⟨by decide +kernel, rfl⟩
theorem dX4_sumOf_6 : di cX4_sumOf 6 (.ireturn) 1 7 := ⟨by decide +kernel, rfl⟩
def f_X4_sumOf (v1 : Int32) (M : Mem) : Option Ret := gV v1 40 (some (M.1 28 v1.toNatClampNeg, M))
set_option maxRecDepth 100000 in
theorem ok_X4_sumOf {l : Launch} {g : Cx} {v1 : Int32} {M : Mem} {r : Int32} {Mr : Mem} (h : f_X4_sumOf v1 M = some (r, Mr)) : CT l g yX4_sumOf cX4_sumOf 2 (some .int) 0 0 [.ref (g.1 4), .int v1] M (PI r Mr) := by
  refine CT_of (lv := [some (.ref (g.1 4)), some (.int v1)]) (by decide) rfl (Nat.le_of_ble_eq_true rfl) ?_
  unfold f_X4_sumOf at h
  refine A_aload_n dX4_sumOf_0 rfl ?_
  refine A_getf dX4_sumOf_1 fw_X4_18 ob4 rfl ?_
  refine A_iload_n dX4_sumOf_4 rfl ?_
  obtain ⟨hg, h⟩ := gV_go h
  refine A_iald dX4_sumOf_5 ia28 hg ?_
  exact A_iret dX4_sumOf_6 (pI_go h)
-- BenchTimes.isWithin
theorem dX10_isWithin_0 : di cX10_isWithin 0 (.iload_n 0) 1 1 := ⟨by decide +kernel, rfl⟩
theorem dX10_isWithin_1 : di cX10_isWithin 1 (.iload_n 1) 1 2 := ⟨by decide +kernel, rfl⟩
theorem dX10_isWithin_2 : dj cX10_isWithin 2 (.if_icmp .lt) 5 14 := ⟨12, by decide +kernel, rfl, rfl⟩
theorem dX10_isWithin_5 : di cX10_isWithin 5 (.iload_n 0) 1 6 := ⟨by decide +kernel, rfl⟩
theorem dX10_isWithin_6 : di cX10_isWithin 6 (.iload_n 2) 1 7 := ⟨by decide +kernel, rfl⟩
theorem dX10_isWithin_7 : dj cX10_isWithin 7 (.if_icmp .gt) 10 14 := ⟨7, by decide +kernel, rfl, rfl⟩
theorem dX10_isWithin_10 : di cX10_isWithin 10 (.iconst 1) 1 11 := ⟨by decide +kernel, rfl⟩
theorem dX10_isWithin_11 : dj cX10_isWithin 11 .goto 14 15 := ⟨4, by decide +kernel, rfl, rfl⟩
theorem dX10_isWithin_14 : di cX10_isWithin 14 (.iconst 0) 1 15 := ⟨by decide +kernel, rfl⟩
theorem dX10_isWithin_15 : di cX10_isWithin 15 (.ireturn) 1 16 := ⟨by decide +kernel, rfl⟩
def f_X10_isWithin (v0 : Int32) (v1 : Int32) (v2 : Int32) (M : Mem) : Option Ret := jn (α := Int32 → Option Ret) (fun (z2 : Int32) => gZ z2 (some (z2, M))) (fun J1 => if v0 < v1 then (J1 (0 : Int32)) else (if v2 < v0 then (J1 (0 : Int32)) else (J1 (1 : Int32))))
set_option maxRecDepth 100000 in
theorem ok_X10_isWithin {l : Launch} {g : Cx} {v0 : Int32} {v1 : Int32} {v2 : Int32} {M : Mem} {r : Int32} {Mr : Mem} (h : f_X10_isWithin v0 v1 v2 M = some (r, Mr)) : CT l g yX10_isWithin cX10_isWithin 3 (some .boolean) 0 0 [.int v0, .int v1, .int v2] M (PI r Mr) := by
  refine CT_of (lv := [some (.int v0), some (.int v1), some (.int v2)]) (by decide) rfl (Nat.le_of_ble_eq_true rfl) ?_
  unfold f_X10_isWithin at h
  refine A_iload_n dX10_isWithin_0 rfl ?_
  refine A_iload_n dX10_isWithin_1 rfl ?_
  obtain ⟨J1, hJ1, h⟩ := jn_go h
  have JJ1 : ∀ (z2 : Int32), J1 z2 = some (r, Mr) → AT l g RX10 cX10_isWithin 3 (some .boolean) (rmM 0 0) (PI r Mr) 15 [some (.int v0), some (.int v1), some (.int v2)] [.int z2] M := by
    intro z2 h
    rw [hJ1] at h
    obtain ⟨hg, h⟩ := gZ_go h
    exact A_zret dX10_isWithin_15 hg (pI_go h)
  refine A_icmp_lt dX10_isWithin_2 (fun hc => ?_) (fun hc => ?_)
  · have h := gT_go hc h
    refine A_iconst (v := 0) dX10_isWithin_14 (by decide) ?_
    exact A_le (lvLe_s (lvLe_s (lvLe_s lvLe_0))) (JJ1 _ h)
  · have h := gF_go hc h
    refine A_iload_n dX10_isWithin_5 rfl ?_
    refine A_iload_n dX10_isWithin_6 rfl ?_
    refine A_icmp_gt dX10_isWithin_7 (fun hc => ?_) (fun hc => ?_)
    · have h := gT_go hc h
      refine A_iconst (v := 0) dX10_isWithin_14 (by decide) ?_
      exact A_le (lvLe_s (lvLe_s (lvLe_s lvLe_0))) (JJ1 _ h)
    · have h := gF_go hc h
      refine A_iconst (v := 1) dX10_isWithin_10 (by decide) ?_
      refine A_goto dX10_isWithin_11 ?_
      exact A_le (lvLe_s (lvLe_s (lvLe_s lvLe_0))) (JJ1 _ h)
-- BenchTimes$WorkRows.learnersMore
theorem dX9_learnersMore_0 : di cX9_learnersMore 0 (.aload_n 0) 1 1 := ⟨by decide +kernel, rfl⟩
theorem dX9_learnersMore_1 : di cX9_learnersMore 1 (.getfield 34) 3 4 := ⟨by decide +kernel, rfl⟩
theorem dX9_learnersMore_4 : di cX9_learnersMore 4 (.aload_n 0) 1 5 := ⟨by decide +kernel, rfl⟩
theorem dX9_learnersMore_5 : di cX9_learnersMore 5 (.getfield 15) 3 8 := ⟨by decide +kernel, rfl⟩
theorem dX9_learnersMore_8 : di cX9_learnersMore 8 (.iload_n 1) 1 9 := ⟨by decide +kernel, rfl⟩
theorem dX9_learnersMore_9 : di cX9_learnersMore 9 (.iaload) 1 10 := ⟨by decide +kernel, rfl⟩
theorem dX9_learnersMore_10 : di cX9_learnersMore 10 (.bipush 8) 2 12 := ⟨by decide +kernel, rfl⟩
theorem dX9_learnersMore_12 : di cX9_learnersMore 12 (.imul) 1 13 := ⟨by decide +kernel, rfl⟩
theorem dX9_learnersMore_13 : di cX9_learnersMore 13 (.aload_n 0) 1 14 := ⟨by decide +kernel, rfl⟩
theorem dX9_learnersMore_14 : di cX9_learnersMore 14 (.getfield 18) 3 17 := ⟨by decide +kernel, rfl⟩
theorem dX9_learnersMore_17 : di cX9_learnersMore 17 (.iload_n 1) 1 18 := ⟨by decide +kernel, rfl⟩
theorem dX9_learnersMore_18 : di cX9_learnersMore 18 (.iaload) 1 19 := ⟨by decide +kernel, rfl⟩
theorem dX9_learnersMore_19 : di cX9_learnersMore 19 (.iadd) 1 20 := ⟨by decide +kernel, rfl⟩
theorem dX9_learnersMore_20 : di cX9_learnersMore 20 (.iaload) 1 21 := ⟨by decide +kernel, rfl⟩
theorem dX9_learnersMore_21 : di cX9_learnersMore 21 (.istore_n 3) 1 22 := ⟨by decide +kernel, rfl⟩
theorem dX9_learnersMore_22 : di cX9_learnersMore 22 (.aload_n 0) 1 23 := ⟨by decide +kernel, rfl⟩
theorem dX9_learnersMore_23 : di cX9_learnersMore 23 (.getfield 11) 3 26 := ⟨by decide +kernel, rfl⟩
theorem dX9_learnersMore_26 : di cX9_learnersMore 26 (.iload_n 1) 1 27 := ⟨by decide +kernel, rfl⟩
theorem dX9_learnersMore_27 : di cX9_learnersMore 27 (.iaload) 1 28 := ⟨by decide +kernel, rfl⟩
theorem dX9_learnersMore_28 : di cX9_learnersMore 28 (.iload_n 3) 1 29 := ⟨by decide +kernel, rfl⟩
theorem dX9_learnersMore_29 : di cX9_learnersMore 29 (.isub) 1 30 := ⟨by decide +kernel, rfl⟩
theorem dX9_learnersMore_30 : di cX9_learnersMore 30 (.istore 4) 2 32 := ⟨by decide +kernel, rfl⟩
theorem dX9_learnersMore_32 : di cX9_learnersMore 32 (.iload_n 3) 1 33 := ⟨by decide +kernel, rfl⟩
theorem dX9_learnersMore_33 : di cX9_learnersMore 33 (.iconst (-1)) 1 34 := ⟨by decide +kernel, rfl⟩
theorem dX9_learnersMore_34 : dj cX9_learnersMore 34 (.if_icmp .eq) 37 47 := ⟨13, by decide +kernel, rfl, rfl⟩
theorem dX9_learnersMore_37 : di cX9_learnersMore 37 (.iload 4) 2 39 := ⟨by decide +kernel, rfl⟩
theorem dX9_learnersMore_39 : di cX9_learnersMore 39 (.iconst 0) 1 40 := ⟨by decide +kernel, rfl⟩
theorem dX9_learnersMore_40 : di cX9_learnersMore 40 (.iconst 3) 1 41 := ⟨by decide +kernel, rfl⟩
theorem dX9_learnersMore_41 : di cX9_learnersMore 41 (.invokestatic 84) 3 44 := ⟨by decide +kernel, rfl⟩
theorem dX9_learnersMore_44 : dj cX9_learnersMore 44 (.ifCond .ne) 47 49 := ⟨5, by decide +kernel, rfl, rfl⟩
theorem dX9_learnersMore_47 : di cX9_learnersMore 47 (.iconst 0) 1 48 := ⟨by decide +kernel, rfl⟩
theorem dX9_learnersMore_48 : di cX9_learnersMore 48 (.ireturn) 1 49 := ⟨by decide +kernel, rfl⟩
theorem dX9_learnersMore_49 : di cX9_learnersMore 49 (.iload 4) 2 51 := ⟨by decide +kernel, rfl⟩
theorem dX9_learnersMore_51 : dj cX9_learnersMore 51 (.ifCond .ne) 54 60 := ⟨9, by decide +kernel, rfl, rfl⟩
theorem dX9_learnersMore_54 : di cX9_learnersMore 54 (.iload_n 2) 1 55 := ⟨by decide +kernel, rfl⟩
theorem dX9_learnersMore_55 : di cX9_learnersMore 55 (.iconst 2) 1 56 := ⟨by decide +kernel, rfl⟩
theorem dX9_learnersMore_56 : di cX9_learnersMore 56 (.idiv) 1 57 := ⟨by decide +kernel, rfl⟩
theorem dX9_learnersMore_57 : dj cX9_learnersMore 57 .goto 60 63 := ⟨6, by decide +kernel, rfl, rfl⟩
theorem dX9_learnersMore_60 : di cX9_learnersMore 60 (.iload_n 2) 1 61 := ⟨by decide +kernel, rfl⟩
theorem dX9_learnersMore_61 : di cX9_learnersMore 61 (.iconst 4) 1 62 := ⟨by decide +kernel, rfl⟩
theorem dX9_learnersMore_62 : di cX9_learnersMore 62 (.idiv) 1 63 := ⟨by decide +kernel, rfl⟩
theorem dX9_learnersMore_63 : di cX9_learnersMore 63 (.ireturn) 1 64 := ⟨by decide +kernel, rfl⟩
def f_X9_learnersMore (v1 : Int32) (v2 : Int32) (M : Mem) : Option Ret := gV v1 100 (gV v1 100 (gV (((M.1 34 v1.toNatClampNeg) * (8 : Int32)) + (M.1 35 v1.toNatClampNeg)) 64 (bI (M.1 40 (((M.1 34 v1.toNatClampNeg) * (8 : Int32)) + (M.1 35 v1.toNatClampNeg)).toNatClampNeg) (fun x1 => gV v1 100 (bI ((M.1 33 v1.toNatClampNeg) - x1) (fun x2 => if x1 = (-1 : Int32) then (some ((0 : Int32), M)) else (bE (f_X10_isWithin x2 (0 : Int32) (3 : Int32) M) (fun r4 M3 => if r4 = 0 then (some ((0 : Int32), M3)) else (jn (α := Int32 → Option Ret) (fun (z6 : Int32) => some (z6, M3)) (fun J5 => if x2 = 0 then (J5 (v2 / (2 : Int32))) else (J5 (v2 / (4 : Int32)))))))))))))
set_option maxRecDepth 100000 in
theorem ok_X9_learnersMore {l : Launch} {g : Cx} {v1 : Int32} {v2 : Int32} {M : Mem} {r : Int32} {Mr : Mem} (h : f_X9_learnersMore v1 v2 M = some (r, Mr)) : CT l g yX9_learnersMore cX9_learnersMore 5 (some .int) 1 22 [.ref (g.1 6), .int v1, .int v2] M (PI r Mr) := by
  refine CT_of (lv := [some (.ref (g.1 6)), some (.int v1), some (.int v2), none, none]) (by decide) rfl (Nat.le_of_ble_eq_true rfl) ?_
  unfold f_X9_learnersMore at h
  refine A_aload_n dX9_learnersMore_0 rfl ?_
  refine A_getf dX9_learnersMore_1 fw_X9_34 ob6 rfl ?_
  refine A_aload_n dX9_learnersMore_4 rfl ?_
  refine A_getf dX9_learnersMore_5 fw_X9_15 ob6 rfl ?_
  refine A_iload_n dX9_learnersMore_8 rfl ?_
  obtain ⟨hg, h⟩ := gV_go h
  refine A_iald dX9_learnersMore_9 ia34 hg ?_
  refine A_bipush (v := 8) dX9_learnersMore_10 (by decide) ?_
  refine A_imul dX9_learnersMore_12 ?_
  refine A_aload_n dX9_learnersMore_13 rfl ?_
  refine A_getf dX9_learnersMore_14 fw_X9_18 ob6 rfl ?_
  refine A_iload_n dX9_learnersMore_17 rfl ?_
  obtain ⟨hg, h⟩ := gV_go h
  refine A_iald dX9_learnersMore_18 ia35 hg ?_
  refine A_iadd dX9_learnersMore_19 ?_
  obtain ⟨hg, h⟩ := gV_go h
  refine A_iald dX9_learnersMore_20 ia40 hg ?_
  refine A_istoren3 dX9_learnersMore_21 (by decide) rfl (bI_go h (G := fun z => AT l g RX9 cX9_learnersMore 5 (some .int) (rmM 1 22) (PI r Mr) 22 [some (.ref (g.1 6)), some (.int v1), some (.int v2), some (.int z), none] [] M) (fun x1 h => ?_))
  refine A_aload_n dX9_learnersMore_22 rfl ?_
  refine A_getf dX9_learnersMore_23 fw_X9_11 ob6 rfl ?_
  refine A_iload_n dX9_learnersMore_26 rfl ?_
  obtain ⟨hg, h⟩ := gV_go h
  refine A_iald dX9_learnersMore_27 ia33 hg ?_
  refine A_iload_n dX9_learnersMore_28 rfl ?_
  refine A_isub dX9_learnersMore_29 ?_
  refine A_istore4 dX9_learnersMore_30 (by decide) rfl (bI_go h (G := fun z => AT l g RX9 cX9_learnersMore 5 (some .int) (rmM 1 22) (PI r Mr) 32 [some (.ref (g.1 6)), some (.int v1), some (.int v2), some (.int x1), some (.int z)] [] M) (fun x2 h => ?_))
  refine A_iload_n dX9_learnersMore_32 rfl ?_
  refine A_iconst (v := -1) dX9_learnersMore_33 (by decide) ?_
  refine A_icmp_eq dX9_learnersMore_34 (fun hc => ?_) (fun hc => ?_)
  · have h := gT_go hc h
    refine A_iconst (v := 0) dX9_learnersMore_47 (by decide) ?_
    exact A_iret dX9_learnersMore_48 (pI_go h)
  · have h := gF_go hc h
    refine A_iload dX9_learnersMore_37 rfl ?_
    refine A_iconst (v := 0) dX9_learnersMore_39 (by decide) ?_
    refine A_iconst (v := 3) dX9_learnersMore_40 (by decide) ?_
    obtain ⟨r4, M3, h1, h⟩ := bE_go h
    refine A_cNi3 dX9_learnersMore_41 nl_X9_84 mb_X10_isWithin ms_X10_isWithin ⟨Nat.le_of_ble_eq_true rfl, Nat.le_of_ble_eq_true rfl⟩ (Nat.le_of_ble_eq_true rfl) (ok_X10_isWithin h1) ?_
    refine A_if_ne dX9_learnersMore_44 (fun hc => ?_) (fun hc => ?_)
    · have h := gF_go hc h
      refine A_iload dX9_learnersMore_49 rfl ?_
      obtain ⟨J5, hJ5, h⟩ := jn_go h
      have JJ5 : ∀ (z6 : Int32), J5 z6 = some (r, Mr) → AT l g RX9 cX9_learnersMore 5 (some .int) (rmM 1 22) (PI r Mr) 63 [some (.ref (g.1 6)), some (.int v1), some (.int v2), some (.int x1), some (.int x2)] [.int z6] M3 := by
        intro z6 h
        rw [hJ5] at h
        exact A_iret dX9_learnersMore_63 (pI_go h)
      refine A_if_ne dX9_learnersMore_51 (fun hc => ?_) (fun hc => ?_)
      · have h := gF_go hc h
        refine A_iload_n dX9_learnersMore_60 rfl ?_
        refine A_iconst (v := 4) dX9_learnersMore_61 (by decide) ?_
        refine A_idiv dX9_learnersMore_62 (by decide) ?_
        exact A_le (lvLe_s (lvLe_s (lvLe_s (lvLe_s (lvLe_s lvLe_0))))) (JJ5 _ h)
      · have h := gT_go hc h
        refine A_iload_n dX9_learnersMore_54 rfl ?_
        refine A_iconst (v := 2) dX9_learnersMore_55 (by decide) ?_
        refine A_idiv dX9_learnersMore_56 (by decide) ?_
        refine A_goto dX9_learnersMore_57 ?_
        exact A_le (lvLe_s (lvLe_s (lvLe_s (lvLe_s (lvLe_s lvLe_0))))) (JJ5 _ h)
    · have h := gT_go hc h
      refine A_iconst (v := 0) dX9_learnersMore_47 (by decide) ?_
      exact A_iret dX9_learnersMore_48 (pI_go h)
-- BenchTimes$WorkRows.earnedBy
theorem dX9_earnedBy_0 : di cX9_earnedBy 0 (.aload_n 0) 1 1 := ⟨by decide +kernel, rfl⟩
theorem dX9_earnedBy_1 : di cX9_earnedBy 1 (.getfield 37) 3 4 := ⟨by decide +kernel, rfl⟩
theorem dX9_earnedBy_4 : di cX9_earnedBy 4 (.aload_n 0) 1 5 := ⟨by decide +kernel, rfl⟩
theorem dX9_earnedBy_5 : di cX9_earnedBy 5 (.getfield 18) 3 8 := ⟨by decide +kernel, rfl⟩
theorem dX9_earnedBy_8 : di cX9_earnedBy 8 (.iload_n 1) 1 9 := ⟨by decide +kernel, rfl⟩
theorem dX9_earnedBy_9 : di cX9_earnedBy 9 (.iaload) 1 10 := ⟨by decide +kernel, rfl⟩
theorem dX9_earnedBy_10 : di cX9_earnedBy 10 (.aload_n 0) 1 11 := ⟨by decide +kernel, rfl⟩
theorem dX9_earnedBy_11 : di cX9_earnedBy 11 (.getfield 11) 3 14 := ⟨by decide +kernel, rfl⟩
theorem dX9_earnedBy_14 : di cX9_earnedBy 14 (.iload_n 1) 1 15 := ⟨by decide +kernel, rfl⟩
theorem dX9_earnedBy_15 : di cX9_earnedBy 15 (.iaload) 1 16 := ⟨by decide +kernel, rfl⟩
theorem dX9_earnedBy_16 : di cX9_earnedBy 16 (.invokevirtual 61) 3 19 := ⟨by decide +kernel, rfl⟩
theorem dX9_earnedBy_19 : di cX9_earnedBy 19 (.istore_n 2) 1 20 := ⟨by decide +kernel, rfl⟩
theorem dX9_earnedBy_20 : di cX9_earnedBy 20 (.iload_n 2) 1 21 := ⟨by decide +kernel, rfl⟩
theorem dX9_earnedBy_21 : di cX9_earnedBy 21 (.iconst (-1)) 1 22 := ⟨by decide +kernel, rfl⟩
theorem dX9_earnedBy_22 : dj cX9_earnedBy 22 (.if_icmp .ne) 25 27 := ⟨5, by decide +kernel, rfl, rfl⟩
theorem dX9_earnedBy_25 : di cX9_earnedBy 25 (.iconst 0) 1 26 := ⟨by decide +kernel, rfl⟩
theorem dX9_earnedBy_26 : di cX9_earnedBy 26 (.ireturn) 1 27 := ⟨by decide +kernel, rfl⟩
theorem dX9_earnedBy_27 : di cX9_earnedBy 27 (.aload_n 0) 1 28 := ⟨by decide +kernel, rfl⟩
theorem dX9_earnedBy_28 : di cX9_earnedBy 28 (.getfield 21) 3 31 := ⟨by decide +kernel, rfl⟩
theorem dX9_earnedBy_31 : di cX9_earnedBy 31 (.iload_n 1) 1 32 := ⟨by decide +kernel, rfl⟩
theorem dX9_earnedBy_32 : di cX9_earnedBy 32 (.iaload) 1 33 := ⟨by decide +kernel, rfl⟩
theorem dX9_earnedBy_33 : di cX9_earnedBy 33 (.aload_n 0) 1 34 := ⟨by decide +kernel, rfl⟩
theorem dX9_earnedBy_34 : di cX9_earnedBy 34 (.getfield 41) 3 37 := ⟨by decide +kernel, rfl⟩
theorem dX9_earnedBy_37 : di cX9_earnedBy 37 (.iconst 3) 1 38 := ⟨by decide +kernel, rfl⟩
theorem dX9_earnedBy_38 : di cX9_earnedBy 38 (.invokevirtual 69) 3 41 := ⟨by decide +kernel, rfl⟩
theorem dX9_earnedBy_41 : di cX9_earnedBy 41 (.imul) 1 42 := ⟨by decide +kernel, rfl⟩
theorem dX9_earnedBy_42 : di cX9_earnedBy 42 (.bipush 100) 2 44 := ⟨by decide +kernel, rfl⟩
theorem dX9_earnedBy_44 : di cX9_earnedBy 44 (.idiv) 1 45 := ⟨by decide +kernel, rfl⟩
theorem dX9_earnedBy_45 : di cX9_earnedBy 45 (.istore_n 3) 1 46 := ⟨by decide +kernel, rfl⟩
theorem dX9_earnedBy_46 : di cX9_earnedBy 46 (.aload_n 0) 1 47 := ⟨by decide +kernel, rfl⟩
theorem dX9_earnedBy_47 : di cX9_earnedBy 47 (.getfield 21) 3 50 := ⟨by decide +kernel, rfl⟩
theorem dX9_earnedBy_50 : di cX9_earnedBy 50 (.iload_n 1) 1 51 := ⟨by decide +kernel, rfl⟩
theorem dX9_earnedBy_51 : di cX9_earnedBy 51 (.iaload) 1 52 := ⟨by decide +kernel, rfl⟩
theorem dX9_earnedBy_52 : di cX9_earnedBy 52 (.aload_n 0) 1 53 := ⟨by decide +kernel, rfl⟩
theorem dX9_earnedBy_53 : di cX9_earnedBy 53 (.getfield 24) 3 56 := ⟨by decide +kernel, rfl⟩
theorem dX9_earnedBy_56 : di cX9_earnedBy 56 (.iload_n 1) 1 57 := ⟨by decide +kernel, rfl⟩
theorem dX9_earnedBy_57 : di cX9_earnedBy 57 (.iaload) 1 58 := ⟨by decide +kernel, rfl⟩
theorem dX9_earnedBy_58 : di cX9_earnedBy 58 (.iload_n 3) 1 59 := ⟨by decide +kernel, rfl⟩
theorem dX9_earnedBy_59 : di cX9_earnedBy 59 (.invokestatic 72) 3 62 := ⟨by decide +kernel, rfl⟩
theorem dX9_earnedBy_62 : di cX9_earnedBy 62 (.iadd) 1 63 := ⟨by decide +kernel, rfl⟩
theorem dX9_earnedBy_63 : di cX9_earnedBy 63 (.istore 4) 2 65 := ⟨by decide +kernel, rfl⟩
theorem dX9_earnedBy_65 : di cX9_earnedBy 65 (.iload 4) 2 67 := ⟨by decide +kernel, rfl⟩
theorem dX9_earnedBy_67 : di cX9_earnedBy 67 (.aload_n 0) 1 68 := ⟨by decide +kernel, rfl⟩
theorem dX9_earnedBy_68 : di cX9_earnedBy 68 (.getfield 37) 3 71 := ⟨by decide +kernel, rfl⟩
theorem dX9_earnedBy_71 : di cX9_earnedBy 71 (.iload_n 2) 1 72 := ⟨by decide +kernel, rfl⟩
theorem dX9_earnedBy_72 : di cX9_earnedBy 72 (.invokevirtual 75) 3 75 := ⟨by decide +kernel, rfl⟩
theorem dX9_earnedBy_75 : di cX9_earnedBy 75 (.imul) 1 76 := ⟨by decide +kernel, rfl⟩
theorem dX9_earnedBy_76 : di cX9_earnedBy 76 (.bipush 100) 2 78 := ⟨by decide +kernel, rfl⟩
theorem dX9_earnedBy_78 : di cX9_earnedBy 78 (.idiv) 1 79 := ⟨by decide +kernel, rfl⟩
theorem dX9_earnedBy_79 : di cX9_earnedBy 79 (.istore 5) 2 81 := ⟨by decide +kernel, rfl⟩
theorem dX9_earnedBy_81 : di cX9_earnedBy 81 (.iload 5) 2 83 := ⟨by decide +kernel, rfl⟩
theorem dX9_earnedBy_83 : di cX9_earnedBy 83 (.aload_n 0) 1 84 := ⟨by decide +kernel, rfl⟩
theorem dX9_earnedBy_84 : di cX9_earnedBy 84 (.iload_n 1) 1 85 := ⟨by decide +kernel, rfl⟩
theorem dX9_earnedBy_85 : di cX9_earnedBy 85 (.iload 5) 2 87 := ⟨by decide +kernel, rfl⟩
theorem dX9_earnedBy_87 : di cX9_earnedBy 87 (.invokevirtual 78) 3 90 := ⟨by decide +kernel, rfl⟩
theorem dX9_earnedBy_90 : di cX9_earnedBy 90 (.iadd) 1 91 := ⟨by decide +kernel, rfl⟩
theorem dX9_earnedBy_91 : di cX9_earnedBy 91 (.ireturn) 1 92 := ⟨by decide +kernel, rfl⟩
def f_X9_earnedBy (v1 : Int32) (M : Mem) : Option Ret := gV v1 100 (gV v1 100 (bE (f_X4_inForce (M.1 35 v1.toNatClampNeg) (M.1 33 v1.toNatClampNeg) M) (fun r2 M1 => if r2 = (-1 : Int32) then (some ((0 : Int32), M1)) else (gV v1 100 (bE (f_X5_valueOf (3 : Int32) M1) (fun r4 M3 => bI (((M1.1 36 v1.toNatClampNeg) * r4) / (100 : Int32)) (fun x5 => gV v1 100 (gV v1 100 (bI ((M3.1 36 v1.toNatClampNeg) + (if x5 < (M3.1 37 v1.toNatClampNeg) then x5 else (M3.1 37 v1.toNatClampNeg))) (fun x6 => bE (f_X4_sumOf r2 M3) (fun r8 M7 => bI ((x6 * r8) / (100 : Int32)) (fun x9 => bE (f_X9_learnersMore v1 x9 M7) (fun r11 M10 => some (x9 + r11, M10))))))))))))))
set_option maxRecDepth 100000 in
theorem ok_X9_earnedBy {l : Launch} {g : Cx} {v1 : Int32} {M : Mem} {r : Int32} {Mr : Mem} (h : f_X9_earnedBy v1 M = some (r, Mr)) : CT l g yX9_earnedBy cX9_earnedBy 6 (some .int) 2 46 [.ref (g.1 6), .int v1] M (PI r Mr) := by
  refine CT_of (lv := [some (.ref (g.1 6)), some (.int v1), none, none, none, none]) (by decide) rfl (Nat.le_of_ble_eq_true rfl) ?_
  unfold f_X9_earnedBy at h
  refine A_aload_n dX9_earnedBy_0 rfl ?_
  refine A_getf dX9_earnedBy_1 fw_X9_37 ob6 rfl ?_
  refine A_aload_n dX9_earnedBy_4 rfl ?_
  refine A_getf dX9_earnedBy_5 fw_X9_18 ob6 rfl ?_
  refine A_iload_n dX9_earnedBy_8 rfl ?_
  obtain ⟨hg, h⟩ := gV_go h
  refine A_iald dX9_earnedBy_9 ia35 hg ?_
  refine A_aload_n dX9_earnedBy_10 rfl ?_
  refine A_getf dX9_earnedBy_11 fw_X9_11 ob6 rfl ?_
  refine A_iload_n dX9_earnedBy_14 rfl ?_
  obtain ⟨hg, h⟩ := gV_go h
  refine A_iald dX9_earnedBy_15 ia33 hg ?_
  obtain ⟨r2, M1, h1, h⟩ := bE_go h
  refine A_cVi2 dX9_earnedBy_16 ml_X9_61 mb_X4_inForce mi_X4_inForce ob4 rfl rfl ⟨Nat.le_of_ble_eq_true rfl, Nat.le_of_ble_eq_true rfl⟩ (Nat.le_of_ble_eq_true rfl) (ok_X4_inForce h1) ?_
  refine A_istoren2 dX9_earnedBy_19 (by decide) rfl ?_
  refine A_iload_n dX9_earnedBy_20 rfl ?_
  refine A_iconst (v := -1) dX9_earnedBy_21 (by decide) ?_
  refine A_icmp_ne dX9_earnedBy_22 (fun hc => ?_) (fun hc => ?_)
  · have h := gF_go hc h
    refine A_aload_n dX9_earnedBy_27 rfl ?_
    refine A_getf dX9_earnedBy_28 fw_X9_21 ob6 rfl ?_
    refine A_iload_n dX9_earnedBy_31 rfl ?_
    obtain ⟨hg, h⟩ := gV_go h
    refine A_iald dX9_earnedBy_32 ia36 hg ?_
    refine A_aload_n dX9_earnedBy_33 rfl ?_
    refine A_getf dX9_earnedBy_34 fw_X9_41 ob6 rfl ?_
    refine A_iconst (v := 3) dX9_earnedBy_37 (by decide) ?_
    obtain ⟨r4, M3, h1, h⟩ := bE_go h
    refine A_cVi1 dX9_earnedBy_38 ml_X9_69 mb_X5_valueOf mi_X5_valueOf ob5 rfl rfl ⟨Nat.le_of_ble_eq_true rfl, Nat.le_of_ble_eq_true rfl⟩ (Nat.le_of_ble_eq_true rfl) (ok_X5_valueOf h1) ?_
    refine A_imul dX9_earnedBy_41 ?_
    refine A_bipush (v := 100) dX9_earnedBy_42 (by decide) ?_
    refine A_idiv dX9_earnedBy_44 (by decide) ?_
    refine A_istoren3 dX9_earnedBy_45 (by decide) rfl (bI_go h (G := fun z => AT l g RX9 cX9_earnedBy 6 (some .int) (rmM 2 46) (PI r Mr) 46 [some (.ref (g.1 6)), some (.int v1), some (.int r2), some (.int z), none, none] [] M3) (fun x5 h => ?_))
    refine A_aload_n dX9_earnedBy_46 rfl ?_
    refine A_getf dX9_earnedBy_47 fw_X9_21 ob6 rfl ?_
    refine A_iload_n dX9_earnedBy_50 rfl ?_
    obtain ⟨hg, h⟩ := gV_go h
    refine A_iald dX9_earnedBy_51 ia36 hg ?_
    refine A_aload_n dX9_earnedBy_52 rfl ?_
    refine A_getf dX9_earnedBy_53 fw_X9_24 ob6 rfl ?_
    refine A_iload_n dX9_earnedBy_56 rfl ?_
    obtain ⟨hg, h⟩ := gV_go h
    refine A_iald dX9_earnedBy_57 ia37 hg ?_
    refine A_iload_n dX9_earnedBy_58 rfl ?_
    refine A_mmin dX9_earnedBy_59 ml_X9_72 (Nat.le_of_ble_eq_true rfl) (Nat.le_of_ble_eq_true rfl) ?_
    refine A_iadd dX9_earnedBy_62 ?_
    refine A_istore4 dX9_earnedBy_63 (by decide) rfl (bI_go h (G := fun z => AT l g RX9 cX9_earnedBy 6 (some .int) (rmM 2 46) (PI r Mr) 65 [some (.ref (g.1 6)), some (.int v1), some (.int r2), some (.int x5), some (.int z), none] [] M3) (fun x6 h => ?_))
    refine A_iload dX9_earnedBy_65 rfl ?_
    refine A_aload_n dX9_earnedBy_67 rfl ?_
    refine A_getf dX9_earnedBy_68 fw_X9_37 ob6 rfl ?_
    refine A_iload_n dX9_earnedBy_71 rfl ?_
    obtain ⟨r8, M7, h1, h⟩ := bE_go h
    refine A_cVi1 dX9_earnedBy_72 ml_X9_75 mb_X4_sumOf mi_X4_sumOf ob4 rfl rfl ⟨Nat.le_of_ble_eq_true rfl, Nat.le_of_ble_eq_true rfl⟩ (Nat.le_of_ble_eq_true rfl) (ok_X4_sumOf h1) ?_
    refine A_imul dX9_earnedBy_75 ?_
    refine A_bipush (v := 100) dX9_earnedBy_76 (by decide) ?_
    refine A_idiv dX9_earnedBy_78 (by decide) ?_
    refine A_istore5 dX9_earnedBy_79 (by decide) rfl (bI_go h (G := fun z => AT l g RX9 cX9_earnedBy 6 (some .int) (rmM 2 46) (PI r Mr) 81 [some (.ref (g.1 6)), some (.int v1), some (.int r2), some (.int x5), some (.int x6), some (.int z)] [] M7) (fun x9 h => ?_))
    refine A_iload dX9_earnedBy_81 rfl ?_
    refine A_aload_n dX9_earnedBy_83 rfl ?_
    refine A_iload_n dX9_earnedBy_84 rfl ?_
    refine A_iload dX9_earnedBy_85 rfl ?_
    obtain ⟨r11, M10, h1, h⟩ := bE_go h
    refine A_cVi2 dX9_earnedBy_87 ml_X9_78 mb_X9_learnersMore mi_X9_learnersMore ob6 rfl rfl ⟨Nat.le_of_ble_eq_true rfl, Nat.le_of_ble_eq_true rfl⟩ (Nat.le_of_ble_eq_true rfl) (ok_X9_learnersMore h1) ?_
    refine A_iadd dX9_earnedBy_90 ?_
    exact A_iret dX9_earnedBy_91 (pI_go h)
  · have h := gT_go hc h
    refine A_iconst (v := 0) dX9_earnedBy_25 (by decide) ?_
    exact A_iret dX9_earnedBy_26 (pI_go h)
-- BenchTimes$WorkRows.minutesAt
theorem dX9_minutesAt_0 : di cX9_minutesAt 0 (.aload_n 0) 1 1 := ⟨by decide +kernel, rfl⟩
theorem dX9_minutesAt_1 : di cX9_minutesAt 1 (.getfield 27) 3 4 := ⟨by decide +kernel, rfl⟩
theorem dX9_minutesAt_4 : di cX9_minutesAt 4 (.iload_n 1) 1 5 := ⟨by decide +kernel, rfl⟩
theorem dX9_minutesAt_5 : di cX9_minutesAt 5 (.iaload) 1 6 := ⟨by decide +kernel, rfl⟩
theorem dX9_minutesAt_6 : di cX9_minutesAt 6 (.ireturn) 1 7 := ⟨by decide +kernel, rfl⟩
def f_X9_minutesAt (v1 : Int32) (M : Mem) : Option Ret := gV v1 100 (some (M.1 38 v1.toNatClampNeg, M))
set_option maxRecDepth 100000 in
theorem ok_X9_minutesAt {l : Launch} {g : Cx} {v1 : Int32} {M : Mem} {r : Int32} {Mr : Mem} (h : f_X9_minutesAt v1 M = some (r, Mr)) : CT l g yX9_minutesAt cX9_minutesAt 2 (some .int) 0 0 [.ref (g.1 6), .int v1] M (PI r Mr) := by
  refine CT_of (lv := [some (.ref (g.1 6)), some (.int v1)]) (by decide) rfl (Nat.le_of_ble_eq_true rfl) ?_
  unfold f_X9_minutesAt at h
  refine A_aload_n dX9_minutesAt_0 rfl ?_
  refine A_getf dX9_minutesAt_1 fw_X9_27 ob6 rfl ?_
  refine A_iload_n dX9_minutesAt_4 rfl ?_
  obtain ⟨hg, h⟩ := gV_go h
  refine A_iald dX9_minutesAt_5 ia38 hg ?_
  exact A_iret dX9_minutesAt_6 (pI_go h)
-- BenchTimes$Doubt.survey
theorem dX0_survey_0 : di cX0_survey 0 (.aload_n 0) 1 1 := ⟨by decide +kernel, rfl⟩
theorem dX0_survey_1 : di cX0_survey 1 (.getfield 9) 3 4 := ⟨by decide +kernel, rfl⟩
theorem dX0_survey_4 : di cX0_survey 4 (.lconst 0) 1 5 := ⟨by decide +kernel, rfl⟩
theorem dX0_survey_5 : di cX0_survey 5 (.invokestatic 26) 3 8 := ⟨by decide +kernel, rfl⟩
theorem dX0_survey_8 : di cX0_survey 8 (.aload_n 0) 1 9 := ⟨by decide +kernel, rfl⟩
theorem dX0_survey_9 : di cX0_survey 9 (.getfield 15) 3 12 := ⟨by decide +kernel, rfl⟩
theorem dX0_survey_12 : di cX0_survey 12 (.iconst 0) 1 13 := ⟨by decide +kernel, rfl⟩
theorem dX0_survey_13 : di cX0_survey 13 (.invokestatic 32) 3 16 := ⟨by decide +kernel, rfl⟩
theorem dX0_survey_16 : di cX0_survey 16 (.iconst 0) 1 17 := ⟨by decide +kernel, rfl⟩
theorem dX0_survey_17 : di cX0_survey 17 (.istore_n 1) 1 18 := ⟨by decide +kernel, rfl⟩
theorem dX0_survey_18 : di cX0_survey 18 (.iload_n 1) 1 19 := ⟨by decide +kernel, rfl⟩
theorem dX0_survey_19 : di cX0_survey 19 (.aload_n 0) 1 20 := ⟨by decide +kernel, rfl⟩
theorem dX0_survey_20 : di cX0_survey 20 (.getfield 22) 3 23 := ⟨by decide +kernel, rfl⟩
theorem dX0_survey_23 : di cX0_survey 23 (.invokevirtual 35) 3 26 := ⟨by decide +kernel, rfl⟩
theorem dX0_survey_26 : dj cX0_survey 26 (.if_icmp .ge) 29 91 := ⟨65, by decide +kernel, rfl, rfl⟩
theorem dX0_survey_29 : di cX0_survey 29 (.aload_n 0) 1 30 := ⟨by decide +kernel, rfl⟩
theorem dX0_survey_30 : di cX0_survey 30 (.getfield 22) 3 33 := ⟨by decide +kernel, rfl⟩
theorem dX0_survey_33 : di cX0_survey 33 (.iload_n 1) 1 34 := ⟨by decide +kernel, rfl⟩
theorem dX0_survey_34 : di cX0_survey 34 (.invokevirtual 41) 3 37 := ⟨by decide +kernel, rfl⟩
theorem dX0_survey_37 : di cX0_survey 37 (.bipush 8) 2 39 := ⟨by decide +kernel, rfl⟩
theorem dX0_survey_39 : di cX0_survey 39 (.imul) 1 40 := ⟨by decide +kernel, rfl⟩
theorem dX0_survey_40 : di cX0_survey 40 (.aload_n 0) 1 41 := ⟨by decide +kernel, rfl⟩
theorem dX0_survey_41 : di cX0_survey 41 (.getfield 22) 3 44 := ⟨by decide +kernel, rfl⟩
theorem dX0_survey_44 : di cX0_survey 44 (.iload_n 1) 1 45 := ⟨by decide +kernel, rfl⟩
theorem dX0_survey_45 : di cX0_survey 45 (.invokevirtual 45) 3 48 := ⟨by decide +kernel, rfl⟩
theorem dX0_survey_48 : di cX0_survey 48 (.iadd) 1 49 := ⟨by decide +kernel, rfl⟩
theorem dX0_survey_49 : di cX0_survey 49 (.istore_n 2) 1 50 := ⟨by decide +kernel, rfl⟩
theorem dX0_survey_50 : di cX0_survey 50 (.aload_n 0) 1 51 := ⟨by decide +kernel, rfl⟩
theorem dX0_survey_51 : di cX0_survey 51 (.getfield 9) 3 54 := ⟨by decide +kernel, rfl⟩
theorem dX0_survey_54 : di cX0_survey 54 (.iload_n 2) 1 55 := ⟨by decide +kernel, rfl⟩
theorem dX0_survey_55 : di cX0_survey 55 (.dup2) 1 56 := ⟨by decide +kernel, rfl⟩
theorem dX0_survey_56 : di cX0_survey 56 (.laload) 1 57 := ⟨by decide +kernel, rfl⟩
theorem dX0_survey_57 : di cX0_survey 57 (.aload_n 0) 1 58 := ⟨by decide +kernel, rfl⟩
theorem dX0_survey_58 : di cX0_survey 58 (.getfield 22) 3 61 := ⟨by decide +kernel, rfl⟩
theorem dX0_survey_61 : di cX0_survey 61 (.iload_n 1) 1 62 := ⟨by decide +kernel, rfl⟩
theorem dX0_survey_62 : di cX0_survey 62 (.invokevirtual 48) 3 65 := ⟨by decide +kernel, rfl⟩
theorem dX0_survey_65 : di cX0_survey 65 (.i2l) 1 66 := ⟨by decide +kernel, rfl⟩
theorem dX0_survey_66 : di cX0_survey 66 (.ladd) 1 67 := ⟨by decide +kernel, rfl⟩
theorem dX0_survey_67 : di cX0_survey 67 (.lastore) 1 68 := ⟨by decide +kernel, rfl⟩
theorem dX0_survey_68 : di cX0_survey 68 (.aload_n 0) 1 69 := ⟨by decide +kernel, rfl⟩
theorem dX0_survey_69 : di cX0_survey 69 (.getfield 15) 3 72 := ⟨by decide +kernel, rfl⟩
theorem dX0_survey_72 : di cX0_survey 72 (.iload_n 2) 1 73 := ⟨by decide +kernel, rfl⟩
theorem dX0_survey_73 : di cX0_survey 73 (.dup2) 1 74 := ⟨by decide +kernel, rfl⟩
theorem dX0_survey_74 : di cX0_survey 74 (.iaload) 1 75 := ⟨by decide +kernel, rfl⟩
theorem dX0_survey_75 : di cX0_survey 75 (.aload_n 0) 1 76 := ⟨by decide +kernel, rfl⟩
theorem dX0_survey_76 : di cX0_survey 76 (.getfield 22) 3 79 := ⟨by decide +kernel, rfl⟩
theorem dX0_survey_79 : di cX0_survey 79 (.iload_n 1) 1 80 := ⟨by decide +kernel, rfl⟩
theorem dX0_survey_80 : di cX0_survey 80 (.invokevirtual 51) 3 83 := ⟨by decide +kernel, rfl⟩
theorem dX0_survey_83 : di cX0_survey 83 (.iadd) 1 84 := ⟨by decide +kernel, rfl⟩
theorem dX0_survey_84 : di cX0_survey 84 (.iastore) 1 85 := ⟨by decide +kernel, rfl⟩
theorem dX0_survey_85 : di cX0_survey 85 (.iinc 1 1) 3 88 := ⟨by decide +kernel, rfl⟩
theorem dX0_survey_88 : dj cX0_survey 88 .goto 91 18 := ⟨-70, by decide +kernel, rfl, rfl⟩
theorem dX0_survey_91 : di cX0_survey 91 (.return_) 1 92 := ⟨by decide +kernel, rfl⟩
def f_X0_survey_L18  : Nat → Int32 → Mem → (Int32 → Mem → Option Ret) → Option Ret
  | 0, _, _, _ => none
  | k18 + 1, v1, M, K18 => bE (f_X9_many M) (fun r6 M5 => if r6 ≤ v1 then (K18 v1 M5) else (bE (f_X9_workerAt v1 M5) (fun r8 M7 => bE (f_X9_jobAt v1 M7) (fun r10 M9 => bI ((r8 * (8 : Int32)) + r10) (fun x11 => gV x11 64 (bE (f_X9_earnedBy v1 M9) (fun r13 M12 => gV x11 64 (bM (upL M12 x11.toNatClampNeg ((M9.2 x11.toNatClampNeg) + (r13.toInt64))) (fun M14 => gV x11 64 (bE (f_X9_minutesAt v1 M14) (fun r16 M15 => gV x11 64 (bM (up2 M15 46 x11.toNatClampNeg ((M14.1 46 x11.toNatClampNeg) + r16)) (fun M17 => f_X0_survey_L18  k18 (v1 + (1 : Int32)) M17 K18)))))))))))))
set_option maxRecDepth 100000 in
theorem f_X0_survey_L18_ok {l : Launch} {g : Cx}   {r : Int32} {Mr : Mem} : ∀ (k : Nat) (v1 : Int32) (M : Mem) (K18 : Int32 → Mem → Option Ret), f_X0_survey_L18  k v1 M K18 = some (r, Mr) → (∀ (v1 : Int32) (M : Mem), K18 v1 M = some (r, Mr) → AT l g RX0 cX0_survey 3 none (rmM 3 71) (PV r Mr) 91 [some (.ref (g.1 9)), some (.int v1), none] [] M) → AT l g RX0 cX0_survey 3 none (rmM 3 71) (PV r Mr) 18 [some (.ref (g.1 9)), some (.int v1), none] [] M
  | 0, v1, M, K18, h, hK18 => by cases h
  | k18 + 1, v1, M, K18, h, hK18 => by
    have ih18 := f_X0_survey_L18_ok (l := l) (g := g)  (r := r) (Mr := Mr) k18
    rw [f_X0_survey_L18] at h
    refine A_iload_n dX0_survey_18 rfl ?_
    refine A_aload_n dX0_survey_19 rfl ?_
    refine A_getf dX0_survey_20 fw_X0_22 ob9 rfl ?_
    obtain ⟨r6, M5, h1, h⟩ := bE_go h
    refine A_cVi0 dX0_survey_23 ml_X0_35 mb_X9_many mi_X9_many ob6 rfl rfl ⟨Nat.le_of_ble_eq_true rfl, Nat.le_of_ble_eq_true rfl⟩ (Nat.le_of_ble_eq_true rfl) (ok_X9_many h1) ?_
    refine A_icmp_ge dX0_survey_26 (fun hc => ?_) (fun hc => ?_)
    · have h := gT_go hc h
      exact A_le (lvLe_s (lvLe_s (lvLe_n lvLe_0))) (hK18 _ _ h)
    · have h := gF_go hc h
      refine A_aload_n dX0_survey_29 rfl ?_
      refine A_getf dX0_survey_30 fw_X0_22 ob9 rfl ?_
      refine A_iload_n dX0_survey_33 rfl ?_
      obtain ⟨r8, M7, h1, h⟩ := bE_go h
      refine A_cVi1 dX0_survey_34 ml_X0_41 mb_X9_workerAt mi_X9_workerAt ob6 rfl rfl ⟨Nat.le_of_ble_eq_true rfl, Nat.le_of_ble_eq_true rfl⟩ (Nat.le_of_ble_eq_true rfl) (ok_X9_workerAt h1) ?_
      refine A_bipush (v := 8) dX0_survey_37 (by decide) ?_
      refine A_imul dX0_survey_39 ?_
      refine A_aload_n dX0_survey_40 rfl ?_
      refine A_getf dX0_survey_41 fw_X0_22 ob9 rfl ?_
      refine A_iload_n dX0_survey_44 rfl ?_
      obtain ⟨r10, M9, h1, h⟩ := bE_go h
      refine A_cVi1 dX0_survey_45 ml_X0_45 mb_X9_jobAt mi_X9_jobAt ob6 rfl rfl ⟨Nat.le_of_ble_eq_true rfl, Nat.le_of_ble_eq_true rfl⟩ (Nat.le_of_ble_eq_true rfl) (ok_X9_jobAt h1) ?_
      refine A_iadd dX0_survey_48 ?_
      refine A_istoren2 dX0_survey_49 (by decide) rfl (bI_go h (G := fun z => AT l g RX0 cX0_survey 3 none (rmM 3 71) (PV r Mr) 50 [some (.ref (g.1 9)), some (.int v1), some (.int z)] [] M9) (fun x11 h => ?_))
      refine A_aload_n dX0_survey_50 rfl ?_
      refine A_getf dX0_survey_51 fw_X0_9 ob9 rfl ?_
      refine A_iload_n dX0_survey_54 rfl ?_
      refine A_dup2 dX0_survey_55 rfl rfl ?_
      obtain ⟨hg, h⟩ := gV_go h
      refine A_lald dX0_survey_56 la45 hg ?_
      refine A_aload_n dX0_survey_57 rfl ?_
      refine A_getf dX0_survey_58 fw_X0_22 ob9 rfl ?_
      refine A_iload_n dX0_survey_61 rfl ?_
      obtain ⟨r13, M12, h1, h⟩ := bE_go h
      refine A_cVi1 dX0_survey_62 ml_X0_48 mb_X9_earnedBy mi_X9_earnedBy ob6 rfl rfl ⟨Nat.le_of_ble_eq_true rfl, Nat.le_of_ble_eq_true rfl⟩ (Nat.le_of_ble_eq_true rfl) (ok_X9_earnedBy h1) ?_
      refine A_i2l dX0_survey_65 ?_
      refine A_ladd dX0_survey_66 ?_
      obtain ⟨hg, h⟩ := gV_go h
      refine A_last dX0_survey_67 la45 hg (bM_go h (fun M14 h => ?_))
      refine A_aload_n dX0_survey_68 rfl ?_
      refine A_getf dX0_survey_69 fw_X0_15 ob9 rfl ?_
      refine A_iload_n dX0_survey_72 rfl ?_
      refine A_dup2 dX0_survey_73 rfl rfl ?_
      obtain ⟨hg, h⟩ := gV_go h
      refine A_iald dX0_survey_74 ia46 hg ?_
      refine A_aload_n dX0_survey_75 rfl ?_
      refine A_getf dX0_survey_76 fw_X0_22 ob9 rfl ?_
      refine A_iload_n dX0_survey_79 rfl ?_
      obtain ⟨r16, M15, h1, h⟩ := bE_go h
      refine A_cVi1 dX0_survey_80 ml_X0_51 mb_X9_minutesAt mi_X9_minutesAt ob6 rfl rfl ⟨Nat.le_of_ble_eq_true rfl, Nat.le_of_ble_eq_true rfl⟩ (Nat.le_of_ble_eq_true rfl) (ok_X9_minutesAt h1) ?_
      refine A_iadd dX0_survey_83 ?_
      obtain ⟨hg, h⟩ := gV_go h
      refine A_iast dX0_survey_84 ia46 hg (bM_go h (fun M17 h => ?_))
      refine A_iinc1 (d := 1) dX0_survey_85 (by decide) (by decide) rfl ?_
      refine A_goto dX0_survey_88 ?_
      exact A_le (lvLe_s (lvLe_s (lvLe_n lvLe_0))) (ih18 _ _ K18 h hK18)
def f_X0_survey  (M : Mem) : Option Ret := bE (f_J7_fill_d0a16 (0 : Int64) M) (fun r2 M1 => bE (f_J7_fill_53178 46 64 (0 : Int32) M1) (fun r4 M3 => f_X0_survey_L18  FU (0 : Int32) M3 (fun w18 M19 => some (0, M19))))
set_option maxRecDepth 100000 in
theorem ok_X0_survey {l : Launch} {g : Cx}  {M : Mem} {r : Int32} {Mr : Mem} (h : f_X0_survey  M = some (r, Mr)) : CT l g yX0_survey cX0_survey 3 none 3 71 [.ref (g.1 9)] M (PV r Mr) := by
  refine CT_of (lv := [some (.ref (g.1 9)), none, none]) (by decide) rfl (Nat.le_of_ble_eq_true rfl) ?_
  unfold f_X0_survey at h
  refine A_aload_n dX0_survey_0 rfl ?_
  refine A_getf dX0_survey_1 fw_X0_9 ob9 rfl ?_
  refine A_lconst (v := 0) dX0_survey_4 (by decide) ?_
  obtain ⟨r2, M1, h1, h⟩ := bE_go h
  refine A_cSv2 dX0_survey_5 ml_X0_26 mb_J7_fill_d0a16 ms_J7_fill_d0a16 ⟨Nat.le_of_ble_eq_true rfl, Nat.le_of_ble_eq_true rfl⟩ (Nat.le_of_ble_eq_true rfl) (ok_J7_fill_d0a16 h1) ?_
  refine A_aload_n dX0_survey_8 rfl ?_
  refine A_getf dX0_survey_9 fw_X0_15 ob9 rfl ?_
  refine A_iconst (v := 0) dX0_survey_12 (by decide) ?_
  obtain ⟨r4, M3, h1, h⟩ := bE_go h
  refine A_cSv2 dX0_survey_13 ml_X0_32 mb_J7_fill_53178 ms_J7_fill_53178 ⟨Nat.le_of_ble_eq_true rfl, Nat.le_of_ble_eq_true rfl⟩ (Nat.le_of_ble_eq_true rfl) (ok_J7_fill_53178 ia46 h1) ?_
  refine A_iconst (v := 0) dX0_survey_16 (by decide) ?_
  refine A_istoren1 dX0_survey_17 (by decide) rfl ?_
  refine f_X0_survey_L18_ok  FU _ _ _ h (fun w18 M19 h => ?_)
  exact A_vret dX0_survey_91 (pV_go h)
-- BenchTimes$Doubt.efficiencyOf
theorem dX0_efficiencyOf_0 : di cX0_efficiencyOf 0 (.iload_n 1) 1 1 := ⟨by decide +kernel, rfl⟩
theorem dX0_efficiencyOf_1 : di cX0_efficiencyOf 1 (.bipush 8) 2 3 := ⟨by decide +kernel, rfl⟩
theorem dX0_efficiencyOf_3 : di cX0_efficiencyOf 3 (.imul) 1 4 := ⟨by decide +kernel, rfl⟩
theorem dX0_efficiencyOf_4 : di cX0_efficiencyOf 4 (.iload_n 2) 1 5 := ⟨by decide +kernel, rfl⟩
theorem dX0_efficiencyOf_5 : di cX0_efficiencyOf 5 (.iadd) 1 6 := ⟨by decide +kernel, rfl⟩
theorem dX0_efficiencyOf_6 : di cX0_efficiencyOf 6 (.istore_n 3) 1 7 := ⟨by decide +kernel, rfl⟩
theorem dX0_efficiencyOf_7 : di cX0_efficiencyOf 7 (.aload_n 0) 1 8 := ⟨by decide +kernel, rfl⟩
theorem dX0_efficiencyOf_8 : di cX0_efficiencyOf 8 (.getfield 15) 3 11 := ⟨by decide +kernel, rfl⟩
theorem dX0_efficiencyOf_11 : di cX0_efficiencyOf 11 (.iload_n 3) 1 12 := ⟨by decide +kernel, rfl⟩
theorem dX0_efficiencyOf_12 : di cX0_efficiencyOf 12 (.iaload) 1 13 := ⟨by decide +kernel, rfl⟩
theorem dX0_efficiencyOf_13 : dj cX0_efficiencyOf 13 (.ifCond .ne) 16 20 := ⟨7, by decide +kernel, rfl, rfl⟩
theorem dX0_efficiencyOf_16 : di cX0_efficiencyOf 16 (.iconst (-1)) 1 17 := ⟨by decide +kernel, rfl⟩
theorem dX0_efficiencyOf_17 : dj cX0_efficiencyOf 17 .goto 20 39 := ⟨22, by decide +kernel, rfl, rfl⟩
theorem dX0_efficiencyOf_20 : di cX0_efficiencyOf 20 (.ldc2_w 54) 3 23 := ⟨by decide +kernel, rfl⟩
theorem dX0_efficiencyOf_23 : di cX0_efficiencyOf 23 (.aload_n 0) 1 24 := ⟨by decide +kernel, rfl⟩
theorem dX0_efficiencyOf_24 : di cX0_efficiencyOf 24 (.getfield 9) 3 27 := ⟨by decide +kernel, rfl⟩
theorem dX0_efficiencyOf_27 : di cX0_efficiencyOf 27 (.iload_n 3) 1 28 := ⟨by decide +kernel, rfl⟩
theorem dX0_efficiencyOf_28 : di cX0_efficiencyOf 28 (.laload) 1 29 := ⟨by decide +kernel, rfl⟩
theorem dX0_efficiencyOf_29 : di cX0_efficiencyOf 29 (.lmul) 1 30 := ⟨by decide +kernel, rfl⟩
theorem dX0_efficiencyOf_30 : di cX0_efficiencyOf 30 (.aload_n 0) 1 31 := ⟨by decide +kernel, rfl⟩
theorem dX0_efficiencyOf_31 : di cX0_efficiencyOf 31 (.getfield 15) 3 34 := ⟨by decide +kernel, rfl⟩
theorem dX0_efficiencyOf_34 : di cX0_efficiencyOf 34 (.iload_n 3) 1 35 := ⟨by decide +kernel, rfl⟩
theorem dX0_efficiencyOf_35 : di cX0_efficiencyOf 35 (.iaload) 1 36 := ⟨by decide +kernel, rfl⟩
theorem dX0_efficiencyOf_36 : di cX0_efficiencyOf 36 (.i2l) 1 37 := ⟨by decide +kernel, rfl⟩
theorem dX0_efficiencyOf_37 : di cX0_efficiencyOf 37 (.ldiv) 1 38 := ⟨by decide +kernel, rfl⟩
theorem dX0_efficiencyOf_38 : di cX0_efficiencyOf 38 (.l2i) 1 39 := ⟨by decide +kernel, rfl⟩
theorem dX0_efficiencyOf_39 : di cX0_efficiencyOf 39 (.ireturn) 1 40 := ⟨by decide +kernel, rfl⟩
def f_X0_efficiencyOf (v1 : Int32) (v2 : Int32) (M : Mem) : Option Ret := bI ((v1 * (8 : Int32)) + v2) (fun x1 => gV x1 64 (jn (α := Int32 → Option Ret) (fun (z3 : Int32) => some (z3, M)) (fun J2 => if (M.1 46 x1.toNatClampNeg) = 0 then (J2 (-1 : Int32)) else (gV x1 64 (gV x1 64 (gNL ((M.1 46 x1.toNatClampNeg).toInt64) (J2 ((((100 : Int64) * (M.2 x1.toNatClampNeg)) / ((M.1 46 x1.toNatClampNeg).toInt64)).toInt32))))))))
set_option maxRecDepth 100000 in
theorem ok_X0_efficiencyOf {l : Launch} {g : Cx} {v1 : Int32} {v2 : Int32} {M : Mem} {r : Int32} {Mr : Mem} (h : f_X0_efficiencyOf v1 v2 M = some (r, Mr)) : CT l g yX0_efficiencyOf cX0_efficiencyOf 4 (some .int) 0 0 [.ref (g.1 9), .int v1, .int v2] M (PI r Mr) := by
  refine CT_of (lv := [some (.ref (g.1 9)), some (.int v1), some (.int v2), none]) (by decide) rfl (Nat.le_of_ble_eq_true rfl) ?_
  unfold f_X0_efficiencyOf at h
  refine A_iload_n dX0_efficiencyOf_0 rfl ?_
  refine A_bipush (v := 8) dX0_efficiencyOf_1 (by decide) ?_
  refine A_imul dX0_efficiencyOf_3 ?_
  refine A_iload_n dX0_efficiencyOf_4 rfl ?_
  refine A_iadd dX0_efficiencyOf_5 ?_
  refine A_istoren3 dX0_efficiencyOf_6 (by decide) rfl (bI_go h (G := fun z => AT l g RX0 cX0_efficiencyOf 4 (some .int) (rmM 0 0) (PI r Mr) 7 [some (.ref (g.1 9)), some (.int v1), some (.int v2), some (.int z)] [] M) (fun x1 h => ?_))
  refine A_aload_n dX0_efficiencyOf_7 rfl ?_
  refine A_getf dX0_efficiencyOf_8 fw_X0_15 ob9 rfl ?_
  refine A_iload_n dX0_efficiencyOf_11 rfl ?_
  obtain ⟨hg, h⟩ := gV_go h
  refine A_iald dX0_efficiencyOf_12 ia46 hg ?_
  obtain ⟨J2, hJ2, h⟩ := jn_go h
  have JJ2 : ∀ (z3 : Int32), J2 z3 = some (r, Mr) → AT l g RX0 cX0_efficiencyOf 4 (some .int) (rmM 0 0) (PI r Mr) 39 [some (.ref (g.1 9)), some (.int v1), some (.int v2), some (.int x1)] [.int z3] M := by
    intro z3 h
    rw [hJ2] at h
    exact A_iret dX0_efficiencyOf_39 (pI_go h)
  refine A_if_ne dX0_efficiencyOf_13 (fun hc => ?_) (fun hc => ?_)
  · have h := gF_go hc h
    refine A_ldc2 dX0_efficiencyOf_20 kc_X0_54 ?_
    refine A_aload_n dX0_efficiencyOf_23 rfl ?_
    refine A_getf dX0_efficiencyOf_24 fw_X0_9 ob9 rfl ?_
    refine A_iload_n dX0_efficiencyOf_27 rfl ?_
    obtain ⟨hg, h⟩ := gV_go h
    refine A_lald dX0_efficiencyOf_28 la45 hg ?_
    refine A_lmul dX0_efficiencyOf_29 ?_
    refine A_aload_n dX0_efficiencyOf_30 rfl ?_
    refine A_getf dX0_efficiencyOf_31 fw_X0_15 ob9 rfl ?_
    refine A_iload_n dX0_efficiencyOf_34 rfl ?_
    obtain ⟨hg, h⟩ := gV_go h
    refine A_iald dX0_efficiencyOf_35 ia46 hg ?_
    refine A_i2l dX0_efficiencyOf_36 ?_
    obtain ⟨hg, h⟩ := gNL_go h
    refine A_ldiv dX0_efficiencyOf_37 hg ?_
    refine A_l2i dX0_efficiencyOf_38 ?_
    exact A_le (lvLe_s (lvLe_s (lvLe_s (lvLe_s lvLe_0)))) (JJ2 _ h)
  · have h := gT_go hc h
    refine A_iconst (v := -1) dX0_efficiencyOf_16 (by decide) ?_
    refine A_goto dX0_efficiencyOf_17 ?_
    exact A_le (lvLe_s (lvLe_s (lvLe_s (lvLe_s lvLe_0)))) (JJ2 _ h)
-- BenchTimes$Doubt.waysToChoose
theorem dX0_waysToChoose_0 : di cX0_waysToChoose 0 (.iconst 1) 1 1 := ⟨by decide +kernel, rfl⟩
theorem dX0_waysToChoose_1 : di cX0_waysToChoose 1 (.istore_n 2) 1 2 := ⟨by decide +kernel, rfl⟩
theorem dX0_waysToChoose_2 : di cX0_waysToChoose 2 (.iconst 0) 1 3 := ⟨by decide +kernel, rfl⟩
theorem dX0_waysToChoose_3 : di cX0_waysToChoose 3 (.istore_n 3) 1 4 := ⟨by decide +kernel, rfl⟩
theorem dX0_waysToChoose_4 : di cX0_waysToChoose 4 (.iconst 0) 1 5 := ⟨by decide +kernel, rfl⟩
theorem dX0_waysToChoose_5 : di cX0_waysToChoose 5 (.istore 4) 2 7 := ⟨by decide +kernel, rfl⟩
theorem dX0_waysToChoose_7 : di cX0_waysToChoose 7 (.iload 4) 2 9 := ⟨by decide +kernel, rfl⟩
theorem dX0_waysToChoose_9 : di cX0_waysToChoose 9 (.iload_n 1) 1 10 := ⟨by decide +kernel, rfl⟩
theorem dX0_waysToChoose_10 : dj cX0_waysToChoose 10 (.if_icmp .gt) 13 45 := ⟨35, by decide +kernel, rfl, rfl⟩
theorem dX0_waysToChoose_13 : di cX0_waysToChoose 13 (.iload_n 3) 1 14 := ⟨by decide +kernel, rfl⟩
theorem dX0_waysToChoose_14 : di cX0_waysToChoose 14 (.iload 4) 2 16 := ⟨by decide +kernel, rfl⟩
theorem dX0_waysToChoose_16 : di cX0_waysToChoose 16 (.iload_n 0) 1 17 := ⟨by decide +kernel, rfl⟩
theorem dX0_waysToChoose_17 : dj cX0_waysToChoose 17 (.if_icmp .lt) 20 24 := ⟨7, by decide +kernel, rfl, rfl⟩
theorem dX0_waysToChoose_20 : di cX0_waysToChoose 20 (.iload_n 2) 1 21 := ⟨by decide +kernel, rfl⟩
theorem dX0_waysToChoose_21 : dj cX0_waysToChoose 21 .goto 24 25 := ⟨4, by decide +kernel, rfl, rfl⟩
theorem dX0_waysToChoose_24 : di cX0_waysToChoose 24 (.iconst 0) 1 25 := ⟨by decide +kernel, rfl⟩
theorem dX0_waysToChoose_25 : di cX0_waysToChoose 25 (.iadd) 1 26 := ⟨by decide +kernel, rfl⟩
theorem dX0_waysToChoose_26 : di cX0_waysToChoose 26 (.istore_n 3) 1 27 := ⟨by decide +kernel, rfl⟩
theorem dX0_waysToChoose_27 : di cX0_waysToChoose 27 (.iload_n 2) 1 28 := ⟨by decide +kernel, rfl⟩
theorem dX0_waysToChoose_28 : di cX0_waysToChoose 28 (.iload_n 1) 1 29 := ⟨by decide +kernel, rfl⟩
theorem dX0_waysToChoose_29 : di cX0_waysToChoose 29 (.iload 4) 2 31 := ⟨by decide +kernel, rfl⟩
theorem dX0_waysToChoose_31 : di cX0_waysToChoose 31 (.isub) 1 32 := ⟨by decide +kernel, rfl⟩
theorem dX0_waysToChoose_32 : di cX0_waysToChoose 32 (.imul) 1 33 := ⟨by decide +kernel, rfl⟩
theorem dX0_waysToChoose_33 : di cX0_waysToChoose 33 (.iload 4) 2 35 := ⟨by decide +kernel, rfl⟩
theorem dX0_waysToChoose_35 : di cX0_waysToChoose 35 (.iconst 1) 1 36 := ⟨by decide +kernel, rfl⟩
theorem dX0_waysToChoose_36 : di cX0_waysToChoose 36 (.iadd) 1 37 := ⟨by decide +kernel, rfl⟩
theorem dX0_waysToChoose_37 : di cX0_waysToChoose 37 (.idiv) 1 38 := ⟨by decide +kernel, rfl⟩
theorem dX0_waysToChoose_38 : di cX0_waysToChoose 38 (.istore_n 2) 1 39 := ⟨by decide +kernel, rfl⟩
theorem dX0_waysToChoose_39 : di cX0_waysToChoose 39 (.iinc 4 1) 3 42 := ⟨by decide +kernel, rfl⟩
theorem dX0_waysToChoose_42 : dj cX0_waysToChoose 42 .goto 45 7 := ⟨-35, by decide +kernel, rfl, rfl⟩
theorem dX0_waysToChoose_45 : di cX0_waysToChoose 45 (.iload_n 3) 1 46 := ⟨by decide +kernel, rfl⟩
theorem dX0_waysToChoose_46 : di cX0_waysToChoose 46 (.ireturn) 1 47 := ⟨by decide +kernel, rfl⟩
def f_X0_waysToChoose_L7 (v0 : Int32) (v1 : Int32) : Nat → Int32 → Int32 → Int32 → Mem → (Int32 → Int32 → Int32 → Mem → Option Ret) → Option Ret
  | 0, _, _, _, _, _ => none
  | k7 + 1, v2, v3, v4, M, K7 => if v1 < v4 then (K7 v2 v3 v4 M) else (jn (α := Int32 → Option Ret) (fun (z2 : Int32) => bI (v3 + z2) (fun x3 => gN (v4 + (1 : Int32)) (bI ((v2 * (v1 - v4)) / (v4 + (1 : Int32))) (fun x4 => f_X0_waysToChoose_L7 v0 v1 k7 x4 x3 (v4 + (1 : Int32)) M K7)))) (fun J1 => if v4 < v0 then (J1 (0 : Int32)) else (J1 v2)))
set_option maxRecDepth 100000 in
theorem f_X0_waysToChoose_L7_ok {l : Launch} {g : Cx} (v0 : Int32) (v1 : Int32)  {r : Int32} {Mr : Mem} : ∀ (k : Nat) (v2 : Int32) (v3 : Int32) (v4 : Int32) (M : Mem) (K7 : Int32 → Int32 → Int32 → Mem → Option Ret), f_X0_waysToChoose_L7 v0 v1 k v2 v3 v4 M K7 = some (r, Mr) → (∀ (v2 : Int32) (v3 : Int32) (v4 : Int32) (M : Mem), K7 v2 v3 v4 M = some (r, Mr) → AT l g RX0 cX0_waysToChoose 5 (some .int) (rmM 0 0) (PI r Mr) 45 [some (.int v0), some (.int v1), some (.int v2), some (.int v3), some (.int v4)] [] M) → AT l g RX0 cX0_waysToChoose 5 (some .int) (rmM 0 0) (PI r Mr) 7 [some (.int v0), some (.int v1), some (.int v2), some (.int v3), some (.int v4)] [] M
  | 0, v2, v3, v4, M, K7, h, hK7 => by cases h
  | k7 + 1, v2, v3, v4, M, K7, h, hK7 => by
    have ih7 := f_X0_waysToChoose_L7_ok (l := l) (g := g) v0 v1 (r := r) (Mr := Mr) k7
    rw [f_X0_waysToChoose_L7] at h
    refine A_iload dX0_waysToChoose_7 rfl ?_
    refine A_iload_n dX0_waysToChoose_9 rfl ?_
    refine A_icmp_gt dX0_waysToChoose_10 (fun hc => ?_) (fun hc => ?_)
    · have h := gT_go hc h
      exact A_le (lvLe_s (lvLe_s (lvLe_s (lvLe_s (lvLe_s lvLe_0))))) (hK7 _ _ _ _ h)
    · have h := gF_go hc h
      refine A_iload_n dX0_waysToChoose_13 rfl ?_
      refine A_iload dX0_waysToChoose_14 rfl ?_
      refine A_iload_n dX0_waysToChoose_16 rfl ?_
      obtain ⟨J1, hJ1, h⟩ := jn_go h
      have JJ1 : ∀ (z2 : Int32), J1 z2 = some (r, Mr) → AT l g RX0 cX0_waysToChoose 5 (some .int) (rmM 0 0) (PI r Mr) 25 [some (.int v0), some (.int v1), some (.int v2), some (.int v3), some (.int v4)] [.int z2, .int v3] M := by
        intro z2 h
        rw [hJ1] at h
        refine A_iadd dX0_waysToChoose_25 ?_
        refine A_istoren3 dX0_waysToChoose_26 (by decide) rfl (bI_go h (G := fun z => AT l g RX0 cX0_waysToChoose 5 (some .int) (rmM 0 0) (PI r Mr) 27 [some (.int v0), some (.int v1), some (.int v2), some (.int z), some (.int v4)] [] M) (fun x3 h => ?_))
        refine A_iload_n dX0_waysToChoose_27 rfl ?_
        refine A_iload_n dX0_waysToChoose_28 rfl ?_
        refine A_iload dX0_waysToChoose_29 rfl ?_
        refine A_isub dX0_waysToChoose_31 ?_
        refine A_imul dX0_waysToChoose_32 ?_
        refine A_iload dX0_waysToChoose_33 rfl ?_
        refine A_iconst (v := 1) dX0_waysToChoose_35 (by decide) ?_
        refine A_iadd dX0_waysToChoose_36 ?_
        obtain ⟨hg, h⟩ := gN_go h
        refine A_idiv dX0_waysToChoose_37 hg ?_
        refine A_istoren2 dX0_waysToChoose_38 (by decide) rfl (bI_go h (G := fun z => AT l g RX0 cX0_waysToChoose 5 (some .int) (rmM 0 0) (PI r Mr) 39 [some (.int v0), some (.int v1), some (.int z), some (.int x3), some (.int v4)] [] M) (fun x4 h => ?_))
        refine A_iinc4 (d := 1) dX0_waysToChoose_39 (by decide) (by decide) rfl ?_
        refine A_goto dX0_waysToChoose_42 ?_
        exact A_le (lvLe_s (lvLe_s (lvLe_s (lvLe_s (lvLe_s lvLe_0))))) (ih7 _ _ _ _ K7 h hK7)
      refine A_icmp_lt dX0_waysToChoose_17 (fun hc => ?_) (fun hc => ?_)
      · have h := gT_go hc h
        refine A_iconst (v := 0) dX0_waysToChoose_24 (by decide) ?_
        exact A_le (lvLe_s (lvLe_s (lvLe_s (lvLe_s (lvLe_s lvLe_0))))) (JJ1 _ h)
      · have h := gF_go hc h
        refine A_iload_n dX0_waysToChoose_20 rfl ?_
        refine A_goto dX0_waysToChoose_21 ?_
        exact A_le (lvLe_s (lvLe_s (lvLe_s (lvLe_s (lvLe_s lvLe_0))))) (JJ1 _ h)
def f_X0_waysToChoose (v0 : Int32) (v1 : Int32) (M : Mem) : Option Ret := f_X0_waysToChoose_L7 v0 v1 FU (1 : Int32) (0 : Int32) (0 : Int32) M (fun w5 w6 w7 M8 => some (w6, M8))
set_option maxRecDepth 100000 in
theorem ok_X0_waysToChoose {l : Launch} {g : Cx} {v0 : Int32} {v1 : Int32} {M : Mem} {r : Int32} {Mr : Mem} (h : f_X0_waysToChoose v0 v1 M = some (r, Mr)) : CT l g yX0_waysToChoose cX0_waysToChoose 5 (some .int) 0 0 [.int v0, .int v1] M (PI r Mr) := by
  refine CT_of (lv := [some (.int v0), some (.int v1), none, none, none]) (by decide) rfl (Nat.le_of_ble_eq_true rfl) ?_
  unfold f_X0_waysToChoose at h
  refine A_iconst (v := 1) dX0_waysToChoose_0 (by decide) ?_
  refine A_istoren2 dX0_waysToChoose_1 (by decide) rfl ?_
  refine A_iconst (v := 0) dX0_waysToChoose_2 (by decide) ?_
  refine A_istoren3 dX0_waysToChoose_3 (by decide) rfl ?_
  refine A_iconst (v := 0) dX0_waysToChoose_4 (by decide) ?_
  refine A_istore4 dX0_waysToChoose_5 (by decide) rfl ?_
  refine f_X0_waysToChoose_L7_ok _ _ FU _ _ _ _ _ h (fun w5 w6 w7 M8 h => ?_)
  refine A_iload_n dX0_waysToChoose_45 rfl ?_
  exact A_iret dX0_waysToChoose_46 (pI_go h)
-- BenchTimes$Doubt.isLooser
theorem dX0_isLooser_0 : di cX0_isLooser 0 (.iconst 0) 1 1 := ⟨by decide +kernel, rfl⟩
theorem dX0_isLooser_1 : di cX0_isLooser 1 (.istore_n 3) 1 2 := ⟨by decide +kernel, rfl⟩
theorem dX0_isLooser_2 : di cX0_isLooser 2 (.iconst 0) 1 3 := ⟨by decide +kernel, rfl⟩
theorem dX0_isLooser_3 : di cX0_isLooser 3 (.istore 4) 2 5 := ⟨by decide +kernel, rfl⟩
theorem dX0_isLooser_5 : di cX0_isLooser 5 (.iconst 0) 1 6 := ⟨by decide +kernel, rfl⟩
theorem dX0_isLooser_6 : di cX0_isLooser 6 (.istore 5) 2 8 := ⟨by decide +kernel, rfl⟩
theorem dX0_isLooser_8 : di cX0_isLooser 8 (.iload 5) 2 10 := ⟨by decide +kernel, rfl⟩
theorem dX0_isLooser_10 : di cX0_isLooser 10 (.bipush 8) 2 12 := ⟨by decide +kernel, rfl⟩
theorem dX0_isLooser_12 : dj cX0_isLooser 12 (.if_icmp .ge) 15 78 := ⟨66, by decide +kernel, rfl, rfl⟩
theorem dX0_isLooser_15 : di cX0_isLooser 15 (.aload_n 0) 1 16 := ⟨by decide +kernel, rfl⟩
theorem dX0_isLooser_16 : di cX0_isLooser 16 (.iload 5) 2 18 := ⟨by decide +kernel, rfl⟩
theorem dX0_isLooser_18 : di cX0_isLooser 18 (.iload_n 1) 1 19 := ⟨by decide +kernel, rfl⟩
theorem dX0_isLooser_19 : di cX0_isLooser 19 (.invokevirtual 56) 3 22 := ⟨by decide +kernel, rfl⟩
theorem dX0_isLooser_22 : di cX0_isLooser 22 (.istore 6) 2 24 := ⟨by decide +kernel, rfl⟩
theorem dX0_isLooser_24 : di cX0_isLooser 24 (.aload_n 0) 1 25 := ⟨by decide +kernel, rfl⟩
theorem dX0_isLooser_25 : di cX0_isLooser 25 (.iload 5) 2 27 := ⟨by decide +kernel, rfl⟩
theorem dX0_isLooser_27 : di cX0_isLooser 27 (.iload_n 2) 1 28 := ⟨by decide +kernel, rfl⟩
theorem dX0_isLooser_28 : di cX0_isLooser 28 (.invokevirtual 56) 3 31 := ⟨by decide +kernel, rfl⟩
theorem dX0_isLooser_31 : di cX0_isLooser 31 (.istore 7) 2 33 := ⟨by decide +kernel, rfl⟩
theorem dX0_isLooser_33 : di cX0_isLooser 33 (.iload 6) 2 35 := ⟨by decide +kernel, rfl⟩
theorem dX0_isLooser_35 : di cX0_isLooser 35 (.iconst (-1)) 1 36 := ⟨by decide +kernel, rfl⟩
theorem dX0_isLooser_36 : dj cX0_isLooser 36 (.if_icmp .eq) 39 72 := ⟨36, by decide +kernel, rfl, rfl⟩
theorem dX0_isLooser_39 : di cX0_isLooser 39 (.iload 7) 2 41 := ⟨by decide +kernel, rfl⟩
theorem dX0_isLooser_41 : di cX0_isLooser 41 (.iconst (-1)) 1 42 := ⟨by decide +kernel, rfl⟩
theorem dX0_isLooser_42 : dj cX0_isLooser 42 (.if_icmp .eq) 45 72 := ⟨30, by decide +kernel, rfl, rfl⟩
theorem dX0_isLooser_45 : di cX0_isLooser 45 (.iload 6) 2 47 := ⟨by decide +kernel, rfl⟩
theorem dX0_isLooser_47 : di cX0_isLooser 47 (.iload 7) 2 49 := ⟨by decide +kernel, rfl⟩
theorem dX0_isLooser_49 : dj cX0_isLooser 49 (.if_icmp .eq) 52 72 := ⟨23, by decide +kernel, rfl, rfl⟩
theorem dX0_isLooser_52 : di cX0_isLooser 52 (.iinc 3 1) 3 55 := ⟨by decide +kernel, rfl⟩
theorem dX0_isLooser_55 : di cX0_isLooser 55 (.iload 4) 2 57 := ⟨by decide +kernel, rfl⟩
theorem dX0_isLooser_57 : di cX0_isLooser 57 (.iload 6) 2 59 := ⟨by decide +kernel, rfl⟩
theorem dX0_isLooser_59 : di cX0_isLooser 59 (.iload 7) 2 61 := ⟨by decide +kernel, rfl⟩
theorem dX0_isLooser_61 : dj cX0_isLooser 61 (.if_icmp .le) 64 68 := ⟨7, by decide +kernel, rfl, rfl⟩
theorem dX0_isLooser_64 : di cX0_isLooser 64 (.iconst 1) 1 65 := ⟨by decide +kernel, rfl⟩
theorem dX0_isLooser_65 : dj cX0_isLooser 65 .goto 68 69 := ⟨4, by decide +kernel, rfl, rfl⟩
theorem dX0_isLooser_68 : di cX0_isLooser 68 (.iconst 0) 1 69 := ⟨by decide +kernel, rfl⟩
theorem dX0_isLooser_69 : di cX0_isLooser 69 (.iadd) 1 70 := ⟨by decide +kernel, rfl⟩
theorem dX0_isLooser_70 : di cX0_isLooser 70 (.istore 4) 2 72 := ⟨by decide +kernel, rfl⟩
theorem dX0_isLooser_72 : di cX0_isLooser 72 (.iinc 5 1) 3 75 := ⟨by decide +kernel, rfl⟩
theorem dX0_isLooser_75 : dj cX0_isLooser 75 .goto 78 8 := ⟨-67, by decide +kernel, rfl, rfl⟩
theorem dX0_isLooser_78 : di cX0_isLooser 78 (.iload_n 3) 1 79 := ⟨by decide +kernel, rfl⟩
theorem dX0_isLooser_79 : dj cX0_isLooser 79 (.ifCond .le) 82 101 := ⟨22, by decide +kernel, rfl, rfl⟩
theorem dX0_isLooser_82 : di cX0_isLooser 82 (.bipush 20) 2 84 := ⟨by decide +kernel, rfl⟩
theorem dX0_isLooser_84 : di cX0_isLooser 84 (.iload 4) 2 86 := ⟨by decide +kernel, rfl⟩
theorem dX0_isLooser_86 : di cX0_isLooser 86 (.iload_n 3) 1 87 := ⟨by decide +kernel, rfl⟩
theorem dX0_isLooser_87 : di cX0_isLooser 87 (.invokestatic 60) 3 90 := ⟨by decide +kernel, rfl⟩
theorem dX0_isLooser_90 : di cX0_isLooser 90 (.imul) 1 91 := ⟨by decide +kernel, rfl⟩
theorem dX0_isLooser_91 : di cX0_isLooser 91 (.iconst 1) 1 92 := ⟨by decide +kernel, rfl⟩
theorem dX0_isLooser_92 : di cX0_isLooser 92 (.iload_n 3) 1 93 := ⟨by decide +kernel, rfl⟩
theorem dX0_isLooser_93 : di cX0_isLooser 93 (.ishl) 1 94 := ⟨by decide +kernel, rfl⟩
theorem dX0_isLooser_94 : dj cX0_isLooser 94 (.if_icmp .gt) 97 101 := ⟨7, by decide +kernel, rfl, rfl⟩
theorem dX0_isLooser_97 : di cX0_isLooser 97 (.iconst 1) 1 98 := ⟨by decide +kernel, rfl⟩
theorem dX0_isLooser_98 : dj cX0_isLooser 98 .goto 101 102 := ⟨4, by decide +kernel, rfl, rfl⟩
theorem dX0_isLooser_101 : di cX0_isLooser 101 (.iconst 0) 1 102 := ⟨by decide +kernel, rfl⟩
theorem dX0_isLooser_102 : di cX0_isLooser 102 (.ireturn) 1 103 := ⟨by decide +kernel, rfl⟩
def f_X0_isLooser_L8 (v1 : Int32) (v2 : Int32) : Nat → Int32 → Int32 → Int32 → Mem → (Int32 → Int32 → Int32 → Mem → Option Ret) → Option Ret
  | 0, _, _, _, _, _ => none
  | k8 + 1, v3, v4, v5, M, K8 => if (8 : Int32) ≤ v5 then (K8 v3 v4 v5 M) else (bE (f_X0_efficiencyOf v5 v1 M) (fun r2 M1 => bE (f_X0_efficiencyOf v5 v2 M1) (fun r4 M3 => jn (α := Int32 → Int32 → Option Ret) (fun (y6 : Int32) (y7 : Int32) => f_X0_isLooser_L8 v1 v2 k8 y6 y7 (v5 + (1 : Int32)) M3 K8) (fun J5 => if r2 = (-1 : Int32) then (J5 v3 v4) else (if r4 = (-1 : Int32) then (J5 v3 v4) else (if r2 = r4 then (J5 v3 v4) else (jn (α := Int32 → Option Ret) (fun (z9 : Int32) => bI (v4 + z9) (fun x10 => J5 (v3 + (1 : Int32)) x10)) (fun J8 => if r2 ≤ r4 then (J8 (0 : Int32)) else (J8 (1 : Int32))))))))))
set_option maxRecDepth 100000 in
theorem f_X0_isLooser_L8_ok {l : Launch} {g : Cx} (v1 : Int32) (v2 : Int32)  {r : Int32} {Mr : Mem} : ∀ (k : Nat) (v3 : Int32) (v4 : Int32) (v5 : Int32) (M : Mem) (K8 : Int32 → Int32 → Int32 → Mem → Option Ret), f_X0_isLooser_L8 v1 v2 k v3 v4 v5 M K8 = some (r, Mr) → (∀ (v3 : Int32) (v4 : Int32) (v5 : Int32) (M : Mem), K8 v3 v4 v5 M = some (r, Mr) → AT l g RX0 cX0_isLooser 8 (some .boolean) (rmM 1 24) (PI r Mr) 78 [some (.ref (g.1 9)), some (.int v1), some (.int v2), some (.int v3), some (.int v4), some (.int v5), none, none] [] M) → AT l g RX0 cX0_isLooser 8 (some .boolean) (rmM 1 24) (PI r Mr) 8 [some (.ref (g.1 9)), some (.int v1), some (.int v2), some (.int v3), some (.int v4), some (.int v5), none, none] [] M
  | 0, v3, v4, v5, M, K8, h, hK8 => by cases h
  | k8 + 1, v3, v4, v5, M, K8, h, hK8 => by
    have ih8 := f_X0_isLooser_L8_ok (l := l) (g := g) v1 v2 (r := r) (Mr := Mr) k8
    rw [f_X0_isLooser_L8] at h
    refine A_iload dX0_isLooser_8 rfl ?_
    refine A_bipush (v := 8) dX0_isLooser_10 (by decide) ?_
    refine A_icmp_ge dX0_isLooser_12 (fun hc => ?_) (fun hc => ?_)
    · have h := gT_go hc h
      exact A_le (lvLe_s (lvLe_s (lvLe_s (lvLe_s (lvLe_s (lvLe_s (lvLe_n (lvLe_n lvLe_0)))))))) (hK8 _ _ _ _ h)
    · have h := gF_go hc h
      refine A_aload_n dX0_isLooser_15 rfl ?_
      refine A_iload dX0_isLooser_16 rfl ?_
      refine A_iload_n dX0_isLooser_18 rfl ?_
      obtain ⟨r2, M1, h1, h⟩ := bE_go h
      refine A_cVi2 dX0_isLooser_19 ml_X0_56 mb_X0_efficiencyOf mi_X0_efficiencyOf ob9 rfl rfl ⟨Nat.le_of_ble_eq_true rfl, Nat.le_of_ble_eq_true rfl⟩ (Nat.le_of_ble_eq_true rfl) (ok_X0_efficiencyOf h1) ?_
      refine A_istore6 dX0_isLooser_22 (by decide) rfl ?_
      refine A_aload_n dX0_isLooser_24 rfl ?_
      refine A_iload dX0_isLooser_25 rfl ?_
      refine A_iload_n dX0_isLooser_27 rfl ?_
      obtain ⟨r4, M3, h1, h⟩ := bE_go h
      refine A_cVi2 dX0_isLooser_28 ml_X0_56 mb_X0_efficiencyOf mi_X0_efficiencyOf ob9 rfl rfl ⟨Nat.le_of_ble_eq_true rfl, Nat.le_of_ble_eq_true rfl⟩ (Nat.le_of_ble_eq_true rfl) (ok_X0_efficiencyOf h1) ?_
      refine A_istore7 dX0_isLooser_31 (by decide) rfl ?_
      refine A_iload dX0_isLooser_33 rfl ?_
      refine A_iconst (v := -1) dX0_isLooser_35 (by decide) ?_
      obtain ⟨J5, hJ5, h⟩ := jn_go h
      have JJ5 : ∀ (y6 : Int32) (y7 : Int32), J5 y6 y7 = some (r, Mr) → AT l g RX0 cX0_isLooser 8 (some .boolean) (rmM 1 24) (PI r Mr) 72 [some (.ref (g.1 9)), some (.int v1), some (.int v2), some (.int y6), some (.int y7), some (.int v5), some (.int r2), some (.int r4)] [] M3 := by
        intro y6 y7 h
        rw [hJ5] at h
        refine A_iinc5 (d := 1) dX0_isLooser_72 (by decide) (by decide) rfl ?_
        refine A_goto dX0_isLooser_75 ?_
        exact A_le (lvLe_s (lvLe_s (lvLe_s (lvLe_s (lvLe_s (lvLe_s (lvLe_n (lvLe_n lvLe_0)))))))) (ih8 _ _ _ _ K8 h hK8)
      refine A_icmp_eq dX0_isLooser_36 (fun hc => ?_) (fun hc => ?_)
      · have h := gT_go hc h
        exact A_le (lvLe_s (lvLe_s (lvLe_s (lvLe_s (lvLe_s (lvLe_s (lvLe_s (lvLe_s lvLe_0)))))))) (JJ5 _ _ h)
      · have h := gF_go hc h
        refine A_iload dX0_isLooser_39 rfl ?_
        refine A_iconst (v := -1) dX0_isLooser_41 (by decide) ?_
        refine A_icmp_eq dX0_isLooser_42 (fun hc => ?_) (fun hc => ?_)
        · have h := gT_go hc h
          exact A_le (lvLe_s (lvLe_s (lvLe_s (lvLe_s (lvLe_s (lvLe_s (lvLe_s (lvLe_s lvLe_0)))))))) (JJ5 _ _ h)
        · have h := gF_go hc h
          refine A_iload dX0_isLooser_45 rfl ?_
          refine A_iload dX0_isLooser_47 rfl ?_
          refine A_icmp_eq dX0_isLooser_49 (fun hc => ?_) (fun hc => ?_)
          · have h := gT_go hc h
            exact A_le (lvLe_s (lvLe_s (lvLe_s (lvLe_s (lvLe_s (lvLe_s (lvLe_s (lvLe_s lvLe_0)))))))) (JJ5 _ _ h)
          · have h := gF_go hc h
            refine A_iinc3 (d := 1) dX0_isLooser_52 (by decide) (by decide) rfl ?_
            refine A_iload dX0_isLooser_55 rfl ?_
            refine A_iload dX0_isLooser_57 rfl ?_
            refine A_iload dX0_isLooser_59 rfl ?_
            obtain ⟨J8, hJ8, h⟩ := jn_go h
            have JJ8 : ∀ (z9 : Int32), J8 z9 = some (r, Mr) → AT l g RX0 cX0_isLooser 8 (some .boolean) (rmM 1 24) (PI r Mr) 69 [some (.ref (g.1 9)), some (.int v1), some (.int v2), some (.int (v3 + (1 : Int32))), some (.int v4), some (.int v5), some (.int r2), some (.int r4)] [.int z9, .int v4] M3 := by
              intro z9 h
              rw [hJ8] at h
              refine A_iadd dX0_isLooser_69 ?_
              refine A_istore4 dX0_isLooser_70 (by decide) rfl (bI_go h (G := fun z => AT l g RX0 cX0_isLooser 8 (some .boolean) (rmM 1 24) (PI r Mr) 72 [some (.ref (g.1 9)), some (.int v1), some (.int v2), some (.int (v3 + (1 : Int32))), some (.int z), some (.int v5), some (.int r2), some (.int r4)] [] M3) (fun x10 h => ?_))
              exact A_le (lvLe_s (lvLe_s (lvLe_s (lvLe_s (lvLe_s (lvLe_s (lvLe_s (lvLe_s lvLe_0)))))))) (JJ5 _ _ h)
            refine A_icmp_le dX0_isLooser_61 (fun hc => ?_) (fun hc => ?_)
            · have h := gT_go hc h
              refine A_iconst (v := 0) dX0_isLooser_68 (by decide) ?_
              exact A_le (lvLe_s (lvLe_s (lvLe_s (lvLe_s (lvLe_s (lvLe_s (lvLe_s (lvLe_s lvLe_0)))))))) (JJ8 _ h)
            · have h := gF_go hc h
              refine A_iconst (v := 1) dX0_isLooser_64 (by decide) ?_
              refine A_goto dX0_isLooser_65 ?_
              exact A_le (lvLe_s (lvLe_s (lvLe_s (lvLe_s (lvLe_s (lvLe_s (lvLe_s (lvLe_s lvLe_0)))))))) (JJ8 _ h)
def f_X0_isLooser (v1 : Int32) (v2 : Int32) (M : Mem) : Option Ret := f_X0_isLooser_L8 v1 v2 FU (0 : Int32) (0 : Int32) (0 : Int32) M (fun w11 w12 w13 M14 => jn (α := Int32 → Mem → Option Ret) (fun (z16 : Int32) (M17 : Mem) => gZ z16 (some (z16, M17))) (fun J15 => if w11 ≤ 0 then (J15 (0 : Int32) M14) else (bE (f_X0_waysToChoose w12 w11 M14) (fun r19 M18 => if ((1 : Int32) <<< (w11 &&& 31)) < ((20 : Int32) * r19) then (J15 (0 : Int32) M18) else (J15 (1 : Int32) M18)))))
set_option maxRecDepth 100000 in
theorem ok_X0_isLooser {l : Launch} {g : Cx} {v1 : Int32} {v2 : Int32} {M : Mem} {r : Int32} {Mr : Mem} (h : f_X0_isLooser v1 v2 M = some (r, Mr)) : CT l g yX0_isLooser cX0_isLooser 8 (some .boolean) 1 24 [.ref (g.1 9), .int v1, .int v2] M (PI r Mr) := by
  refine CT_of (lv := [some (.ref (g.1 9)), some (.int v1), some (.int v2), none, none, none, none, none]) (by decide) rfl (Nat.le_of_ble_eq_true rfl) ?_
  unfold f_X0_isLooser at h
  refine A_iconst (v := 0) dX0_isLooser_0 (by decide) ?_
  refine A_istoren3 dX0_isLooser_1 (by decide) rfl ?_
  refine A_iconst (v := 0) dX0_isLooser_2 (by decide) ?_
  refine A_istore4 dX0_isLooser_3 (by decide) rfl ?_
  refine A_iconst (v := 0) dX0_isLooser_5 (by decide) ?_
  refine A_istore5 dX0_isLooser_6 (by decide) rfl ?_
  refine f_X0_isLooser_L8_ok _ _ FU _ _ _ _ _ h (fun w11 w12 w13 M14 h => ?_)
  refine A_iload_n dX0_isLooser_78 rfl ?_
  obtain ⟨J15, hJ15, h⟩ := jn_go h
  have JJ15 : ∀ (z16 : Int32) (M17 : Mem), J15 z16 M17 = some (r, Mr) → AT l g RX0 cX0_isLooser 8 (some .boolean) (rmM 1 24) (PI r Mr) 102 [some (.ref (g.1 9)), some (.int v1), some (.int v2), some (.int w11), some (.int w12), some (.int w13), none, none] [.int z16] M17 := by
    intro z16 M17 h
    rw [hJ15] at h
    obtain ⟨hg, h⟩ := gZ_go h
    exact A_zret dX0_isLooser_102 hg (pI_go h)
  refine A_if_le dX0_isLooser_79 (fun hc => ?_) (fun hc => ?_)
  · have h := gT_go hc h
    refine A_iconst (v := 0) dX0_isLooser_101 (by decide) ?_
    exact A_le (lvLe_s (lvLe_s (lvLe_s (lvLe_s (lvLe_s (lvLe_s (lvLe_n (lvLe_n lvLe_0)))))))) (JJ15 _ _ h)
  · have h := gF_go hc h
    refine A_bipush (v := 20) dX0_isLooser_82 (by decide) ?_
    refine A_iload dX0_isLooser_84 rfl ?_
    refine A_iload_n dX0_isLooser_86 rfl ?_
    obtain ⟨r19, M18, h1, h⟩ := bE_go h
    refine A_cSi2 dX0_isLooser_87 ml_X0_60 mb_X0_waysToChoose ms_X0_waysToChoose ⟨Nat.le_of_ble_eq_true rfl, Nat.le_of_ble_eq_true rfl⟩ (Nat.le_of_ble_eq_true rfl) (ok_X0_waysToChoose h1) ?_
    refine A_imul dX0_isLooser_90 ?_
    refine A_iconst (v := 1) dX0_isLooser_91 (by decide) ?_
    refine A_iload_n dX0_isLooser_92 rfl ?_
    refine A_ishl dX0_isLooser_93 ?_
    refine A_icmp_gt dX0_isLooser_94 (fun hc => ?_) (fun hc => ?_)
    · have h := gT_go hc h
      refine A_iconst (v := 0) dX0_isLooser_101 (by decide) ?_
      exact A_le (lvLe_s (lvLe_s (lvLe_s (lvLe_s (lvLe_s (lvLe_s (lvLe_n (lvLe_n lvLe_0)))))))) (JJ15 _ _ h)
    · have h := gF_go hc h
      refine A_iconst (v := 1) dX0_isLooser_97 (by decide) ?_
      refine A_goto dX0_isLooser_98 ?_
      exact A_le (lvLe_s (lvLe_s (lvLe_s (lvLe_s (lvLe_s (lvLe_s (lvLe_n (lvLe_n lvLe_0)))))))) (JJ15 _ _ h)
-- BenchTimes$Doubt.reckonScores
theorem dX0_reckonScores_0 : di cX0_reckonScores 0 (.aload_n 0) 1 1 := ⟨by decide +kernel, rfl⟩
theorem dX0_reckonScores_1 : di cX0_reckonScores 1 (.getfield 19) 3 4 := ⟨by decide +kernel, rfl⟩
theorem dX0_reckonScores_4 : di cX0_reckonScores 4 (.iconst 0) 1 5 := ⟨by decide +kernel, rfl⟩
theorem dX0_reckonScores_5 : di cX0_reckonScores 5 (.invokestatic 32) 3 8 := ⟨by decide +kernel, rfl⟩
theorem dX0_reckonScores_8 : di cX0_reckonScores 8 (.iconst 0) 1 9 := ⟨by decide +kernel, rfl⟩
theorem dX0_reckonScores_9 : di cX0_reckonScores 9 (.istore_n 1) 1 10 := ⟨by decide +kernel, rfl⟩
theorem dX0_reckonScores_10 : di cX0_reckonScores 10 (.iload_n 1) 1 11 := ⟨by decide +kernel, rfl⟩
theorem dX0_reckonScores_11 : di cX0_reckonScores 11 (.bipush 8) 2 13 := ⟨by decide +kernel, rfl⟩
theorem dX0_reckonScores_13 : dj cX0_reckonScores 13 (.if_icmp .ge) 16 70 := ⟨57, by decide +kernel, rfl, rfl⟩
theorem dX0_reckonScores_16 : di cX0_reckonScores 16 (.iconst 0) 1 17 := ⟨by decide +kernel, rfl⟩
theorem dX0_reckonScores_17 : di cX0_reckonScores 17 (.istore_n 2) 1 18 := ⟨by decide +kernel, rfl⟩
theorem dX0_reckonScores_18 : di cX0_reckonScores 18 (.iload_n 2) 1 19 := ⟨by decide +kernel, rfl⟩
theorem dX0_reckonScores_19 : di cX0_reckonScores 19 (.bipush 8) 2 21 := ⟨by decide +kernel, rfl⟩
theorem dX0_reckonScores_21 : dj cX0_reckonScores 21 (.if_icmp .ge) 24 64 := ⟨43, by decide +kernel, rfl, rfl⟩
theorem dX0_reckonScores_24 : di cX0_reckonScores 24 (.iload_n 1) 1 25 := ⟨by decide +kernel, rfl⟩
theorem dX0_reckonScores_25 : di cX0_reckonScores 25 (.iload_n 2) 1 26 := ⟨by decide +kernel, rfl⟩
theorem dX0_reckonScores_26 : dj cX0_reckonScores 26 (.if_icmp .eq) 29 58 := ⟨32, by decide +kernel, rfl, rfl⟩
theorem dX0_reckonScores_29 : di cX0_reckonScores 29 (.aload_n 0) 1 30 := ⟨by decide +kernel, rfl⟩
theorem dX0_reckonScores_30 : di cX0_reckonScores 30 (.iload_n 1) 1 31 := ⟨by decide +kernel, rfl⟩
theorem dX0_reckonScores_31 : di cX0_reckonScores 31 (.iload_n 2) 1 32 := ⟨by decide +kernel, rfl⟩
theorem dX0_reckonScores_32 : di cX0_reckonScores 32 (.invokevirtual 73) 3 35 := ⟨by decide +kernel, rfl⟩
theorem dX0_reckonScores_35 : dj cX0_reckonScores 35 (.ifCond .eq) 38 58 := ⟨23, by decide +kernel, rfl, rfl⟩
theorem dX0_reckonScores_38 : di cX0_reckonScores 38 (.aload_n 0) 1 39 := ⟨by decide +kernel, rfl⟩
theorem dX0_reckonScores_39 : di cX0_reckonScores 39 (.getfield 19) 3 42 := ⟨by decide +kernel, rfl⟩
theorem dX0_reckonScores_42 : di cX0_reckonScores 42 (.iload_n 1) 1 43 := ⟨by decide +kernel, rfl⟩
theorem dX0_reckonScores_43 : di cX0_reckonScores 43 (.dup2) 1 44 := ⟨by decide +kernel, rfl⟩
theorem dX0_reckonScores_44 : di cX0_reckonScores 44 (.iaload) 1 45 := ⟨by decide +kernel, rfl⟩
theorem dX0_reckonScores_45 : di cX0_reckonScores 45 (.iconst 1) 1 46 := ⟨by decide +kernel, rfl⟩
theorem dX0_reckonScores_46 : di cX0_reckonScores 46 (.iadd) 1 47 := ⟨by decide +kernel, rfl⟩
theorem dX0_reckonScores_47 : di cX0_reckonScores 47 (.iastore) 1 48 := ⟨by decide +kernel, rfl⟩
theorem dX0_reckonScores_48 : di cX0_reckonScores 48 (.aload_n 0) 1 49 := ⟨by decide +kernel, rfl⟩
theorem dX0_reckonScores_49 : di cX0_reckonScores 49 (.getfield 19) 3 52 := ⟨by decide +kernel, rfl⟩
theorem dX0_reckonScores_52 : di cX0_reckonScores 52 (.iload_n 2) 1 53 := ⟨by decide +kernel, rfl⟩
theorem dX0_reckonScores_53 : di cX0_reckonScores 53 (.dup2) 1 54 := ⟨by decide +kernel, rfl⟩
theorem dX0_reckonScores_54 : di cX0_reckonScores 54 (.iaload) 1 55 := ⟨by decide +kernel, rfl⟩
theorem dX0_reckonScores_55 : di cX0_reckonScores 55 (.iconst 1) 1 56 := ⟨by decide +kernel, rfl⟩
theorem dX0_reckonScores_56 : di cX0_reckonScores 56 (.isub) 1 57 := ⟨by decide +kernel, rfl⟩
theorem dX0_reckonScores_57 : di cX0_reckonScores 57 (.iastore) 1 58 := ⟨by decide +kernel, rfl⟩
theorem dX0_reckonScores_58 : di cX0_reckonScores 58 (.iinc 2 1) 3 61 := ⟨by decide +kernel, rfl⟩
theorem dX0_reckonScores_61 : dj cX0_reckonScores 61 .goto 64 18 := ⟨-43, by decide +kernel, rfl, rfl⟩
theorem dX0_reckonScores_64 : di cX0_reckonScores 64 (.iinc 1 1) 3 67 := ⟨by decide +kernel, rfl⟩
theorem dX0_reckonScores_67 : dj cX0_reckonScores 67 .goto 70 10 := ⟨-57, by decide +kernel, rfl, rfl⟩
theorem dX0_reckonScores_70 : di cX0_reckonScores 70 (.return_) 1 71 := ⟨by decide +kernel, rfl⟩
def f_X0_reckonScores_L18 (v1 : Int32) : Nat → Int32 → Mem → (Int32 → Mem → Option Ret) → Option Ret
  | 0, _, _, _ => none
  | k18 + 1, v2, M, K18 => if (8 : Int32) ≤ v2 then (K18 v2 M) else (jn (α := Mem → Option Ret) (fun (M4 : Mem) => f_X0_reckonScores_L18 v1 k18 (v2 + (1 : Int32)) M4 K18) (fun J3 => if v1 = v2 then (J3 M) else (bE (f_X0_isLooser v1 v2 M) (fun r6 M5 => if r6 = 0 then (J3 M5) else (gV v1 8 (gV v1 8 (bM (up2 M5 47 v1.toNatClampNeg ((M5.1 47 v1.toNatClampNeg) + (1 : Int32))) (fun M7 => gV v2 8 (gV v2 8 (bM (up2 M7 47 v2.toNatClampNeg ((M7.1 47 v2.toNatClampNeg) - (1 : Int32))) (fun M8 => J3 M8)))))))))))
set_option maxRecDepth 100000 in
theorem f_X0_reckonScores_L18_ok {l : Launch} {g : Cx} (v1 : Int32)  {r : Int32} {Mr : Mem} : ∀ (k : Nat) (v2 : Int32) (M : Mem) (K18 : Int32 → Mem → Option Ret), f_X0_reckonScores_L18 v1 k v2 M K18 = some (r, Mr) → (∀ (v2 : Int32) (M : Mem), K18 v2 M = some (r, Mr) → AT l g RX0 cX0_reckonScores 3 none (rmM 2 51) (PV r Mr) 64 [some (.ref (g.1 9)), some (.int v1), some (.int v2)] [] M) → AT l g RX0 cX0_reckonScores 3 none (rmM 2 51) (PV r Mr) 18 [some (.ref (g.1 9)), some (.int v1), some (.int v2)] [] M
  | 0, v2, M, K18, h, hK18 => by cases h
  | k18 + 1, v2, M, K18, h, hK18 => by
    have ih18 := f_X0_reckonScores_L18_ok (l := l) (g := g) v1 (r := r) (Mr := Mr) k18
    rw [f_X0_reckonScores_L18] at h
    refine A_iload_n dX0_reckonScores_18 rfl ?_
    refine A_bipush (v := 8) dX0_reckonScores_19 (by decide) ?_
    refine A_icmp_ge dX0_reckonScores_21 (fun hc => ?_) (fun hc => ?_)
    · have h := gT_go hc h
      exact A_le (lvLe_s (lvLe_s (lvLe_s lvLe_0))) (hK18 _ _ h)
    · have h := gF_go hc h
      refine A_iload_n dX0_reckonScores_24 rfl ?_
      refine A_iload_n dX0_reckonScores_25 rfl ?_
      obtain ⟨J3, hJ3, h⟩ := jn_go h
      have JJ3 : ∀ (M4 : Mem), J3 M4 = some (r, Mr) → AT l g RX0 cX0_reckonScores 3 none (rmM 2 51) (PV r Mr) 58 [some (.ref (g.1 9)), some (.int v1), some (.int v2)] [] M4 := by
        intro M4 h
        rw [hJ3] at h
        refine A_iinc2 (d := 1) dX0_reckonScores_58 (by decide) (by decide) rfl ?_
        refine A_goto dX0_reckonScores_61 ?_
        exact A_le (lvLe_s (lvLe_s (lvLe_s lvLe_0))) (ih18 _ _ K18 h hK18)
      refine A_icmp_eq dX0_reckonScores_26 (fun hc => ?_) (fun hc => ?_)
      · have h := gT_go hc h
        exact A_le (lvLe_s (lvLe_s (lvLe_s lvLe_0))) (JJ3 _ h)
      · have h := gF_go hc h
        refine A_aload_n dX0_reckonScores_29 rfl ?_
        refine A_iload_n dX0_reckonScores_30 rfl ?_
        refine A_iload_n dX0_reckonScores_31 rfl ?_
        obtain ⟨r6, M5, h1, h⟩ := bE_go h
        refine A_cVi2 dX0_reckonScores_32 ml_X0_73 mb_X0_isLooser mi_X0_isLooser ob9 rfl rfl ⟨Nat.le_of_ble_eq_true rfl, Nat.le_of_ble_eq_true rfl⟩ (Nat.le_of_ble_eq_true rfl) (ok_X0_isLooser h1) ?_
        refine A_if_eq dX0_reckonScores_35 (fun hc => ?_) (fun hc => ?_)
        · have h := gT_go hc h
          exact A_le (lvLe_s (lvLe_s (lvLe_s lvLe_0))) (JJ3 _ h)
        · have h := gF_go hc h
          refine A_aload_n dX0_reckonScores_38 rfl ?_
          refine A_getf dX0_reckonScores_39 fw_X0_19 ob9 rfl ?_
          refine A_iload_n dX0_reckonScores_42 rfl ?_
          refine A_dup2 dX0_reckonScores_43 rfl rfl ?_
          obtain ⟨hg, h⟩ := gV_go h
          refine A_iald dX0_reckonScores_44 ia47 hg ?_
          refine A_iconst (v := 1) dX0_reckonScores_45 (by decide) ?_
          refine A_iadd dX0_reckonScores_46 ?_
          obtain ⟨hg, h⟩ := gV_go h
          refine A_iast dX0_reckonScores_47 ia47 hg (bM_go h (fun M7 h => ?_))
          refine A_aload_n dX0_reckonScores_48 rfl ?_
          refine A_getf dX0_reckonScores_49 fw_X0_19 ob9 rfl ?_
          refine A_iload_n dX0_reckonScores_52 rfl ?_
          refine A_dup2 dX0_reckonScores_53 rfl rfl ?_
          obtain ⟨hg, h⟩ := gV_go h
          refine A_iald dX0_reckonScores_54 ia47 hg ?_
          refine A_iconst (v := 1) dX0_reckonScores_55 (by decide) ?_
          refine A_isub dX0_reckonScores_56 ?_
          obtain ⟨hg, h⟩ := gV_go h
          refine A_iast dX0_reckonScores_57 ia47 hg (bM_go h (fun M8 h => ?_))
          exact A_le (lvLe_s (lvLe_s (lvLe_s lvLe_0))) (JJ3 _ h)
def f_X0_reckonScores_L10  : Nat → Int32 → Mem → (Int32 → Mem → Option Ret) → Option Ret
  | 0, _, _, _ => none
  | k10 + 1, v1, M, K10 => if (8 : Int32) ≤ v1 then (K10 v1 M) else (f_X0_reckonScores_L18 v1 FU (0 : Int32) M (fun w9 M10 => f_X0_reckonScores_L10  k10 (v1 + (1 : Int32)) M10 K10))
set_option maxRecDepth 100000 in
theorem f_X0_reckonScores_L10_ok {l : Launch} {g : Cx}   {r : Int32} {Mr : Mem} : ∀ (k : Nat) (v1 : Int32) (M : Mem) (K10 : Int32 → Mem → Option Ret), f_X0_reckonScores_L10  k v1 M K10 = some (r, Mr) → (∀ (v1 : Int32) (M : Mem), K10 v1 M = some (r, Mr) → AT l g RX0 cX0_reckonScores 3 none (rmM 2 51) (PV r Mr) 70 [some (.ref (g.1 9)), some (.int v1), none] [] M) → AT l g RX0 cX0_reckonScores 3 none (rmM 2 51) (PV r Mr) 10 [some (.ref (g.1 9)), some (.int v1), none] [] M
  | 0, v1, M, K10, h, hK10 => by cases h
  | k10 + 1, v1, M, K10, h, hK10 => by
    have ih10 := f_X0_reckonScores_L10_ok (l := l) (g := g)  (r := r) (Mr := Mr) k10
    rw [f_X0_reckonScores_L10] at h
    refine A_iload_n dX0_reckonScores_10 rfl ?_
    refine A_bipush (v := 8) dX0_reckonScores_11 (by decide) ?_
    refine A_icmp_ge dX0_reckonScores_13 (fun hc => ?_) (fun hc => ?_)
    · have h := gT_go hc h
      exact A_le (lvLe_s (lvLe_s (lvLe_n lvLe_0))) (hK10 _ _ h)
    · have h := gF_go hc h
      refine A_iconst (v := 0) dX0_reckonScores_16 (by decide) ?_
      refine A_istoren2 dX0_reckonScores_17 (by decide) rfl ?_
      refine f_X0_reckonScores_L18_ok _ FU _ _ _ h (fun w9 M10 h => ?_)
      refine A_iinc1 (d := 1) dX0_reckonScores_64 (by decide) (by decide) rfl ?_
      refine A_goto dX0_reckonScores_67 ?_
      exact A_le (lvLe_s (lvLe_s (lvLe_n lvLe_0))) (ih10 _ _ K10 h hK10)
def f_X0_reckonScores  (M : Mem) : Option Ret := bE (f_J7_fill_53178 47 8 (0 : Int32) M) (fun r2 M1 => f_X0_reckonScores_L10  FU (0 : Int32) M1 (fun w11 M12 => some (0, M12)))
set_option maxRecDepth 100000 in
theorem ok_X0_reckonScores {l : Launch} {g : Cx}  {M : Mem} {r : Int32} {Mr : Mem} (h : f_X0_reckonScores  M = some (r, Mr)) : CT l g yX0_reckonScores cX0_reckonScores 3 none 2 51 [.ref (g.1 9)] M (PV r Mr) := by
  refine CT_of (lv := [some (.ref (g.1 9)), none, none]) (by decide) rfl (Nat.le_of_ble_eq_true rfl) ?_
  unfold f_X0_reckonScores at h
  refine A_aload_n dX0_reckonScores_0 rfl ?_
  refine A_getf dX0_reckonScores_1 fw_X0_19 ob9 rfl ?_
  refine A_iconst (v := 0) dX0_reckonScores_4 (by decide) ?_
  obtain ⟨r2, M1, h1, h⟩ := bE_go h
  refine A_cSv2 dX0_reckonScores_5 ml_X0_32 mb_J7_fill_53178 ms_J7_fill_53178 ⟨Nat.le_of_ble_eq_true rfl, Nat.le_of_ble_eq_true rfl⟩ (Nat.le_of_ble_eq_true rfl) (ok_J7_fill_53178 ia47 h1) ?_
  refine A_iconst (v := 0) dX0_reckonScores_8 (by decide) ?_
  refine A_istoren1 dX0_reckonScores_9 (by decide) rfl ?_
  refine f_X0_reckonScores_L10_ok  FU _ _ _ h (fun w11 M12 h => ?_)
  exact A_vret dX0_reckonScores_70 (pV_go h)
-- BenchTimes$Doubt.hasRows
theorem dX0_hasRows_0 : di cX0_hasRows 0 (.iconst 0) 1 1 := ⟨by decide +kernel, rfl⟩
theorem dX0_hasRows_1 : di cX0_hasRows 1 (.istore_n 2) 1 2 := ⟨by decide +kernel, rfl⟩
theorem dX0_hasRows_2 : di cX0_hasRows 2 (.iload_n 2) 1 3 := ⟨by decide +kernel, rfl⟩
theorem dX0_hasRows_3 : di cX0_hasRows 3 (.bipush 8) 2 5 := ⟨by decide +kernel, rfl⟩
theorem dX0_hasRows_5 : dj cX0_hasRows 5 (.if_icmp .ge) 8 30 := ⟨25, by decide +kernel, rfl, rfl⟩
theorem dX0_hasRows_8 : di cX0_hasRows 8 (.aload_n 0) 1 9 := ⟨by decide +kernel, rfl⟩
theorem dX0_hasRows_9 : di cX0_hasRows 9 (.getfield 15) 3 12 := ⟨by decide +kernel, rfl⟩
theorem dX0_hasRows_12 : di cX0_hasRows 12 (.iload_n 2) 1 13 := ⟨by decide +kernel, rfl⟩
theorem dX0_hasRows_13 : di cX0_hasRows 13 (.bipush 8) 2 15 := ⟨by decide +kernel, rfl⟩
theorem dX0_hasRows_15 : di cX0_hasRows 15 (.imul) 1 16 := ⟨by decide +kernel, rfl⟩
theorem dX0_hasRows_16 : di cX0_hasRows 16 (.iload_n 1) 1 17 := ⟨by decide +kernel, rfl⟩
theorem dX0_hasRows_17 : di cX0_hasRows 17 (.iadd) 1 18 := ⟨by decide +kernel, rfl⟩
theorem dX0_hasRows_18 : di cX0_hasRows 18 (.iaload) 1 19 := ⟨by decide +kernel, rfl⟩
theorem dX0_hasRows_19 : dj cX0_hasRows 19 (.ifCond .le) 22 24 := ⟨5, by decide +kernel, rfl, rfl⟩
theorem dX0_hasRows_22 : di cX0_hasRows 22 (.iconst 1) 1 23 := ⟨by decide +kernel, rfl⟩
theorem dX0_hasRows_23 : di cX0_hasRows 23 (.ireturn) 1 24 := ⟨by decide +kernel, rfl⟩
theorem dX0_hasRows_24 : di cX0_hasRows 24 (.iinc 2 1) 3 27 := ⟨by decide +kernel, rfl⟩
theorem dX0_hasRows_27 : dj cX0_hasRows 27 .goto 30 2 := ⟨-25, by decide +kernel, rfl, rfl⟩
theorem dX0_hasRows_30 : di cX0_hasRows 30 (.iconst 0) 1 31 := ⟨by decide +kernel, rfl⟩
theorem dX0_hasRows_31 : di cX0_hasRows 31 (.ireturn) 1 32 := ⟨by decide +kernel, rfl⟩
def f_X0_hasRows_L2 (v1 : Int32) : Nat → Int32 → Mem → (Int32 → Mem → Option Ret) → Option Ret
  | 0, _, _, _ => none
  | k2 + 1, v2, M, K2 => if (8 : Int32) ≤ v2 then (K2 v2 M) else (gV ((v2 * (8 : Int32)) + v1) 64 (if (M.1 46 ((v2 * (8 : Int32)) + v1).toNatClampNeg) ≤ 0 then (f_X0_hasRows_L2 v1 k2 (v2 + (1 : Int32)) M K2) else (some ((1 : Int32), M))))
set_option maxRecDepth 100000 in
theorem f_X0_hasRows_L2_ok {l : Launch} {g : Cx} (v1 : Int32)  {r : Int32} {Mr : Mem} : ∀ (k : Nat) (v2 : Int32) (M : Mem) (K2 : Int32 → Mem → Option Ret), f_X0_hasRows_L2 v1 k v2 M K2 = some (r, Mr) → (∀ (v2 : Int32) (M : Mem), K2 v2 M = some (r, Mr) → AT l g RX0 cX0_hasRows 3 (some .boolean) (rmM 0 0) (PI r Mr) 30 [some (.ref (g.1 9)), some (.int v1), some (.int v2)] [] M) → AT l g RX0 cX0_hasRows 3 (some .boolean) (rmM 0 0) (PI r Mr) 2 [some (.ref (g.1 9)), some (.int v1), some (.int v2)] [] M
  | 0, v2, M, K2, h, hK2 => by cases h
  | k2 + 1, v2, M, K2, h, hK2 => by
    have ih2 := f_X0_hasRows_L2_ok (l := l) (g := g) v1 (r := r) (Mr := Mr) k2
    rw [f_X0_hasRows_L2] at h
    refine A_iload_n dX0_hasRows_2 rfl ?_
    refine A_bipush (v := 8) dX0_hasRows_3 (by decide) ?_
    refine A_icmp_ge dX0_hasRows_5 (fun hc => ?_) (fun hc => ?_)
    · have h := gT_go hc h
      exact A_le (lvLe_s (lvLe_s (lvLe_s lvLe_0))) (hK2 _ _ h)
    · have h := gF_go hc h
      refine A_aload_n dX0_hasRows_8 rfl ?_
      refine A_getf dX0_hasRows_9 fw_X0_15 ob9 rfl ?_
      refine A_iload_n dX0_hasRows_12 rfl ?_
      refine A_bipush (v := 8) dX0_hasRows_13 (by decide) ?_
      refine A_imul dX0_hasRows_15 ?_
      refine A_iload_n dX0_hasRows_16 rfl ?_
      refine A_iadd dX0_hasRows_17 ?_
      obtain ⟨hg, h⟩ := gV_go h
      refine A_iald dX0_hasRows_18 ia46 hg ?_
      refine A_if_le dX0_hasRows_19 (fun hc => ?_) (fun hc => ?_)
      · have h := gT_go hc h
        refine A_iinc2 (d := 1) dX0_hasRows_24 (by decide) (by decide) rfl ?_
        refine A_goto dX0_hasRows_27 ?_
        exact A_le (lvLe_s (lvLe_s (lvLe_s lvLe_0))) (ih2 _ _ K2 h hK2)
      · have h := gF_go hc h
        refine A_iconst (v := 1) dX0_hasRows_22 (by decide) ?_
        exact A_zret dX0_hasRows_23 (by decide) (pI_go h)
def f_X0_hasRows (v1 : Int32) (M : Mem) : Option Ret := f_X0_hasRows_L2 v1 FU (0 : Int32) M (fun w1 M2 => some ((0 : Int32), M2))
set_option maxRecDepth 100000 in
theorem ok_X0_hasRows {l : Launch} {g : Cx} {v1 : Int32} {M : Mem} {r : Int32} {Mr : Mem} (h : f_X0_hasRows v1 M = some (r, Mr)) : CT l g yX0_hasRows cX0_hasRows 3 (some .boolean) 0 0 [.ref (g.1 9), .int v1] M (PI r Mr) := by
  refine CT_of (lv := [some (.ref (g.1 9)), some (.int v1), none]) (by decide) rfl (Nat.le_of_ble_eq_true rfl) ?_
  unfold f_X0_hasRows at h
  refine A_iconst (v := 0) dX0_hasRows_0 (by decide) ?_
  refine A_istoren2 dX0_hasRows_1 (by decide) rfl ?_
  refine f_X0_hasRows_L2_ok _ FU _ _ _ h (fun w1 M2 h => ?_)
  refine A_iconst (v := 0) dX0_hasRows_30 (by decide) ?_
  exact A_zret dX0_hasRows_31 (by decide) (pI_go h)
-- BenchTimes$Doubt.manyAhead
theorem dX0_manyAhead_0 : di cX0_manyAhead 0 (.iconst 0) 1 1 := ⟨by decide +kernel, rfl⟩
theorem dX0_manyAhead_1 : di cX0_manyAhead 1 (.istore_n 2) 1 2 := ⟨by decide +kernel, rfl⟩
theorem dX0_manyAhead_2 : di cX0_manyAhead 2 (.iconst 0) 1 3 := ⟨by decide +kernel, rfl⟩
theorem dX0_manyAhead_3 : di cX0_manyAhead 3 (.istore_n 3) 1 4 := ⟨by decide +kernel, rfl⟩
theorem dX0_manyAhead_4 : di cX0_manyAhead 4 (.iload_n 3) 1 5 := ⟨by decide +kernel, rfl⟩
theorem dX0_manyAhead_5 : di cX0_manyAhead 5 (.bipush 8) 2 7 := ⟨by decide +kernel, rfl⟩
theorem dX0_manyAhead_7 : dj cX0_manyAhead 7 (.if_icmp .ge) 10 79 := ⟨72, by decide +kernel, rfl, rfl⟩
theorem dX0_manyAhead_10 : di cX0_manyAhead 10 (.aload_n 0) 1 11 := ⟨by decide +kernel, rfl⟩
theorem dX0_manyAhead_11 : di cX0_manyAhead 11 (.getfield 19) 3 14 := ⟨by decide +kernel, rfl⟩
theorem dX0_manyAhead_14 : di cX0_manyAhead 14 (.iload_n 3) 1 15 := ⟨by decide +kernel, rfl⟩
theorem dX0_manyAhead_15 : di cX0_manyAhead 15 (.iaload) 1 16 := ⟨by decide +kernel, rfl⟩
theorem dX0_manyAhead_16 : di cX0_manyAhead 16 (.aload_n 0) 1 17 := ⟨by decide +kernel, rfl⟩
theorem dX0_manyAhead_17 : di cX0_manyAhead 17 (.getfield 19) 3 20 := ⟨by decide +kernel, rfl⟩
theorem dX0_manyAhead_20 : di cX0_manyAhead 20 (.iload_n 1) 1 21 := ⟨by decide +kernel, rfl⟩
theorem dX0_manyAhead_21 : di cX0_manyAhead 21 (.iaload) 1 22 := ⟨by decide +kernel, rfl⟩
theorem dX0_manyAhead_22 : dj cX0_manyAhead 22 (.if_icmp .gt) 25 45 := ⟨23, by decide +kernel, rfl, rfl⟩
theorem dX0_manyAhead_25 : di cX0_manyAhead 25 (.aload_n 0) 1 26 := ⟨by decide +kernel, rfl⟩
theorem dX0_manyAhead_26 : di cX0_manyAhead 26 (.getfield 19) 3 29 := ⟨by decide +kernel, rfl⟩
theorem dX0_manyAhead_29 : di cX0_manyAhead 29 (.iload_n 3) 1 30 := ⟨by decide +kernel, rfl⟩
theorem dX0_manyAhead_30 : di cX0_manyAhead 30 (.iaload) 1 31 := ⟨by decide +kernel, rfl⟩
theorem dX0_manyAhead_31 : di cX0_manyAhead 31 (.aload_n 0) 1 32 := ⟨by decide +kernel, rfl⟩
theorem dX0_manyAhead_32 : di cX0_manyAhead 32 (.getfield 19) 3 35 := ⟨by decide +kernel, rfl⟩
theorem dX0_manyAhead_35 : di cX0_manyAhead 35 (.iload_n 1) 1 36 := ⟨by decide +kernel, rfl⟩
theorem dX0_manyAhead_36 : di cX0_manyAhead 36 (.iaload) 1 37 := ⟨by decide +kernel, rfl⟩
theorem dX0_manyAhead_37 : dj cX0_manyAhead 37 (.if_icmp .ne) 40 49 := ⟨12, by decide +kernel, rfl, rfl⟩
theorem dX0_manyAhead_40 : di cX0_manyAhead 40 (.iload_n 3) 1 41 := ⟨by decide +kernel, rfl⟩
theorem dX0_manyAhead_41 : di cX0_manyAhead 41 (.iload_n 1) 1 42 := ⟨by decide +kernel, rfl⟩
theorem dX0_manyAhead_42 : dj cX0_manyAhead 42 (.if_icmp .ge) 45 49 := ⟨7, by decide +kernel, rfl, rfl⟩
theorem dX0_manyAhead_45 : di cX0_manyAhead 45 (.iconst 1) 1 46 := ⟨by decide +kernel, rfl⟩
theorem dX0_manyAhead_46 : dj cX0_manyAhead 46 .goto 49 50 := ⟨4, by decide +kernel, rfl, rfl⟩
theorem dX0_manyAhead_49 : di cX0_manyAhead 49 (.iconst 0) 1 50 := ⟨by decide +kernel, rfl⟩
theorem dX0_manyAhead_50 : di cX0_manyAhead 50 (.istore 4) 2 52 := ⟨by decide +kernel, rfl⟩
theorem dX0_manyAhead_52 : di cX0_manyAhead 52 (.iload_n 2) 1 53 := ⟨by decide +kernel, rfl⟩
theorem dX0_manyAhead_53 : di cX0_manyAhead 53 (.iload 4) 2 55 := ⟨by decide +kernel, rfl⟩
theorem dX0_manyAhead_55 : dj cX0_manyAhead 55 (.ifCond .eq) 58 70 := ⟨15, by decide +kernel, rfl, rfl⟩
theorem dX0_manyAhead_58 : di cX0_manyAhead 58 (.aload_n 0) 1 59 := ⟨by decide +kernel, rfl⟩
theorem dX0_manyAhead_59 : di cX0_manyAhead 59 (.iload_n 3) 1 60 := ⟨by decide +kernel, rfl⟩
theorem dX0_manyAhead_60 : di cX0_manyAhead 60 (.invokevirtual 66) 3 63 := ⟨by decide +kernel, rfl⟩
theorem dX0_manyAhead_63 : dj cX0_manyAhead 63 (.ifCond .eq) 66 70 := ⟨7, by decide +kernel, rfl, rfl⟩
theorem dX0_manyAhead_66 : di cX0_manyAhead 66 (.iconst 1) 1 67 := ⟨by decide +kernel, rfl⟩
theorem dX0_manyAhead_67 : dj cX0_manyAhead 67 .goto 70 71 := ⟨4, by decide +kernel, rfl, rfl⟩
theorem dX0_manyAhead_70 : di cX0_manyAhead 70 (.iconst 0) 1 71 := ⟨by decide +kernel, rfl⟩
theorem dX0_manyAhead_71 : di cX0_manyAhead 71 (.iadd) 1 72 := ⟨by decide +kernel, rfl⟩
theorem dX0_manyAhead_72 : di cX0_manyAhead 72 (.istore_n 2) 1 73 := ⟨by decide +kernel, rfl⟩
theorem dX0_manyAhead_73 : di cX0_manyAhead 73 (.iinc 3 1) 3 76 := ⟨by decide +kernel, rfl⟩
theorem dX0_manyAhead_76 : dj cX0_manyAhead 76 .goto 79 4 := ⟨-72, by decide +kernel, rfl, rfl⟩
theorem dX0_manyAhead_79 : di cX0_manyAhead 79 (.iload_n 2) 1 80 := ⟨by decide +kernel, rfl⟩
theorem dX0_manyAhead_80 : di cX0_manyAhead 80 (.ireturn) 1 81 := ⟨by decide +kernel, rfl⟩
def f_X0_manyAhead_L4 (v1 : Int32) : Nat → Int32 → Int32 → Mem → (Int32 → Int32 → Mem → Option Ret) → Option Ret
  | 0, _, _, _, _ => none
  | k4 + 1, v2, v3, M, K4 => if (8 : Int32) ≤ v3 then (K4 v2 v3 M) else (gV v3 8 (gV v1 8 (jn (α := Int32 → Option Ret) (fun (z2 : Int32) => jn (α := Int32 → Mem → Option Ret) (fun (z4 : Int32) (M5 : Mem) => bI (v2 + z4) (fun x6 => f_X0_manyAhead_L4 v1 k4 x6 (v3 + (1 : Int32)) M5 K4)) (fun J3 => if z2 = 0 then (J3 (0 : Int32) M) else (bE (f_X0_hasRows v3 M) (fun r8 M7 => if r8 = 0 then (J3 (0 : Int32) M7) else (J3 (1 : Int32) M7))))) (fun J1 => if (M.1 47 v1.toNatClampNeg) < (M.1 47 v3.toNatClampNeg) then (J1 (1 : Int32)) else (gV v3 8 (gV v1 8 (if (M.1 47 v3.toNatClampNeg) = (M.1 47 v1.toNatClampNeg) then (if v1 ≤ v3 then (J1 (0 : Int32)) else (J1 (1 : Int32))) else (J1 (0 : Int32)))))))))
set_option maxRecDepth 100000 in
theorem f_X0_manyAhead_L4_ok {l : Launch} {g : Cx} (v1 : Int32)  {r : Int32} {Mr : Mem} : ∀ (k : Nat) (v2 : Int32) (v3 : Int32) (M : Mem) (K4 : Int32 → Int32 → Mem → Option Ret), f_X0_manyAhead_L4 v1 k v2 v3 M K4 = some (r, Mr) → (∀ (v2 : Int32) (v3 : Int32) (M : Mem), K4 v2 v3 M = some (r, Mr) → AT l g RX0 cX0_manyAhead 5 (some .int) (rmM 1 22) (PI r Mr) 79 [some (.ref (g.1 9)), some (.int v1), some (.int v2), some (.int v3), none] [] M) → AT l g RX0 cX0_manyAhead 5 (some .int) (rmM 1 22) (PI r Mr) 4 [some (.ref (g.1 9)), some (.int v1), some (.int v2), some (.int v3), none] [] M
  | 0, v2, v3, M, K4, h, hK4 => by cases h
  | k4 + 1, v2, v3, M, K4, h, hK4 => by
    have ih4 := f_X0_manyAhead_L4_ok (l := l) (g := g) v1 (r := r) (Mr := Mr) k4
    rw [f_X0_manyAhead_L4] at h
    refine A_iload_n dX0_manyAhead_4 rfl ?_
    refine A_bipush (v := 8) dX0_manyAhead_5 (by decide) ?_
    refine A_icmp_ge dX0_manyAhead_7 (fun hc => ?_) (fun hc => ?_)
    · have h := gT_go hc h
      exact A_le (lvLe_s (lvLe_s (lvLe_s (lvLe_s (lvLe_n lvLe_0))))) (hK4 _ _ _ h)
    · have h := gF_go hc h
      refine A_aload_n dX0_manyAhead_10 rfl ?_
      refine A_getf dX0_manyAhead_11 fw_X0_19 ob9 rfl ?_
      refine A_iload_n dX0_manyAhead_14 rfl ?_
      obtain ⟨hg, h⟩ := gV_go h
      refine A_iald dX0_manyAhead_15 ia47 hg ?_
      refine A_aload_n dX0_manyAhead_16 rfl ?_
      refine A_getf dX0_manyAhead_17 fw_X0_19 ob9 rfl ?_
      refine A_iload_n dX0_manyAhead_20 rfl ?_
      obtain ⟨hg, h⟩ := gV_go h
      refine A_iald dX0_manyAhead_21 ia47 hg ?_
      obtain ⟨J1, hJ1, h⟩ := jn_go h
      have JJ1 : ∀ (z2 : Int32), J1 z2 = some (r, Mr) → AT l g RX0 cX0_manyAhead 5 (some .int) (rmM 1 22) (PI r Mr) 50 [some (.ref (g.1 9)), some (.int v1), some (.int v2), some (.int v3), none] [.int z2] M := by
        intro z2 h
        rw [hJ1] at h
        refine A_istore4 dX0_manyAhead_50 (by decide) rfl ?_
        refine A_iload_n dX0_manyAhead_52 rfl ?_
        refine A_iload dX0_manyAhead_53 rfl ?_
        obtain ⟨J3, hJ3, h⟩ := jn_go h
        have JJ3 : ∀ (z4 : Int32) (M5 : Mem), J3 z4 M5 = some (r, Mr) → AT l g RX0 cX0_manyAhead 5 (some .int) (rmM 1 22) (PI r Mr) 71 [some (.ref (g.1 9)), some (.int v1), some (.int v2), some (.int v3), some (.int z2)] [.int z4, .int v2] M5 := by
          intro z4 M5 h
          rw [hJ3] at h
          refine A_iadd dX0_manyAhead_71 ?_
          refine A_istoren2 dX0_manyAhead_72 (by decide) rfl (bI_go h (G := fun z => AT l g RX0 cX0_manyAhead 5 (some .int) (rmM 1 22) (PI r Mr) 73 [some (.ref (g.1 9)), some (.int v1), some (.int z), some (.int v3), some (.int z2)] [] M5) (fun x6 h => ?_))
          refine A_iinc3 (d := 1) dX0_manyAhead_73 (by decide) (by decide) rfl ?_
          refine A_goto dX0_manyAhead_76 ?_
          exact A_le (lvLe_s (lvLe_s (lvLe_s (lvLe_s (lvLe_n lvLe_0))))) (ih4 _ _ _ K4 h hK4)
        refine A_if_eq dX0_manyAhead_55 (fun hc => ?_) (fun hc => ?_)
        · have h := gT_go hc h
          refine A_iconst (v := 0) dX0_manyAhead_70 (by decide) ?_
          exact A_le (lvLe_s (lvLe_s (lvLe_s (lvLe_s (lvLe_s lvLe_0))))) (JJ3 _ _ h)
        · have h := gF_go hc h
          refine A_aload_n dX0_manyAhead_58 rfl ?_
          refine A_iload_n dX0_manyAhead_59 rfl ?_
          obtain ⟨r8, M7, h1, h⟩ := bE_go h
          refine A_cVi1 dX0_manyAhead_60 ml_X0_66 mb_X0_hasRows mi_X0_hasRows ob9 rfl rfl ⟨Nat.le_of_ble_eq_true rfl, Nat.le_of_ble_eq_true rfl⟩ (Nat.le_of_ble_eq_true rfl) (ok_X0_hasRows h1) ?_
          refine A_if_eq dX0_manyAhead_63 (fun hc => ?_) (fun hc => ?_)
          · have h := gT_go hc h
            refine A_iconst (v := 0) dX0_manyAhead_70 (by decide) ?_
            exact A_le (lvLe_s (lvLe_s (lvLe_s (lvLe_s (lvLe_s lvLe_0))))) (JJ3 _ _ h)
          · have h := gF_go hc h
            refine A_iconst (v := 1) dX0_manyAhead_66 (by decide) ?_
            refine A_goto dX0_manyAhead_67 ?_
            exact A_le (lvLe_s (lvLe_s (lvLe_s (lvLe_s (lvLe_s lvLe_0))))) (JJ3 _ _ h)
      refine A_icmp_gt dX0_manyAhead_22 (fun hc => ?_) (fun hc => ?_)
      · have h := gT_go hc h
        refine A_iconst (v := 1) dX0_manyAhead_45 (by decide) ?_
        refine A_goto dX0_manyAhead_46 ?_
        exact A_le (lvLe_s (lvLe_s (lvLe_s (lvLe_s (lvLe_n lvLe_0))))) (JJ1 _ h)
      · have h := gF_go hc h
        refine A_aload_n dX0_manyAhead_25 rfl ?_
        refine A_getf dX0_manyAhead_26 fw_X0_19 ob9 rfl ?_
        refine A_iload_n dX0_manyAhead_29 rfl ?_
        obtain ⟨hg, h⟩ := gV_go h
        refine A_iald dX0_manyAhead_30 ia47 hg ?_
        refine A_aload_n dX0_manyAhead_31 rfl ?_
        refine A_getf dX0_manyAhead_32 fw_X0_19 ob9 rfl ?_
        refine A_iload_n dX0_manyAhead_35 rfl ?_
        obtain ⟨hg, h⟩ := gV_go h
        refine A_iald dX0_manyAhead_36 ia47 hg ?_
        refine A_icmp_ne dX0_manyAhead_37 (fun hc => ?_) (fun hc => ?_)
        · have h := gF_go hc h
          refine A_iconst (v := 0) dX0_manyAhead_49 (by decide) ?_
          exact A_le (lvLe_s (lvLe_s (lvLe_s (lvLe_s (lvLe_n lvLe_0))))) (JJ1 _ h)
        · have h := gT_go hc h
          refine A_iload_n dX0_manyAhead_40 rfl ?_
          refine A_iload_n dX0_manyAhead_41 rfl ?_
          refine A_icmp_ge dX0_manyAhead_42 (fun hc => ?_) (fun hc => ?_)
          · have h := gT_go hc h
            refine A_iconst (v := 0) dX0_manyAhead_49 (by decide) ?_
            exact A_le (lvLe_s (lvLe_s (lvLe_s (lvLe_s (lvLe_n lvLe_0))))) (JJ1 _ h)
          · have h := gF_go hc h
            refine A_iconst (v := 1) dX0_manyAhead_45 (by decide) ?_
            refine A_goto dX0_manyAhead_46 ?_
            exact A_le (lvLe_s (lvLe_s (lvLe_s (lvLe_s (lvLe_n lvLe_0))))) (JJ1 _ h)
def f_X0_manyAhead (v1 : Int32) (M : Mem) : Option Ret := f_X0_manyAhead_L4 v1 FU (0 : Int32) (0 : Int32) M (fun w9 w10 M11 => some (w9, M11))
set_option maxRecDepth 100000 in
theorem ok_X0_manyAhead {l : Launch} {g : Cx} {v1 : Int32} {M : Mem} {r : Int32} {Mr : Mem} (h : f_X0_manyAhead v1 M = some (r, Mr)) : CT l g yX0_manyAhead cX0_manyAhead 5 (some .int) 1 22 [.ref (g.1 9), .int v1] M (PI r Mr) := by
  refine CT_of (lv := [some (.ref (g.1 9)), some (.int v1), none, none, none]) (by decide) rfl (Nat.le_of_ble_eq_true rfl) ?_
  unfold f_X0_manyAhead at h
  refine A_iconst (v := 0) dX0_manyAhead_0 (by decide) ?_
  refine A_istoren2 dX0_manyAhead_1 (by decide) rfl ?_
  refine A_iconst (v := 0) dX0_manyAhead_2 (by decide) ?_
  refine A_istoren3 dX0_manyAhead_3 (by decide) rfl ?_
  refine f_X0_manyAhead_L4_ok _ FU _ _ _ _ h (fun w9 w10 M11 h => ?_)
  refine A_iload_n dX0_manyAhead_79 rfl ?_
  exact A_iret dX0_manyAhead_80 (pI_go h)
-- BenchTimes$Doubt.jobAt
theorem dX0_jobAt_0 : di cX0_jobAt 0 (.aload_n 0) 1 1 := ⟨by decide +kernel, rfl⟩
theorem dX0_jobAt_1 : di cX0_jobAt 1 (.invokevirtual 63) 3 4 := ⟨by decide +kernel, rfl⟩
theorem dX0_jobAt_4 : di cX0_jobAt 4 (.iconst 0) 1 5 := ⟨by decide +kernel, rfl⟩
theorem dX0_jobAt_5 : di cX0_jobAt 5 (.istore_n 2) 1 6 := ⟨by decide +kernel, rfl⟩
theorem dX0_jobAt_6 : di cX0_jobAt 6 (.iload_n 2) 1 7 := ⟨by decide +kernel, rfl⟩
theorem dX0_jobAt_7 : di cX0_jobAt 7 (.bipush 8) 2 9 := ⟨by decide +kernel, rfl⟩
theorem dX0_jobAt_9 : dj cX0_jobAt 9 (.if_icmp .ge) 12 37 := ⟨28, by decide +kernel, rfl, rfl⟩
theorem dX0_jobAt_12 : di cX0_jobAt 12 (.aload_n 0) 1 13 := ⟨by decide +kernel, rfl⟩
theorem dX0_jobAt_13 : di cX0_jobAt 13 (.iload_n 2) 1 14 := ⟨by decide +kernel, rfl⟩
theorem dX0_jobAt_14 : di cX0_jobAt 14 (.invokevirtual 66) 3 17 := ⟨by decide +kernel, rfl⟩
theorem dX0_jobAt_17 : dj cX0_jobAt 17 (.ifCond .eq) 20 31 := ⟨14, by decide +kernel, rfl, rfl⟩
theorem dX0_jobAt_20 : di cX0_jobAt 20 (.aload_n 0) 1 21 := ⟨by decide +kernel, rfl⟩
theorem dX0_jobAt_21 : di cX0_jobAt 21 (.iload_n 2) 1 22 := ⟨by decide +kernel, rfl⟩
theorem dX0_jobAt_22 : di cX0_jobAt 22 (.invokevirtual 70) 3 25 := ⟨by decide +kernel, rfl⟩
theorem dX0_jobAt_25 : di cX0_jobAt 25 (.iload_n 1) 1 26 := ⟨by decide +kernel, rfl⟩
theorem dX0_jobAt_26 : dj cX0_jobAt 26 (.if_icmp .ne) 29 31 := ⟨5, by decide +kernel, rfl, rfl⟩
theorem dX0_jobAt_29 : di cX0_jobAt 29 (.iload_n 2) 1 30 := ⟨by decide +kernel, rfl⟩
theorem dX0_jobAt_30 : di cX0_jobAt 30 (.ireturn) 1 31 := ⟨by decide +kernel, rfl⟩
theorem dX0_jobAt_31 : di cX0_jobAt 31 (.iinc 2 1) 3 34 := ⟨by decide +kernel, rfl⟩
theorem dX0_jobAt_34 : dj cX0_jobAt 34 .goto 37 6 := ⟨-28, by decide +kernel, rfl, rfl⟩
theorem dX0_jobAt_37 : di cX0_jobAt 37 (.iconst (-1)) 1 38 := ⟨by decide +kernel, rfl⟩
theorem dX0_jobAt_38 : di cX0_jobAt 38 (.ireturn) 1 39 := ⟨by decide +kernel, rfl⟩
def f_X0_jobAt_L6 (v1 : Int32) : Nat → Int32 → Mem → (Int32 → Mem → Option Ret) → Option Ret
  | 0, _, _, _ => none
  | k6 + 1, v2, M, K6 => if (8 : Int32) ≤ v2 then (K6 v2 M) else (bE (f_X0_hasRows v2 M) (fun r4 M3 => if r4 = 0 then (f_X0_jobAt_L6 v1 k6 (v2 + (1 : Int32)) M3 K6) else (bE (f_X0_manyAhead v2 M3) (fun r6 M5 => if r6 = v1 then (some (v2, M5)) else (f_X0_jobAt_L6 v1 k6 (v2 + (1 : Int32)) M5 K6)))))
set_option maxRecDepth 100000 in
theorem f_X0_jobAt_L6_ok {l : Launch} {g : Cx} (v1 : Int32)  {r : Int32} {Mr : Mem} : ∀ (k : Nat) (v2 : Int32) (M : Mem) (K6 : Int32 → Mem → Option Ret), f_X0_jobAt_L6 v1 k v2 M K6 = some (r, Mr) → (∀ (v2 : Int32) (M : Mem), K6 v2 M = some (r, Mr) → AT l g RX0 cX0_jobAt 3 (some .int) (rmM 3 73) (PI r Mr) 37 [some (.ref (g.1 9)), some (.int v1), some (.int v2)] [] M) → AT l g RX0 cX0_jobAt 3 (some .int) (rmM 3 73) (PI r Mr) 6 [some (.ref (g.1 9)), some (.int v1), some (.int v2)] [] M
  | 0, v2, M, K6, h, hK6 => by cases h
  | k6 + 1, v2, M, K6, h, hK6 => by
    have ih6 := f_X0_jobAt_L6_ok (l := l) (g := g) v1 (r := r) (Mr := Mr) k6
    rw [f_X0_jobAt_L6] at h
    refine A_iload_n dX0_jobAt_6 rfl ?_
    refine A_bipush (v := 8) dX0_jobAt_7 (by decide) ?_
    refine A_icmp_ge dX0_jobAt_9 (fun hc => ?_) (fun hc => ?_)
    · have h := gT_go hc h
      exact A_le (lvLe_s (lvLe_s (lvLe_s lvLe_0))) (hK6 _ _ h)
    · have h := gF_go hc h
      refine A_aload_n dX0_jobAt_12 rfl ?_
      refine A_iload_n dX0_jobAt_13 rfl ?_
      obtain ⟨r4, M3, h1, h⟩ := bE_go h
      refine A_cVi1 dX0_jobAt_14 ml_X0_66 mb_X0_hasRows mi_X0_hasRows ob9 rfl rfl ⟨Nat.le_of_ble_eq_true rfl, Nat.le_of_ble_eq_true rfl⟩ (Nat.le_of_ble_eq_true rfl) (ok_X0_hasRows h1) ?_
      refine A_if_eq dX0_jobAt_17 (fun hc => ?_) (fun hc => ?_)
      · have h := gT_go hc h
        refine A_iinc2 (d := 1) dX0_jobAt_31 (by decide) (by decide) rfl ?_
        refine A_goto dX0_jobAt_34 ?_
        exact A_le (lvLe_s (lvLe_s (lvLe_s lvLe_0))) (ih6 _ _ K6 h hK6)
      · have h := gF_go hc h
        refine A_aload_n dX0_jobAt_20 rfl ?_
        refine A_iload_n dX0_jobAt_21 rfl ?_
        obtain ⟨r6, M5, h1, h⟩ := bE_go h
        refine A_cVi1 dX0_jobAt_22 ml_X0_70 mb_X0_manyAhead mi_X0_manyAhead ob9 rfl rfl ⟨Nat.le_of_ble_eq_true rfl, Nat.le_of_ble_eq_true rfl⟩ (Nat.le_of_ble_eq_true rfl) (ok_X0_manyAhead h1) ?_
        refine A_iload_n dX0_jobAt_25 rfl ?_
        refine A_icmp_ne dX0_jobAt_26 (fun hc => ?_) (fun hc => ?_)
        · have h := gF_go hc h
          refine A_iinc2 (d := 1) dX0_jobAt_31 (by decide) (by decide) rfl ?_
          refine A_goto dX0_jobAt_34 ?_
          exact A_le (lvLe_s (lvLe_s (lvLe_s lvLe_0))) (ih6 _ _ K6 h hK6)
        · have h := gT_go hc h
          refine A_iload_n dX0_jobAt_29 rfl ?_
          exact A_iret dX0_jobAt_30 (pI_go h)
def f_X0_jobAt (v1 : Int32) (M : Mem) : Option Ret := bE (f_X0_reckonScores M) (fun r2 M1 => f_X0_jobAt_L6 v1 FU (0 : Int32) M1 (fun w7 M8 => some ((-1 : Int32), M8)))
set_option maxRecDepth 100000 in
theorem ok_X0_jobAt {l : Launch} {g : Cx} {v1 : Int32} {M : Mem} {r : Int32} {Mr : Mem} (h : f_X0_jobAt v1 M = some (r, Mr)) : CT l g yX0_jobAt cX0_jobAt 3 (some .int) 3 73 [.ref (g.1 9), .int v1] M (PI r Mr) := by
  refine CT_of (lv := [some (.ref (g.1 9)), some (.int v1), none]) (by decide) rfl (Nat.le_of_ble_eq_true rfl) ?_
  unfold f_X0_jobAt at h
  refine A_aload_n dX0_jobAt_0 rfl ?_
  obtain ⟨r2, M1, h1, h⟩ := bE_go h
  refine A_cVv0 dX0_jobAt_1 ml_X0_63 mb_X0_reckonScores mi_X0_reckonScores ob9 rfl rfl ⟨Nat.le_of_ble_eq_true rfl, Nat.le_of_ble_eq_true rfl⟩ (Nat.le_of_ble_eq_true rfl) (ok_X0_reckonScores h1) ?_
  refine A_iconst (v := 0) dX0_jobAt_4 (by decide) ?_
  refine A_istoren2 dX0_jobAt_5 (by decide) rfl ?_
  refine f_X0_jobAt_L6_ok _ FU _ _ _ h (fun w7 M8 h => ?_)
  refine A_iconst (v := -1) dX0_jobAt_37 (by decide) ?_
  exact A_iret dX0_jobAt_38 (pI_go h)
-- BenchTimes$Elements.isKind
theorem dX1_isKind_0 : di cX1_isKind 0 (.iload_n 0) 1 1 := ⟨by decide +kernel, rfl⟩
theorem dX1_isKind_1 : di cX1_isKind 1 (.iconst 0) 1 2 := ⟨by decide +kernel, rfl⟩
theorem dX1_isKind_2 : di cX1_isKind 2 (.iconst 3) 1 3 := ⟨by decide +kernel, rfl⟩
theorem dX1_isKind_3 : di cX1_isKind 3 (.invokestatic 22) 3 6 := ⟨by decide +kernel, rfl⟩
theorem dX1_isKind_6 : di cX1_isKind 6 (.ireturn) 1 7 := ⟨by decide +kernel, rfl⟩
def f_X1_isKind (v0 : Int32) (M : Mem) : Option Ret := bE (f_X10_isWithin v0 (0 : Int32) (3 : Int32) M) (fun r2 M1 => gZ r2 (some (r2, M1)))
set_option maxRecDepth 100000 in
theorem ok_X1_isKind {l : Launch} {g : Cx} {v0 : Int32} {M : Mem} {r : Int32} {Mr : Mem} (h : f_X1_isKind v0 M = some (r, Mr)) : CT l g yX1_isKind cX1_isKind 1 (some .boolean) 1 22 [.int v0] M (PI r Mr) := by
  refine CT_of (lv := [some (.int v0)]) (by decide) rfl (Nat.le_of_ble_eq_true rfl) ?_
  unfold f_X1_isKind at h
  refine A_iload_n dX1_isKind_0 rfl ?_
  refine A_iconst (v := 0) dX1_isKind_1 (by decide) ?_
  refine A_iconst (v := 3) dX1_isKind_2 (by decide) ?_
  obtain ⟨r2, M1, h1, h⟩ := bE_go h
  refine A_cNi3 dX1_isKind_3 nl_X1_22 mb_X10_isWithin ms_X10_isWithin ⟨Nat.le_of_ble_eq_true rfl, Nat.le_of_ble_eq_true rfl⟩ (Nat.le_of_ble_eq_true rfl) (ok_X10_isWithin h1) ?_
  obtain ⟨hg, h⟩ := gZ_go h
  exact A_zret dX1_isKind_6 hg (pI_go h)
-- BenchTimes$Elements.many
theorem dX1_many_0 : di cX1_many 0 (.aload_n 0) 1 1 := ⟨by decide +kernel, rfl⟩
theorem dX1_many_1 : di cX1_many 1 (.getfield 26) 3 4 := ⟨by decide +kernel, rfl⟩
theorem dX1_many_4 : di cX1_many 4 (.ireturn) 1 5 := ⟨by decide +kernel, rfl⟩
def f_X1_many  (M : Mem) : Option Ret := some (M.1 1 1, M)
set_option maxRecDepth 100000 in
theorem ok_X1_many {l : Launch} {g : Cx}  {M : Mem} {r : Int32} {Mr : Mem} (h : f_X1_many  M = some (r, Mr)) : CT l g yX1_many cX1_many 1 (some .int) 0 0 [.ref (g.1 1)] M (PI r Mr) := by
  refine CT_of (lv := [some (.ref (g.1 1))]) (by decide) rfl (Nat.le_of_ble_eq_true rfl) ?_
  unfold f_X1_many at h
  refine A_aload_n dX1_many_0 rfl ?_
  refine A_getf dX1_many_1 fw_X1_26 ob1 rfl ?_
  exact A_iret dX1_many_4 (pI_go h)
-- BenchTimes$Elements.has
theorem dX1_has_0 : di cX1_has 0 (.iload_n 1) 1 1 := ⟨by decide +kernel, rfl⟩
theorem dX1_has_1 : di cX1_has 1 (.iconst 0) 1 2 := ⟨by decide +kernel, rfl⟩
theorem dX1_has_2 : di cX1_has 2 (.aload_n 0) 1 3 := ⟨by decide +kernel, rfl⟩
theorem dX1_has_3 : di cX1_has 3 (.getfield 26) 3 6 := ⟨by decide +kernel, rfl⟩
theorem dX1_has_6 : di cX1_has 6 (.iconst 1) 1 7 := ⟨by decide +kernel, rfl⟩
theorem dX1_has_7 : di cX1_has 7 (.isub) 1 8 := ⟨by decide +kernel, rfl⟩
theorem dX1_has_8 : di cX1_has 8 (.invokestatic 22) 3 11 := ⟨by decide +kernel, rfl⟩
theorem dX1_has_11 : di cX1_has 11 (.ireturn) 1 12 := ⟨by decide +kernel, rfl⟩
def f_X1_has (v1 : Int32) (M : Mem) : Option Ret := bE (f_X10_isWithin v1 (0 : Int32) ((M.1 1 1) - (1 : Int32)) M) (fun r2 M1 => gZ r2 (some (r2, M1)))
set_option maxRecDepth 100000 in
theorem ok_X1_has {l : Launch} {g : Cx} {v1 : Int32} {M : Mem} {r : Int32} {Mr : Mem} (h : f_X1_has v1 M = some (r, Mr)) : CT l g yX1_has cX1_has 2 (some .boolean) 1 22 [.ref (g.1 1), .int v1] M (PI r Mr) := by
  refine CT_of (lv := [some (.ref (g.1 1)), some (.int v1)]) (by decide) rfl (Nat.le_of_ble_eq_true rfl) ?_
  unfold f_X1_has at h
  refine A_iload_n dX1_has_0 rfl ?_
  refine A_iconst (v := 0) dX1_has_1 (by decide) ?_
  refine A_aload_n dX1_has_2 rfl ?_
  refine A_getf dX1_has_3 fw_X1_26 ob1 rfl ?_
  refine A_iconst (v := 1) dX1_has_6 (by decide) ?_
  refine A_isub dX1_has_7 ?_
  obtain ⟨r2, M1, h1, h⟩ := bE_go h
  refine A_cNi3 dX1_has_8 nl_X1_22 mb_X10_isWithin ms_X10_isWithin ⟨Nat.le_of_ble_eq_true rfl, Nat.le_of_ble_eq_true rfl⟩ (Nat.le_of_ble_eq_true rfl) (ok_X10_isWithin h1) ?_
  obtain ⟨hg, h⟩ := gZ_go h
  exact A_zret dX1_has_11 hg (pI_go h)
-- BenchTimes$Elements.isFull
theorem dX1_isFull_0 : di cX1_isFull 0 (.aload_n 0) 1 1 := ⟨by decide +kernel, rfl⟩
theorem dX1_isFull_1 : di cX1_isFull 1 (.getfield 26) 3 4 := ⟨by decide +kernel, rfl⟩
theorem dX1_isFull_4 : di cX1_isFull 4 (.bipush 12) 2 6 := ⟨by decide +kernel, rfl⟩
theorem dX1_isFull_6 : dj cX1_isFull 6 (.if_icmp .lt) 9 13 := ⟨7, by decide +kernel, rfl, rfl⟩
theorem dX1_isFull_9 : di cX1_isFull 9 (.iconst 1) 1 10 := ⟨by decide +kernel, rfl⟩
theorem dX1_isFull_10 : dj cX1_isFull 10 .goto 13 14 := ⟨4, by decide +kernel, rfl, rfl⟩
theorem dX1_isFull_13 : di cX1_isFull 13 (.iconst 0) 1 14 := ⟨by decide +kernel, rfl⟩
theorem dX1_isFull_14 : di cX1_isFull 14 (.ireturn) 1 15 := ⟨by decide +kernel, rfl⟩
def f_X1_isFull  (M : Mem) : Option Ret := jn (α := Int32 → Option Ret) (fun (z2 : Int32) => gZ z2 (some (z2, M))) (fun J1 => if (M.1 1 1) < (12 : Int32) then (J1 (0 : Int32)) else (J1 (1 : Int32)))
set_option maxRecDepth 100000 in
theorem ok_X1_isFull {l : Launch} {g : Cx}  {M : Mem} {r : Int32} {Mr : Mem} (h : f_X1_isFull  M = some (r, Mr)) : CT l g yX1_isFull cX1_isFull 1 (some .boolean) 0 0 [.ref (g.1 1)] M (PI r Mr) := by
  refine CT_of (lv := [some (.ref (g.1 1))]) (by decide) rfl (Nat.le_of_ble_eq_true rfl) ?_
  unfold f_X1_isFull at h
  refine A_aload_n dX1_isFull_0 rfl ?_
  refine A_getf dX1_isFull_1 fw_X1_26 ob1 rfl ?_
  refine A_bipush (v := 12) dX1_isFull_4 (by decide) ?_
  obtain ⟨J1, hJ1, h⟩ := jn_go h
  have JJ1 : ∀ (z2 : Int32), J1 z2 = some (r, Mr) → AT l g RX1 cX1_isFull 1 (some .boolean) (rmM 0 0) (PI r Mr) 14 [some (.ref (g.1 1))] [.int z2] M := by
    intro z2 h
    rw [hJ1] at h
    obtain ⟨hg, h⟩ := gZ_go h
    exact A_zret dX1_isFull_14 hg (pI_go h)
  refine A_icmp_lt dX1_isFull_6 (fun hc => ?_) (fun hc => ?_)
  · have h := gT_go hc h
    refine A_iconst (v := 0) dX1_isFull_13 (by decide) ?_
    exact A_le (lvLe_s lvLe_0) (JJ1 _ h)
  · have h := gF_go hc h
    refine A_iconst (v := 1) dX1_isFull_9 (by decide) ?_
    refine A_goto dX1_isFull_10 ?_
    exact A_le (lvLe_s lvLe_0) (JJ1 _ h)
-- BenchTimes$Elements.add
theorem dX1_add_0 : di cX1_add 0 (.aload_n 0) 1 1 := ⟨by decide +kernel, rfl⟩
theorem dX1_add_1 : di cX1_add 1 (.getfield 11) 3 4 := ⟨by decide +kernel, rfl⟩
theorem dX1_add_4 : di cX1_add 4 (.aload_n 0) 1 5 := ⟨by decide +kernel, rfl⟩
theorem dX1_add_5 : di cX1_add 5 (.getfield 26) 3 8 := ⟨by decide +kernel, rfl⟩
theorem dX1_add_8 : di cX1_add 8 (.iload_n 1) 1 9 := ⟨by decide +kernel, rfl⟩
theorem dX1_add_9 : di cX1_add 9 (.iastore) 1 10 := ⟨by decide +kernel, rfl⟩
theorem dX1_add_10 : di cX1_add 10 (.aload_n 0) 1 11 := ⟨by decide +kernel, rfl⟩
theorem dX1_add_11 : di cX1_add 11 (.dup) 1 12 := ⟨by decide +kernel, rfl⟩
theorem dX1_add_12 : di cX1_add 12 (.getfield 26) 3 15 := ⟨by decide +kernel, rfl⟩
theorem dX1_add_15 : di cX1_add 15 (.iconst 1) 1 16 := ⟨by decide +kernel, rfl⟩
theorem dX1_add_16 : di cX1_add 16 (.iadd) 1 17 := ⟨by decide +kernel, rfl⟩
theorem dX1_add_17 : di cX1_add 17 (.putfield 26) 3 20 := ⟨by decide +kernel, rfl⟩
theorem dX1_add_20 : di cX1_add 20 (.aload_n 0) 1 21 := ⟨by decide +kernel, rfl⟩
theorem dX1_add_21 : di cX1_add 21 (.getfield 26) 3 24 := ⟨by decide +kernel, rfl⟩
theorem dX1_add_24 : di cX1_add 24 (.iconst 1) 1 25 := ⟨by decide +kernel, rfl⟩
theorem dX1_add_25 : di cX1_add 25 (.isub) 1 26 := ⟨by decide +kernel, rfl⟩
theorem dX1_add_26 : di cX1_add 26 (.ireturn) 1 27 := ⟨by decide +kernel, rfl⟩
def f_X1_add (v1 : Int32) (M : Mem) : Option Ret := gV (M.1 1 1) 12 (bM (up2 M 14 (M.1 1 1).toNatClampNeg v1) (fun M1 => bM (up2 M1 1 1 ((M1.1 1 1) + (1 : Int32))) (fun M2 => some ((M2.1 1 1) - (1 : Int32), M2))))
set_option maxRecDepth 100000 in
theorem ok_X1_add {l : Launch} {g : Cx} {v1 : Int32} {M : Mem} {r : Int32} {Mr : Mem} (h : f_X1_add v1 M = some (r, Mr)) : CT l g yX1_add cX1_add 2 (some .int) 0 0 [.ref (g.1 1), .int v1] M (PI r Mr) := by
  refine CT_of (lv := [some (.ref (g.1 1)), some (.int v1)]) (by decide) rfl (Nat.le_of_ble_eq_true rfl) ?_
  unfold f_X1_add at h
  refine A_aload_n dX1_add_0 rfl ?_
  refine A_getf dX1_add_1 fw_X1_11 ob1 rfl ?_
  refine A_aload_n dX1_add_4 rfl ?_
  refine A_getf dX1_add_5 fw_X1_26 ob1 rfl ?_
  refine A_iload_n dX1_add_8 rfl ?_
  obtain ⟨hg, h⟩ := gV_go h
  refine A_iast dX1_add_9 ia14 hg (bM_go h (fun M1 h => ?_))
  refine A_aload_n dX1_add_10 rfl ?_
  refine A_dup dX1_add_11 rfl ?_
  refine A_getf dX1_add_12 fw_X1_26 ob1 rfl ?_
  refine A_iconst (v := 1) dX1_add_15 (by decide) ?_
  refine A_iadd dX1_add_16 ?_
  refine A_putf dX1_add_17 pw_X1_26 ob1 pf1_1 (Nat.le_of_ble_eq_true rfl) (bM_go h (fun M2 h => ?_))
  refine A_aload_n dX1_add_20 rfl ?_
  refine A_getf dX1_add_21 fw_X1_26 ob1 rfl ?_
  refine A_iconst (v := 1) dX1_add_24 (by decide) ?_
  refine A_isub dX1_add_25 ?_
  exact A_iret dX1_add_26 (pI_go h)
-- BenchTimes$Elements.kindOf
theorem dX1_kindOf_0 : di cX1_kindOf 0 (.aload_n 0) 1 1 := ⟨by decide +kernel, rfl⟩
theorem dX1_kindOf_1 : di cX1_kindOf 1 (.getfield 11) 3 4 := ⟨by decide +kernel, rfl⟩
theorem dX1_kindOf_4 : di cX1_kindOf 4 (.iload_n 1) 1 5 := ⟨by decide +kernel, rfl⟩
theorem dX1_kindOf_5 : di cX1_kindOf 5 (.iaload) 1 6 := ⟨by decide +kernel, rfl⟩
theorem dX1_kindOf_6 : di cX1_kindOf 6 (.ireturn) 1 7 := ⟨by decide +kernel, rfl⟩
def f_X1_kindOf (v1 : Int32) (M : Mem) : Option Ret := gV v1 12 (some (M.1 14 v1.toNatClampNeg, M))
set_option maxRecDepth 100000 in
theorem ok_X1_kindOf {l : Launch} {g : Cx} {v1 : Int32} {M : Mem} {r : Int32} {Mr : Mem} (h : f_X1_kindOf v1 M = some (r, Mr)) : CT l g yX1_kindOf cX1_kindOf 2 (some .int) 0 0 [.ref (g.1 1), .int v1] M (PI r Mr) := by
  refine CT_of (lv := [some (.ref (g.1 1)), some (.int v1)]) (by decide) rfl (Nat.le_of_ble_eq_true rfl) ?_
  unfold f_X1_kindOf at h
  refine A_aload_n dX1_kindOf_0 rfl ?_
  refine A_getf dX1_kindOf_1 fw_X1_11 ob1 rfl ?_
  refine A_iload_n dX1_kindOf_4 rfl ?_
  obtain ⟨hg, h⟩ := gV_go h
  refine A_iald dX1_kindOf_5 ia14 hg ?_
  exact A_iret dX1_kindOf_6 (pI_go h)
-- BenchTimes$Elements.isUnder
theorem dX1_isUnder_0 : di cX1_isUnder 0 (.aload_n 0) 1 1 := ⟨by decide +kernel, rfl⟩
theorem dX1_isUnder_1 : di cX1_isUnder 1 (.getfield 11) 3 4 := ⟨by decide +kernel, rfl⟩
theorem dX1_isUnder_4 : di cX1_isUnder 4 (.iload_n 1) 1 5 := ⟨by decide +kernel, rfl⟩
theorem dX1_isUnder_5 : di cX1_isUnder 5 (.iaload) 1 6 := ⟨by decide +kernel, rfl⟩
theorem dX1_isUnder_6 : di cX1_isUnder 6 (.istore_n 3) 1 7 := ⟨by decide +kernel, rfl⟩
theorem dX1_isUnder_7 : di cX1_isUnder 7 (.iconst 0) 1 8 := ⟨by decide +kernel, rfl⟩
theorem dX1_isUnder_8 : di cX1_isUnder 8 (.istore 4) 2 10 := ⟨by decide +kernel, rfl⟩
theorem dX1_isUnder_10 : di cX1_isUnder 10 (.iload 4) 2 12 := ⟨by decide +kernel, rfl⟩
theorem dX1_isUnder_12 : di cX1_isUnder 12 (.getstatic 29) 3 15 := ⟨by decide +kernel, rfl⟩
theorem dX1_isUnder_15 : di cX1_isUnder 15 (.arraylength) 1 16 := ⟨by decide +kernel, rfl⟩
theorem dX1_isUnder_16 : dj cX1_isUnder 16 (.if_icmp .ge) 19 43 := ⟨27, by decide +kernel, rfl, rfl⟩
theorem dX1_isUnder_19 : di cX1_isUnder 19 (.iload_n 3) 1 20 := ⟨by decide +kernel, rfl⟩
theorem dX1_isUnder_20 : di cX1_isUnder 20 (.iconst (-1)) 1 21 := ⟨by decide +kernel, rfl⟩
theorem dX1_isUnder_21 : dj cX1_isUnder 21 (.if_icmp .eq) 24 43 := ⟨22, by decide +kernel, rfl, rfl⟩
theorem dX1_isUnder_24 : di cX1_isUnder 24 (.iload_n 3) 1 25 := ⟨by decide +kernel, rfl⟩
theorem dX1_isUnder_25 : di cX1_isUnder 25 (.iload_n 2) 1 26 := ⟨by decide +kernel, rfl⟩
theorem dX1_isUnder_26 : dj cX1_isUnder 26 (.if_icmp .ne) 29 31 := ⟨5, by decide +kernel, rfl, rfl⟩
theorem dX1_isUnder_29 : di cX1_isUnder 29 (.iconst 1) 1 30 := ⟨by decide +kernel, rfl⟩
theorem dX1_isUnder_30 : di cX1_isUnder 30 (.ireturn) 1 31 := ⟨by decide +kernel, rfl⟩
theorem dX1_isUnder_31 : di cX1_isUnder 31 (.getstatic 29) 3 34 := ⟨by decide +kernel, rfl⟩
theorem dX1_isUnder_34 : di cX1_isUnder 34 (.iload_n 3) 1 35 := ⟨by decide +kernel, rfl⟩
theorem dX1_isUnder_35 : di cX1_isUnder 35 (.iaload) 1 36 := ⟨by decide +kernel, rfl⟩
theorem dX1_isUnder_36 : di cX1_isUnder 36 (.istore_n 3) 1 37 := ⟨by decide +kernel, rfl⟩
theorem dX1_isUnder_37 : di cX1_isUnder 37 (.iinc 4 1) 3 40 := ⟨by decide +kernel, rfl⟩
theorem dX1_isUnder_40 : dj cX1_isUnder 40 .goto 43 10 := ⟨-30, by decide +kernel, rfl, rfl⟩
theorem dX1_isUnder_43 : di cX1_isUnder 43 (.iconst 0) 1 44 := ⟨by decide +kernel, rfl⟩
theorem dX1_isUnder_44 : di cX1_isUnder 44 (.ireturn) 1 45 := ⟨by decide +kernel, rfl⟩
def f_X1_isUnder_L10 (v1 : Int32) (v2 : Int32) : Nat → Int32 → Int32 → Mem → (Int32 → Int32 → Mem → Option Ret) → Option Ret
  | 0, _, _, _, _ => none
  | k10 + 1, v3, v4, M, K10 => if (4 : Int32) ≤ v4 then (K10 v3 v4 M) else (if v3 = (-1 : Int32) then (K10 v3 v4 M) else (if v3 = v2 then (some ((1 : Int32), M)) else (gV v3 4 (bI (tbA v3.toNatClampNeg) (fun x2 => f_X1_isUnder_L10 v1 v2 k10 x2 (v4 + (1 : Int32)) M K10)))))
set_option maxRecDepth 100000 in
theorem f_X1_isUnder_L10_ok {l : Launch} {g : Cx} (v1 : Int32) (v2 : Int32)  {r : Int32} {Mr : Mem} : ∀ (k : Nat) (v3 : Int32) (v4 : Int32) (M : Mem) (K10 : Int32 → Int32 → Mem → Option Ret), f_X1_isUnder_L10 v1 v2 k v3 v4 M K10 = some (r, Mr) → (∀ (v3 : Int32) (v4 : Int32) (M : Mem), K10 v3 v4 M = some (r, Mr) → AT l g RX1 cX1_isUnder 5 (some .boolean) (rmM 0 0) (PI r Mr) 43 [some (.ref (g.1 1)), some (.int v1), some (.int v2), some (.int v3), some (.int v4)] [] M) → AT l g RX1 cX1_isUnder 5 (some .boolean) (rmM 0 0) (PI r Mr) 10 [some (.ref (g.1 1)), some (.int v1), some (.int v2), some (.int v3), some (.int v4)] [] M
  | 0, v3, v4, M, K10, h, hK10 => by cases h
  | k10 + 1, v3, v4, M, K10, h, hK10 => by
    have ih10 := f_X1_isUnder_L10_ok (l := l) (g := g) v1 v2 (r := r) (Mr := Mr) k10
    rw [f_X1_isUnder_L10] at h
    refine A_iload dX1_isUnder_10 rfl ?_
    refine A_gets dX1_isUnder_12 sl_X1_29 (fun _ _ _ hst => hst.1.1) ?_
    refine A_tlen (v := 4) dX1_isUnder_15 (fun _ _ _ hst => hst.1.2) (by decide) ?_
    refine A_icmp_ge dX1_isUnder_16 (fun hc => ?_) (fun hc => ?_)
    · have h := gT_go hc h
      exact A_le (lvLe_s (lvLe_s (lvLe_s (lvLe_s (lvLe_s lvLe_0))))) (hK10 _ _ _ h)
    · have h := gF_go hc h
      refine A_iload_n dX1_isUnder_19 rfl ?_
      refine A_iconst (v := -1) dX1_isUnder_20 (by decide) ?_
      refine A_icmp_eq dX1_isUnder_21 (fun hc => ?_) (fun hc => ?_)
      · have h := gT_go hc h
        exact A_le (lvLe_s (lvLe_s (lvLe_s (lvLe_s (lvLe_s lvLe_0))))) (hK10 _ _ _ h)
      · have h := gF_go hc h
        refine A_iload_n dX1_isUnder_24 rfl ?_
        refine A_iload_n dX1_isUnder_25 rfl ?_
        refine A_icmp_ne dX1_isUnder_26 (fun hc => ?_) (fun hc => ?_)
        · have h := gF_go hc h
          refine A_gets dX1_isUnder_31 sl_X1_29 (fun _ _ _ hst => hst.1.1) ?_
          refine A_iload_n dX1_isUnder_34 rfl ?_
          obtain ⟨hg, h⟩ := gV_go h
          refine A_tald (f := tbA) dX1_isUnder_35 (fun _ _ _ hst => hst.1.2) hg ?_
          refine A_istoren3 dX1_isUnder_36 (by decide) rfl (bI_go h (G := fun z => AT l g RX1 cX1_isUnder 5 (some .boolean) (rmM 0 0) (PI r Mr) 37 [some (.ref (g.1 1)), some (.int v1), some (.int v2), some (.int z), some (.int v4)] [] M) (fun x2 h => ?_))
          refine A_iinc4 (d := 1) dX1_isUnder_37 (by decide) (by decide) rfl ?_
          refine A_goto dX1_isUnder_40 ?_
          exact A_le (lvLe_s (lvLe_s (lvLe_s (lvLe_s (lvLe_s lvLe_0))))) (ih10 _ _ _ K10 h hK10)
        · have h := gT_go hc h
          refine A_iconst (v := 1) dX1_isUnder_29 (by decide) ?_
          exact A_zret dX1_isUnder_30 (by decide) (pI_go h)
def f_X1_isUnder (v1 : Int32) (v2 : Int32) (M : Mem) : Option Ret := gV v1 12 (bI (M.1 14 v1.toNatClampNeg) (fun x1 => f_X1_isUnder_L10 v1 v2 FU x1 (0 : Int32) M (fun w3 w4 M5 => some ((0 : Int32), M5))))
set_option maxRecDepth 100000 in
theorem ok_X1_isUnder {l : Launch} {g : Cx} {v1 : Int32} {v2 : Int32} {M : Mem} {r : Int32} {Mr : Mem} (h : f_X1_isUnder v1 v2 M = some (r, Mr)) : CT l g yX1_isUnder cX1_isUnder 5 (some .boolean) 0 0 [.ref (g.1 1), .int v1, .int v2] M (PI r Mr) := by
  refine CT_of (lv := [some (.ref (g.1 1)), some (.int v1), some (.int v2), none, none]) (by decide) rfl (Nat.le_of_ble_eq_true rfl) ?_
  unfold f_X1_isUnder at h
  refine A_aload_n dX1_isUnder_0 rfl ?_
  refine A_getf dX1_isUnder_1 fw_X1_11 ob1 rfl ?_
  refine A_iload_n dX1_isUnder_4 rfl ?_
  obtain ⟨hg, h⟩ := gV_go h
  refine A_iald dX1_isUnder_5 ia14 hg ?_
  refine A_istoren3 dX1_isUnder_6 (by decide) rfl (bI_go h (G := fun z => AT l g RX1 cX1_isUnder 5 (some .boolean) (rmM 0 0) (PI r Mr) 7 [some (.ref (g.1 1)), some (.int v1), some (.int v2), some (.int z), none] [] M) (fun x1 h => ?_))
  refine A_iconst (v := 0) dX1_isUnder_7 (by decide) ?_
  refine A_istore4 dX1_isUnder_8 (by decide) rfl ?_
  refine f_X1_isUnder_L10_ok _ _ FU _ _ _ _ h (fun w3 w4 M5 h => ?_)
  refine A_iconst (v := 0) dX1_isUnder_43 (by decide) ?_
  exact A_zret dX1_isUnder_44 (by decide) (pI_go h)
